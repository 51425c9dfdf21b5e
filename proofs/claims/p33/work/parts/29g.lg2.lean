/-! the law's row against a reference row: builds -/
theorem BLD.s {Y : yT} {vs ks L : List Nat} {ca : Nat → Nat} {g : Nat → Int32} {f f' : Nat → va_E} (h : BLD Y vs L ca g f f') (hvo : VO L vs f) (hS : SO L ks f) (hO : CO Y L ca f) {y : Nat} (hy : y ∈ ks) : f' y = f y := h.1 y (fun q => V_S (hvo.2 y q).2 (hS.2 y hy).2) (fun l hl e => S_C (hS.2 y hy).2 (e ▸ (hO.1 l hl).2))
theorem BLD.so {Y : yT} {vs ks L : List Nat} {ca : Nat → Nat} {g : Nat → Int32} {f f' : Nat → va_E} (h : BLD Y vs L ca g f f') (hvo : VO L vs f) (hS : SO L ks f) (hO : CO Y L ca f) : SO L ks f' := ⟨hS.1, fun y hy => ⟨(hS.2 y hy).1, by rw [h.s hvo hS hO hy]; exact (hS.2 y hy).2⟩⟩
theorem LG.build {Y : yT} {vs ks L : List Nat} {ca : Nat → Nat} {f f' : Nat → va_E} {ru mo lk wn qu bu : Int32} {g g' : Nat → Int32} {Pk : kL} (h : LG vs ks ca f ru mo lk wn qu bu g Pk) (n40 : vs.length ≤ 40) (hvo : VO L vs f) (hS : SO L ks f) (hO : CO Y L ca f) (hB : BLD Y vs L ca g f f') (hI : BI g g' vs.length) : LG vs ks ca f' ru mo lk (wn + nI (cs (fun l => vs.length + 1 - 2 ^ l) 5)) qu (bu + 1) g' Pk := by
  obtain ⟨⟨h1, h2⟩, hc, ⟨i1, i2, i3, i4, i5, i6⟩, ⟨r1, r2, r3⟩, hl, hv, hk⟩ := h
  obtain ⟨b0, b8, b10, bw, bc⟩ := hI
  refine ⟨⟨fun p v hp => ?_, fun p v hp => ?_⟩, fun l p q1 q5 q2 => ?_, ⟨?_, ?_, ?_, ?_, ?_, ?_⟩, ⟨r1, ?_, fun k a b q => ?_⟩, hl, hv, fun k y q => ?_⟩
  · have hpn := (List.getElem?_eq_some_iff.mp hp).1
    rw [b0 _ (by omega) (by omega) (by omega), hB.2.1 v (List.mem_of_getElem? hp)]
    exact h1 p v hp
  · have hpn := (List.getElem?_eq_some_iff.mp hp).1
    rw [bw p (by omega), hB.2.1 v (List.mem_of_getElem? hp)]; rfl
  · have h0 : 0 < 2 ^ l := Nat.two_pow_pos l
    exact ⟨lm g p (2 ^ l - 1), bc l p q1 q5 q2, lm_n (by omega), hB.2.2.2 l p q1 q5 q2⟩
  · rw [b0 _ (by decide) (by decide) (by decide)]; exact i1
  · rw [b0 _ (by decide) (by decide) (by decide)]; exact i2
  · rw [b0 _ (by decide) (by decide) (by decide)]; exact i3
  · rw [b8, i4]
  · rw [b0 _ (by decide) (by decide) (by decide)]; exact i5
  · rw [b10, i6]
  · rw [b0 _ (by decide) (by decide) (by decide)]; exact r2
  · rw [b0 _ (by omega) (by omega) (by omega), b0 _ (by omega) (by omega) (by omega)]; exact r3 k a b q
  · obtain ⟨a, b, e1, e2, e3⟩ := hk k y q
    rw [hB.s hvo hS hO (List.mem_of_getElem? q)]
    exact ⟨a, b, e1, e2, e3⟩
/-- another rule -/
theorem LG.rule {V : gX} {Y : yT} {vs ks L : List Nat} {ca : Nat → Nat} {f f' : Nat → va_E} {ru mo lk wn qu bu : Int32} {g : Nat → Int32} {Pk : kL} {m : Nat} (h : LG vs ks ca f ru mo lk wn qu bu g Pk) (hK : KK V g vs.length ks.length) (hm : m ≤ 2) (hvo : VO L vs f) (hS : SO L ks f) (hO : CO Y L ca f) (hB : BLD Y vs L ca (upd g 1 (nI m)) f f') : ∃ (V' : gX) (g' : Nat → Int32), dnX4_rule V 1 (nI m) = some (.inr (ru, V')) ∧ KK V' g' vs.length ks.length ∧ LG vs ks ca f' (nI m) mo lk (wn + nI (cs (fun l => vs.length + 1 - 2 ^ l) 5)) qu (bu + 1) g' Pk := by
  obtain ⟨V', g', e4, e5, hK'⟩ := kk_rule hK hm
  have n40 := hK.1.1.2.1
  have hn := hK.1.1.2.2
  obtain ⟨g'', e6, hI⟩ := buildsM (F := F0r) (w := 0) (g := upd g 1 (nI m)) F0r_M (by rw [pk_un (by decide)]; exact hn) n40
  have eg := Option.some.inj (e5.symm.trans e6)
  have hu : LG vs ks ca f (nI m) mo lk wn qu bu (upd g 1 (nI m)) Pk := by
    obtain ⟨⟨h1, h2⟩, hc, ⟨i1, i2, i3, i4, i5, i6⟩, ⟨r1, r2, r3⟩, hl, hv, hk⟩ := h
    refine ⟨⟨fun p v hp => ?_, fun p v hp => ?_⟩, fun l p q1 q5 q2 => ?_, ⟨?_, ?_, ?_, ?_, ?_, ?_⟩, ⟨r1, ?_, fun k a b q => ?_⟩, hl, hv, hk⟩
    · rw [pk_un (by omega)]; exact h1 p v hp
    · rw [pk_un (by omega)]; exact h2 p v hp
    · rw [pk_un (by omega)]; exact hc l p q1 q5 q2
    · rw [pk_us]
    · rw [pk_un (by decide)]; exact i2
    · rw [pk_un (by decide)]; exact i3
    · rw [pk_un (by decide)]; exact i4
    · rw [pk_un (by decide)]; exact i5
    · rw [pk_un (by decide)]; exact i6
    · rw [pk_un (by decide)]; exact r2
    · rw [pk_un (by omega), pk_un (by omega)]; exact r3 k a b q
  refine ⟨V', g', ?_, hK', LG.cg n40 (hu.build n40 hvo hS hO hB hI) (fun k hk => st_inj eg k hk)⟩
  rw [e4, h.2.2.1.1]
/-- how many may wait -/
theorem LG.most {V : gX} {vs ks : List Nat} {ca : Nat → Nat} {f : Nat → va_E} {ru mo lk wn qu bu : Int32} {g : Nat → Int32} {Pk : kL} {m : Nat} (h : LG vs ks ca f ru mo lk wn qu bu g Pk) (hK : KK V g vs.length ks.length) (h1 : 1 ≤ m) (h8 : m ≤ 8) : ∃ (V' : gX) (g' : Nat → Int32), dnX4_rule V 2 (nI m) = some (.inr (mo, V')) ∧ KK V' g' vs.length ks.length ∧ LG vs ks ca f ru (nI m) lk wn qu bu g' Pk := by
  obtain ⟨V', e4, hK'⟩ := kk_most hK h1 h8
  refine ⟨V', _, ?_, hK', ?_⟩
  · rw [e4, h.2.2.1.2.1]
  · obtain ⟨⟨h1, h2⟩, hc, ⟨i1, i2, i3, i4, i5, i6⟩, ⟨r1, r2, r3⟩, hl, hv, hk⟩ := h
    refine ⟨⟨fun p v hp => ?_, fun p v hp => ?_⟩, fun l p q1 q5 q2 => ?_, ⟨?_, ?_, ?_, ?_, ?_, ?_⟩, ⟨r1, ?_, fun k a b q => ?_⟩, hl, hv, hk⟩
    · rw [pk_un (by omega)]; exact h1 p v hp
    · rw [pk_un (by omega)]; exact h2 p v hp
    · rw [pk_un (by omega)]; exact hc l p q1 q5 q2
    · rw [pk_un (by decide)]; exact i1
    · rw [pk_us]
    · rw [pk_un (by decide)]; exact i3
    · rw [pk_un (by decide)]; exact i4
    · rw [pk_un (by decide)]; exact i5
    · rw [pk_un (by decide)]; exact i6
    · rw [pk_un (by decide)]; exact r2
    · rw [pk_un (by omega), pk_un (by omega)]; exact r3 k a b q
/-- a question that builds first -/
theorem LG.askB {V : gX} {Y : yT} {vs ks L : List Nat} {ca : Nat → Nat} {f f' : Nat → va_E} {ru mo lk wn qu bu : Int32} {g : Nat → Int32} {Pk : kL} {a b : Nat} (h : LG vs ks ca f ru mo lk wn qu bu g Pk) (hK : KK V g vs.length ks.length) (hab : a ≤ b) (hb : b < vs.length) (h0 : g 1 = 0) (hz : ¬ wc g vs.length = 0) (hvo : VO L vs f) (hS : SO L ks f) (hO : CO Y L ca f) (hB : BLD Y vs L ca g f f') : ∃ (V' : gX) (g' : Nat → Int32), dnX4_ask V (nI a) (nI b) = some (.inr (nI (lm g a (b - a)), V')) ∧ KK V' g' vs.length ks.length ∧ LG vs ks ca f' ru mo (lk + nI (cl (Wg (clrW g)) (b + 1 - a) a 0)) (wn + nI (cs (fun l => vs.length + 1 - 2 ^ l) 5)) (qu + 1) (bu + 1) g' Pk ∧ (∀ k : Nat, 12 ≤ k → k < 52 → g' k = g k) := by
  obtain ⟨V', g', e4, e5, hK'⟩ := kk_ask hK hab hb
  obtain ⟨⟨n1, n40, hn⟩, -, -, -, ⟨hBb, -⟩, -⟩ := id hK.1
  obtain ⟨g1, e6, hI⟩ := buildsM (F := F0r) (w := 0) (g := g) F0r_M hn n40
  have hL1 := h.build n40 hvo hS hO hB hI
  obtain ⟨b0, b8, b10, bw, bc⟩ := id hI
  have hCW : CW False g1 vs.length := fun l p q1 q5 q2 => by
    have hp0 : 0 < 2 ^ l := Nat.two_pow_pos l
    have hb := lm_b g p (2 ^ l - 1)
    exact ⟨lm g p (2 ^ l - 1), bc l p q1 q5 q2, hb.1, by omega, fun q => q.elim⟩
  obtain ⟨c, -, -, -, e7⟩ := asksB (S := False) (F := F0r) (w := 0) F0r_M hn n40 hBb h0 hz e6 (by rw [b0 0 (by decide) (by decide) (by decide)]; exact hn) bw hCW hab hb
  have eg := (Prod.mk.inj (Option.some.inj (e5.symm.trans e7))).2
  have hcl : cl (wb 0) (b + 1 - a) a 0 = cl (Wg (clrW g)) (b + 1 - a) a 0 := cl_cg _ _ _ (fun p q1 q2 => by
    have hz : clrW g (52 + p) = 0 := by unfold clrW; rw [if_pos (by omega)]
    have h1 : wb 0 p = false := by
      cases hw : wb 0 p with
      | false => rfl
      | true => exact absurd hw (wb0 p)
    have h2 : Wg (clrW g) p = false := by
      cases hw : Wg (clrW g) p with
      | false => rfl
      | true => exact absurd hw (Wg_0 hz)
    rw [h1, h2])
  rw [hcl] at eg
  have hg' : ∀ k : Nat, k < 310 → g' k = upd (upd g1 9 (g1 9 + 1)) 7 (g1 7 + nI (cl (Wg (clrW g)) (b + 1 - a) a 0)) k := fun k hk => st_inj eg k hk
  refine ⟨V', g', e4, hK', LG.cg n40 ?_ hg', fun k k1 k2 => by rw [hg' k (by omega), pk_un (by omega), pk_un (by omega), b0 k (by omega) (by omega) (by omega)]⟩
  obtain ⟨⟨h1, h2⟩, hc, ⟨i1, i2, i3, i4, i5, i6⟩, ⟨r1, r2, r3⟩, hl, hv, hk⟩ := hL1
  have un : ∀ k : Nat, k ≠ 7 → k ≠ 9 → upd (upd g1 9 (g1 9 + 1)) 7 (g1 7 + nI (cl (Wg (clrW g)) (b + 1 - a) a 0)) k = g1 k := fun k k7 k9 => by rw [pk_un k7, pk_un k9]
  refine ⟨⟨fun p v hp => ?_, fun p v hp => ?_⟩, fun l p q1 q5 q2 => ?_, ⟨?_, ?_, ?_, ?_, ?_, ?_⟩, ⟨r1, ?_, fun k a b q => ?_⟩, hl, hv, hk⟩
  · rw [un _ (by omega) (by omega)]; exact h1 p v hp
  · rw [un _ (by omega) (by omega)]; exact h2 p v hp
  · rw [un _ (by omega) (by omega)]; exact hc l p q1 q5 q2
  · rw [un _ (by decide) (by decide)]; exact i1
  · rw [un _ (by decide) (by decide)]; exact i2
  · rw [pk_us, i3]
  · rw [un _ (by decide) (by decide)]; exact i4
  · rw [pk_un (by decide), pk_us, i5]
  · rw [un _ (by decide) (by decide)]; exact i6
  · rw [un _ (by decide) (by decide)]; exact r2
  · rw [un _ (by omega) (by omega), un _ (by omega) (by omega)]; exact r3 k a b q
