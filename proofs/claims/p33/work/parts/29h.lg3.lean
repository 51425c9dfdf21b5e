/-! the law's row against a reference row: a value set -/
theorem LG.mark {Y : yT} {vs ks L : List Nat} {ca : Nat → Nat} {f : Nat → va_E} {ru mo lk wn qu bu : Int32} {g : Nat → Int32} {Pk : kL} {x v : Nat} {y : Int32} (h : LG vs ks ca f ru mo lk wn qu bu g Pk) (n40 : vs.length ≤ 40) (hvo : VO L vs f) (hS : SO L ks f) (hO : CO Y L ca f) (hx0 : vs[x]? = some v) : LG vs ks ca (va_up f v (vE y 1)) ru mo lk wn qu bu (upd (upd g (12 + x) y) (52 + x) 1) Pk := by
  obtain ⟨⟨h1, h2⟩, hc, ⟨i1, i2, i3, i4, i5, i6⟩, ⟨r1, r2, r3⟩, hl, hv, hk⟩ := h
  have hx := (List.getElem?_eq_some_iff.mp hx0).1
  have un : ∀ k : Nat, k ≠ 12 + x → k ≠ 52 + x → upd (upd g (12 + x) y) (52 + x) 1 k = g k := fun k k1 k2 => by rw [pk_un k2, pk_un k1]
  refine ⟨⟨(h1.u hvo hx0).o (by omega), (h2.o (by omega)).u hvo hx0⟩, fun l p q1 q5 q2 => ?_, ⟨?_, ?_, ?_, ?_, ?_, ?_⟩, ⟨r1, ?_, fun k a b q => ?_⟩, hl, hv, fun k z q => ?_⟩
  · have h0 : 0 < 2 ^ l := Nat.two_pow_pos l
    rw [un _ (by omega) (by omega), show va_up f v (vE y 1) (ca l) = f (ca l) from if_neg (fun e => hvo.ne hO (List.mem_of_getElem? hx0) l (by omega) e.symm)]
    exact hc l p q1 q5 q2
  · rw [un _ (by omega) (by omega)]; exact i1
  · rw [un _ (by omega) (by omega)]; exact i2
  · rw [un _ (by omega) (by omega)]; exact i3
  · rw [un _ (by omega) (by omega)]; exact i4
  · rw [un _ (by omega) (by omega)]; exact i5
  · rw [un _ (by omega) (by omega)]; exact i6
  · rw [un _ (by omega) (by omega)]; exact r2
  · rw [un _ (by omega) (by omega), un _ (by omega) (by omega)]; exact r3 k a b q
  · rw [show va_up f v (vE y 1) z = f z from if_neg (fun e : z = v => V_S (hvo.at hx0).2 (e ▸ (hS.2 z (List.mem_of_getElem? q)).2))]
    exact hk k z q
theorem LG.set0 {V : gX} {Y : yT} {vs ks L : List Nat} {ca : Nat → Nat} {f : Nat → va_E} {ru mo lk wn qu bu : Int32} {g : Nat → Int32} {Pk : kL} {x v : Nat} {y : Int32} (h : LG vs ks ca f ru mo lk wn qu bu g Pk) (hK : KK V g vs.length ks.length) (hvo : VO L vs f) (hS : SO L ks f) (hO : CO Y L ca f) (hx0 : vs[x]? = some v) (hy : -999 ≤ y ∧ y ≤ 999) (h1 : ¬ g 1 = 1) (hb : ¬ g 1 = 2 ∨ nI (wc (upd (upd g (12 + x) y) (52 + x) 1) vs.length) ≤ g 2) : ∃ (V' : gX) (g' : Nat → Int32), dnX4_set V (nI x) y = some (.inr (nuA (f v), V')) ∧ KK V' g' vs.length ks.length ∧ LG vs ks ca (va_up f v (vE y 1)) ru mo lk wn qu bu g' Pk := by
  obtain ⟨⟨n1, n40, hn⟩, -, -, -, ⟨hB, -⟩, -⟩ := id hK.1
  have hx := (List.getElem?_eq_some_iff.mp hx0).1
  obtain ⟨V', g', e4, e5, hK'⟩ := kk_set hK hx hy
  have e6 := setsM0 (F := F0r) (w := 0) (v := y) F0r_M hn n40 hx hB h1 hb
  have eg := (Prod.mk.inj (Option.some.inj (e5.symm.trans e6))).2
  exact ⟨V', g', by rw [e4, h.1.1 x v hx0], hK', LG.cg n40 (h.mark n40 hvo hS hO hx0) (fun k hk => st_inj eg k hk)⟩
theorem LG.set2 {V : gX} {Y : yT} {vs ks L : List Nat} {ca : Nat → Nat} {f f' : Nat → va_E} {ru mo lk wn qu bu : Int32} {g : Nat → Int32} {Pk : kL} {x v : Nat} {y : Int32} (h : LG vs ks ca f ru mo lk wn qu bu g Pk) (hK : KK V g vs.length ks.length) (hvo : VO L vs f) (hS : SO L ks f) (hO : CO Y L ca f) (hx0 : vs[x]? = some v) (hy : -999 ≤ y ∧ y ≤ 999) (h2 : g 1 = 2) (hb : ¬ nI (wc (upd (upd g (12 + x) y) (52 + x) 1) vs.length) ≤ g 2) (hB2 : BLD Y vs L ca (upd (upd g (12 + x) y) (52 + x) 1) (va_up f v (vE y 1)) f') : ∃ (V' : gX) (g' : Nat → Int32), dnX4_set V (nI x) y = some (.inr (nuA (f v), V')) ∧ KK V' g' vs.length ks.length ∧ LG vs ks ca f' ru mo lk (wn + nI (cs (fun l => vs.length + 1 - 2 ^ l) 5)) qu (bu + 1) g' Pk := by
  obtain ⟨⟨n1, n40, hn⟩, -, -, -, ⟨hB, -⟩, -⟩ := id hK.1
  have hx := (List.getElem?_eq_some_iff.mp hx0).1
  obtain ⟨V', g', e4, e5, hK'⟩ := kk_set hK hx hy
  obtain ⟨g1, eB, hI⟩ := buildsM (F := F0r) (w := 0) (g := upd (upd g (12 + x) y) (52 + x) 1) F0r_M (by rw [pk_un (by omega), pk_un (by omega)]; exact hn) n40
  have e6 := setsM2 (F := F0r) (w := 0) (v := y) F0r_M hn n40 hx hB h2 hb eB
  have eg := (Prod.mk.inj (Option.some.inj (e5.symm.trans e6))).2
  have hm := h.mark (y := y) n40 hvo hS hO hx0
  have hS2 : SO L ks (va_up f v (vE y 1)) := ⟨hS.1, fun z hz => ⟨(hS.2 z hz).1, by rw [show va_up f v (vE y 1) z = f z from if_neg (fun e : z = v => V_S (hvo.at hx0).2 (e ▸ (hS.2 z hz).2))]; exact (hS.2 z hz).2⟩⟩
  exact ⟨V', g', by rw [e4, h.1.1 x v hx0], hK', LG.cg n40 (hm.build n40 (hvo.u (isV_vE (Or.inr rfl))) hS2 (hO.u (hvo.ne hO (List.mem_of_getElem? hx0))) hB2 hI) (fun k hk => st_inj eg k hk)⟩
theorem lm_upd {g : Nat → Int32} {x p d : Nat} {y : Int32} (h : x < p ∨ p + d < x) : lm (upd g (12 + x) y) p d = lm g p d := lm_cg d (fun j h1 h2 => pk_un (by omega))
theorem LG.set1 {V : gX} {Y : yT} {vs ks L : List Nat} {ca : Nat → Nat} {f f' : Nat → va_E} {ru mo lk wn qu bu : Int32} {g : Nat → Int32} {Pk : kL} {x v : Nat} {y : Int32} (h : LG vs ks ca f ru mo lk wn qu bu g Pk) (hK : KK V g vs.length ks.length) (hvo : VO L vs f) (hS : SO L ks f) (hO : CO Y L ca f) (hx0 : vs[x]? = some v) (hy : -999 ≤ y ∧ y ≤ 999) (h1 : g 1 = 1) (hF : BF Y vs L ca (upd g (12 + x) y) (va_up f v (vE y (wtA (f v)))) f' (fun l p => p ≤ x ∧ x < p + 2 ^ l)) : ∃ (V' : gX) (g' : Nat → Int32), dnX4_set V (nI x) y = some (.inr (nuA (f v), V')) ∧ KK V' g' vs.length ks.length ∧ LG vs ks ca f' ru mo lk (wn + nI (cs (ov vs.length x x) 5)) qu bu g' Pk := by
  obtain ⟨⟨n1, n40, hn⟩, -, -, -, ⟨hB, -, hz⟩, -, -, hcell⟩ := id hK.1
  have hx := (List.getElem?_eq_some_iff.mp hx0).1
  obtain ⟨V', g', e4, e5, hK'⟩ := kk_set hK hx hy
  have hQ : ∀ l p : Nat, 1 ≤ l → l ≤ 5 → p + 2 ^ l ≤ vs.length → ¬ (p ≤ x ∧ x < p + 2 ^ l) → g (92 + 40 * (l - 1) + p) = nI (lm (upd g (12 + x) y) p (2 ^ l - 1)) := fun l p q1 q5 q2 q3 => by
    have h0 : 0 < 2 ^ l := Nat.two_pow_pos l
    obtain ⟨c, k1, k2, k3, k4⟩ := hcell l p q1 q5 q2
    rw [lm_upd (by omega), k1, k4 (fun j j1 j2 => hz h1 j (by omega))]
  obtain ⟨g1, e6, ⟨c0, c8, cc⟩, -⟩ := setsM1 (F := F0r) (w := 0) (v := y) (Q := fun l p => ¬ (p ≤ x ∧ x < p + 2 ^ l)) F0r_M hn n40 hx h1 hQ
  have eg := (Prod.mk.inj (Option.some.inj (e5.symm.trans e6))).2
  obtain ⟨⟨a1, a2⟩, hc, ⟨i1, i2, i3, i4, i5, i6⟩, ⟨r1, r2, r3⟩, hl, hv, hk⟩ := id h
  have hv1 : VO L vs (va_up f v (vE y (wtA (f v)))) := hvo.u (isV_vE (hvo.at hx0).2.2)
  have hO1 : CO Y L ca (va_up f v (vE y (wtA (f v)))) := hO.u (hvo.ne hO (List.mem_of_getElem? hx0))
  have hg1 : NG vs f' (upd g (12 + x) y) := hF.ng hv1 hO1 (a1.u hvo hx0)
  have hw1 : NW vs f' (upd g (12 + x) y) := fun p z hp => by
    rw [hF.v hv1 hO1 (List.mem_of_getElem? hp), pk_un (by omega)]
    unfold va_up
    by_cases e : z = v
    · rw [if_pos e, a2 p z hp, e]; rfl
    · rw [if_neg e]; exact a2 p z hp
  have un : ∀ k : Nat, k ≠ 8 → k ≠ 12 + x → (k < 92 ∨ 292 ≤ k) → g1 k = g k := fun k k1 k2 k3 => by rw [c0 k k1 k3, pk_un k2]
  refine ⟨V', g', by rw [e4, a1 x v hx0], hK', LG.cg n40 ?_ (fun k hk => st_inj eg k hk)⟩
  refine ⟨⟨fun p z hp => ?_, fun p z hp => ?_⟩, fun l p q1 q5 q2 => ?_, ⟨?_, ?_, ?_, ?_, ?_, ?_⟩, ⟨r1, ?_, fun k a b q => ?_⟩, hl, hv, fun k z q => ?_⟩
  · have := (List.getElem?_eq_some_iff.mp hp).1
    rw [c0 _ (by omega) (by omega)]; exact hg1 p z hp
  · have := (List.getElem?_eq_some_iff.mp hp).1
    rw [c0 _ (by omega) (by omega)]; exact hw1 p z hp
  · have h0 : 0 < 2 ^ l := Nat.two_pow_pos l
    refine ⟨lm (upd g (12 + x) y) p (2 ^ l - 1), cc l p q1 q5 q2 (Classical.em _), lm_n (by omega), ?_⟩
    by_cases q : p ≤ x ∧ x < p + 2 ^ l
    · exact hF.2.2.1 l p q1 q5 q2 q
    · rw [hF.2.2.2 l p (by omega) q, show va_up f v (vE y (wtA (f v))) (ca l) = f (ca l) from if_neg (fun e => hvo.ne hO (List.mem_of_getElem? hx0) l (by omega) e.symm)]
      obtain ⟨c, e1, e2, e3⟩ := hc l p q1 q5 q2
      have hcn := lm_n (g := upd g (12 + x) y) (a := p) (d := 2 ^ l - 1) (n := vs.length) (by omega)
      rw [e3, (nI_eq (by omega) (by omega)).mp (e1.symm.trans (hQ l p q1 q5 q2 q))]
  · rw [un _ (by omega) (by omega) (by omega)]; exact i1
  · rw [un _ (by omega) (by omega) (by omega)]; exact i2
  · rw [un _ (by omega) (by omega) (by omega)]; exact i3
  · rw [c8, pk_un (by omega), i4]
  · rw [un _ (by omega) (by omega) (by omega)]; exact i5
  · rw [un _ (by omega) (by omega) (by omega)]; exact i6
  · rw [un _ (by omega) (by omega) (by omega)]; exact r2
  · rw [un _ (by omega) (by omega) (by omega), un _ (by omega) (by omega) (by omega)]; exact r3 k a b q
  · have hzS := (hS.2 z (List.mem_of_getElem? q)).2
    rw [hF.1 z (fun l hl e => S_C hzS (e ▸ (hO.1 l hl).2)), show va_up f v (vE y (wtA (f v))) z = f z from if_neg (fun e : z = v => V_S (hvo.at hx0).2 (e ▸ hzS))]
    exact hk k z q
