/-! a value put: what the reference row does, step by step -/
theorem putsB {F : gF} {w n x : Nat} {v : Int32} {g : Nat → Int32} {L : kL} (hM : MS F w) (h0 : g 0 = nI n) (hn : n < 40) (hx : x ≤ n) (hL : RKL g L) (hv : KLv n L) : ∃ g2 g' : Nat → Int32, dnX5_putsIn (st F w g) (nI x) v = some (nI (n + 1), st F w g') ∧ BI g2 g' (n + 1) ∧ g2 0 = nI (n + 1) ∧ (∀ p : Nat, p < n + 1 → g2 (12 + p) = if p = x then v else if p < x then g (12 + p) else g (12 + (p - 1))) ∧ (∀ k : Nat, k ≠ 0 → k < 292 → ¬ (12 ≤ k ∧ k < 52) → g2 k = g k) ∧ RKm x g2 L L.length := by
  have m0 : insM g n n = g := by funext i; unfold insM; rw [if_neg (by omega)]
  have e5 := puts5 (g := g) (v := v) hM hn FU n hx (Nat.le_refl _) (by unfold FU; omega)
  rw [m0] at e5
  have k1 : upd (insM g n x) (12 + x) v 0 + 1 = nI (n + 1) := by simp only [upd, insM]; rw [if_neg (by omega), if_neg (by omega), h0, nI_1]
  have hm0 : RKm x (upd (upd (insM g n x) (12 + x) v) 0 (nI (n + 1))) L 0 := by
    refine ⟨by simp only [upd, insM]; rw [if_neg (by omega), if_neg (by omega), if_neg (by omega)]; exact hL.2.1, fun i a b q => ?_⟩
    obtain ⟨f1, f2⟩ := hL.2.2 i a b q
    rw [if_neg (by omega), if_neg (by omega)]
    constructor
    · simp only [upd, insM]; rw [if_neg (by omega), if_neg (by omega), if_neg (by omega)]; exact f1
    · simp only [upd, insM]; rw [if_neg (by omega), if_neg (by omega), if_neg (by omega)]; exact f2
  have h8 := hL.1
  obtain ⟨g2, e52, hm2, hf2⟩ := puts48 (x := x) hM (show n ≤ 40 by omega) (by omega) h8 hv FU 0 _ (by omega) (by unfold FU; omega) hm0
  have g20 : g2 0 = nI (n + 1) := by rw [hf2 0 (by omega)]; simp [upd]
  obtain ⟨g', b5, hI⟩ := buildsM (F := F) (w := w) (g := g2) hM g20 (by omega)
  refine ⟨g2, g', ?_, hI, g20, fun p hp => ?_, fun k q1 q2 q3 => ?_, hm2⟩
  · have g30 : g' 0 = nI (n + 1) := by rw [hI.1 0 (by decide) (by decide) (by decide)]; exact g20
    unfold dnX5_putsIn
    rw [show dnX5_size (st F w g) = some (nI n) from size_ (hM.s g) (by rw [row_st (by decide)]; exact h0), bp_s, e5, bp_s, show (12 : Int32) = nI 12 from rfl, nI_add, put_ hM (by omega), bp_s, show (0 : Int32) = nI 0 from rfl, adds_ hM (by decide), bp_s, k1, e52, bp_s, b5, bp_s, show dnX5_size (st F w g') = some (nI (n + 1)) from size_ (hM.s g') (by rw [row_st (by decide)]; exact g30), bp_s]
  · rw [hf2 _ (by omega)]
    simp only [upd, insM]
    rw [if_neg (by omega)]
    by_cases e : p = x
    · rw [if_pos e, if_pos (by omega)]
    · rw [if_neg e, if_neg (by omega)]
      by_cases e2 : p < x
      · rw [if_pos e2, if_neg (by omega)]
      · rw [if_neg e2, if_pos (by omega), show 12 + p - 1 = 12 + (p - 1) by omega]
  · rw [hf2 k q2]; simp only [upd, insM]; rw [if_neg q1, if_neg (by omega), if_neg (by omega)]
theorem insL_up {vs : List Nat} {x q a z : Nat} (hx : x ≤ vs.length) (h : vs[a]? = some z) : (insL vs x q)[upx x a]? = some z := by
  rw [insL_at hx]
  unfold upx
  by_cases c : x ≤ a
  · rw [if_pos c, if_neg (by omega), if_neg (by omega), Nat.add_sub_cancel]; exact h
  · rw [if_neg c, if_pos (by omega)]; exact h
theorem LG.put {V : gX} {Y : yT} {vs ks L : List Nat} {ca : Nat → Nat} {f f' : Nat → va_E} {ru mo lk wn qu bu : Int32} {g : Nat → Int32} {Pk : kL} {x q : Nat} {y : Int32} (h : LG vs ks ca f ru mo lk wn qu bu g Pk) (hK : KK V g vs.length ks.length) (hvo : VO L vs f) (hS : SO L ks f) (hO : CO Y L ca f) (h40 : vs.length < 40) (hx : x < vs.length) (hy : -999 ≤ y ∧ y ≤ 999) (hq : q ∉ L) (hB : BLD Y (insL vs x q) (L ++ [q]) ca (insG g x y) (va_up f q (vE y 0)) f') : ∃ (V' : gX) (g' : Nat → Int32) (Pk' : kL), dnX4_put V (nI x) y = some (.inr (nI (vs.length + 1), V')) ∧ KK V' g' (insL vs x q).length ks.length ∧ LG (insL vs x q) ks ca f' ru mo lk (wn + nI (cs (fun l => (insL vs x q).length + 1 - 2 ^ l) 5)) qu (bu + 1) g' Pk' := by
  obtain ⟨V', g', e4, e5, hK'⟩ := kk_put hK h40 hx hy
  have hn := hK.1.1.2.2
  have hlen : (insL vs x q).length = vs.length + 1 := insL_len (by omega)
  obtain ⟨⟨h1, h2⟩, hc, ⟨i1, i2, i3, i4, i5, i6⟩, hR, hl, hv, hk⟩ := id h
  obtain ⟨g2, g3, e6, hI, g20, gv, go, hm⟩ := putsB (F := F0r) (w := 0) (v := y) F0r_M hn h40 (show x ≤ vs.length by omega) hR hv
  have eg := (Prod.mk.inj (Option.some.inj (e5.symm.trans e6))).2
  obtain ⟨b0, b8, b10, bw, bc⟩ := id hI
  have hv1 := hvo.ins (i := x) (e := vE y 0) hq (isV_vE (Or.inl rfl))
  have hO1 := hO.ins (e := vE y 0) hq
  have hS1 : SO (L ++ [q]) ks (va_up f q (vE y 0)) := ⟨hS.1, fun z hz => ⟨List.mem_append_left _ (hS.2 z hz).1, by rw [up_ne (fun e : z = q => hq (e ▸ (hS.2 z hz).1))]; exact (hS.2 z hz).2⟩⟩
  have hng : NG (insL vs x q) (va_up f q (vE y 0)) g2 := fun p z hp => by
    have hpn := (List.getElem?_eq_some_iff.mp hp).1
    have e := h1.ins (y := y) hvo hq (show x ≤ vs.length by omega) p z hp
    rw [gv p (by omega), ← e]
    unfold insG
    by_cases c1 : p = x
    · rw [if_pos c1, if_neg (by omega), if_pos (by omega)]
    · rw [if_neg c1]
      by_cases c2 : p < x
      · rw [if_pos c2, if_pos (by omega)]
      · rw [if_neg c2, if_neg (by omega), if_neg (by omega), show 12 + p - 1 = 12 + (p - 1) by omega]
  have hlm : ∀ p d : Nat, p + d < (insL vs x q).length → lm (insG g x y) p d = lm g2 p d := fun p d hpd => lm_cg d (fun j j1 j2 => by
    obtain ⟨z, hz⟩ := vs_at (vs := insL vs x q) (p := j) (by omega)
    rw [hng j z hz]; exact h1.ins (y := y) hvo hq (show x ≤ vs.length by omega) j z hz)
  refine ⟨V', g', Pk.map (fun z => (upx x z.1, upx x z.2)), e4, by rw [hlen]; exact hK', LG.cg (by omega) ?_ (fun k hk => st_inj eg k hk)⟩
  refine ⟨⟨fun p z hp => ?_, fun p z hp => ?_⟩, fun l p q1 q5 q2 => ?_, ⟨?_, ?_, ?_, ?_, ?_, ?_⟩, ⟨?_, ?_, fun k a b z => ?_⟩, ?_, fun k a b z => ?_, fun k z hz => ?_⟩
  · have hpn := (List.getElem?_eq_some_iff.mp hp).1
    rw [b0 _ (by omega) (by omega) (by omega), hB.2.1 z (List.mem_of_getElem? hp)]; exact hng p z hp
  · have hpn := (List.getElem?_eq_some_iff.mp hp).1
    rw [bw p (by omega), hB.2.1 z (List.mem_of_getElem? hp)]; rfl
  · have h0 : 0 < 2 ^ l := Nat.two_pow_pos l
    refine ⟨lm g2 p (2 ^ l - 1), bc l p q1 q5 (by omega), lm_n (by omega), ?_⟩
    rw [hB.2.2.2 l p q1 q5 q2, hlm p _ (by omega)]
  · rw [b0 _ (by decide) (by decide) (by decide), go _ (by decide) (by decide) (by decide)]; exact i1
  · rw [b0 _ (by decide) (by decide) (by decide), go _ (by decide) (by decide) (by decide)]; exact i2
  · rw [b0 _ (by decide) (by decide) (by decide), go _ (by decide) (by decide) (by decide)]; exact i3
  · rw [b8, go _ (by decide) (by decide) (by decide), hlen, i4]
  · rw [b0 _ (by decide) (by decide) (by decide), go _ (by decide) (by decide) (by decide)]; exact i5
  · rw [b10, go _ (by decide) (by decide) (by decide), i6]
  · rw [List.length_map]; exact hR.1
  · rw [b0 _ (by decide) (by decide) (by decide), List.length_map]; exact hm.1
  · rw [List.getElem?_map] at z
    cases hz : Pk[k]? with
    | none => rw [hz] at z; cases z
    | some ab =>
      rw [hz] at z
      obtain ⟨a0, b1⟩ := ab
      obtain ⟨rfl, rfl⟩ := Prod.mk.inj (Option.some.inj z)
      have hkl := kl_lt hz
      obtain ⟨f1, f2⟩ := hm.2 k a0 b1 hz
      rw [if_pos hkl] at f1 f2
      rw [b0 _ (by omega) (by omega) (by omega), b0 _ (by omega) (by omega) (by omega)]
      exact ⟨f1, f2⟩
  · rw [List.length_map]; exact hl
  · rw [List.getElem?_map] at z
    cases hz : Pk[k]? with
    | none => rw [hz] at z; cases z
    | some ab =>
      rw [hz] at z
      obtain ⟨a0, b1⟩ := ab
      obtain ⟨rfl, rfl⟩ := Prod.mk.inj (Option.some.inj z)
      obtain ⟨k1, k2⟩ := hv k a0 b1 hz
      rw [hlen]
      show upx x a0 ≤ upx x b1 ∧ upx x b1 < vs.length + 1
      unfold upx
      split <;> split <;> omega
  · obtain ⟨a, b, e1, e2, e3⟩ := hk k z hz
    have hzk := List.mem_of_getElem? hz
    rw [hB.s hv1 hS1 hO1 hzk, up_ne (fun e : z = q => hq (e ▸ (hS.2 z hzk).1))]
    exact ⟨upx x a, upx x b, by rw [List.getElem?_map, e1]; rfl, insL_up (by omega) e2, insL_up (by omega) e3⟩
