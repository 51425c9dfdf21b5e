/-! the law's row against a reference row: a value taken -/
theorem er_at {vs : List Nat} {x p : Nat} : (vs.eraseIdx x)[p]? = if p < x then vs[p]? else vs[p + 1]? := List.getElem?_eraseIdx
theorem getD_at {vs : List Nat} {p z : Nat} (h : vs[p]? = some z) : vs.getD p 0 = z := by rw [List.getD_eq_getElem?_getD, h]; rfl
theorem LG.take {V : gX} {Y : yT} {vs ks xs L : List Nat} {ca : Nat → Nat} {f f1 f' : Nat → va_E} {ru mo lk wn qu bu : Int32} {g : Nat → Int32} {Pk : kL} {x v : Nat} (h : LG vs ks ca f ru mo lk wn qu bu g Pk) (hK : KK V g vs.length ks.length) (hvo : VO L vs f) (hS : SO L ks f) (hO : CO Y L ca f) (h2 : 2 ≤ vs.length) (hx0 : vs[x]? = some v) (hT : TKI f f1 v (vs.getD (x + 1) 0) (vs.getD (x - 1) 0) ks ks.length xs) (hB : BLD Y (vs.eraseIdx x) L ca (remG g x) f1 f') : ∃ (V' : gX) (g' : Nat → Int32) (Pk' : kL), dnX4_take V (nI x) = some (.inr (nuA (f v), V')) ∧ KK V' g' (vs.eraseIdx x).length xs.length ∧ LG (vs.eraseIdx x) xs ca f' ru mo lk (wn + nI (cs (fun l => (vs.eraseIdx x).length + 1 - 2 ^ l) 5)) qu (bu + 1) g' Pk' := by
  have hx := (List.getElem?_eq_some_iff.mp hx0).1
  have n40 := hK.1.1.2.1
  have hn := hK.1.1.2.2
  obtain ⟨V', g', kc', e4, e5, hK'⟩ := kk_take hK h2 hx
  obtain ⟨⟨h1, h2'⟩, hc, ⟨i1, i2, i3, i4, i5, i6⟩, hR, hl, hv, hk⟩ := id h
  obtain ⟨g2, g3, e6, hI, g20, gv, go, hL2⟩ := takesB (F := F0r) (w := 0) F0r_M hn h2 n40 hx hR hv
  have eg := (Prod.mk.inj (Option.some.inj (e5.symm.trans e6))).2
  obtain ⟨b0, b8, b10, bw, bc⟩ := id hI
  have hlen : (vs.eraseIdx x).length = vs.length - 1 := List.length_eraseIdx_of_lt hx
  have hv1 : VO L (vs.eraseIdx x) f1 := (hT.vo hS hvo).er
  have hO1 := hT.co hS hO
  have exs : xs = ks.filter (fun k => !tkD f v k) := by have := hT.2.2; rw [List.take_length] at this; exact this
  have hng0 : NG (vs.eraseIdx x) f1 (remG g x) := (hT.ng hS hvo h1).er
  have hng : NG (vs.eraseIdx x) f1 g2 := fun p z hp => by
    have hpn := (List.getElem?_eq_some_iff.mp hp).1
    rw [gv p (by omega), ← hng0 p z hp]
    unfold remG
    by_cases c : p < x
    · rw [if_pos c, if_pos (by omega)]
    · rw [if_neg c, if_neg (by omega), show 12 + p + 1 = 12 + (p + 1) by omega]
  have hlm : ∀ p d : Nat, p + d < (vs.eraseIdx x).length → lm (remG g x) p d = lm g2 p d := fun p d hpd => lm_cg d (fun j j1 j2 => by
    obtain ⟨z, hz⟩ := vs_at (vs := vs.eraseIdx x) (p := j) (by omega)
    rw [hng j z hz]; exact hng0 j z hz)
  have hside := side (R := fun (y : Nat) (z : Nat × Nat) => vs[z.1]? = some (frA (f y)) ∧ vs[z.2]? = some (toA (f y)) ∧ z.1 ≤ z.2 ∧ z.2 < vs.length) (dr := tkD f v) (tk := tkP x) (fun y z r => by
    obtain ⟨r1, r2, r3, r4⟩ := r
    unfold tkD tkP
    constructor
    · intro q
      obtain ⟨q1, q2⟩ := of_decide_eq_true q
      exact if_pos ⟨vs_inj hvo.1 r1 (by rw [q1]; exact hx0), vs_inj hvo.1 r2 (by rw [q2]; exact hx0)⟩
    · intro q
      by_cases c : z.1 = x ∧ z.2 = x
      · refine decide_eq_true ⟨?_, ?_⟩
        · rw [c.1, hx0] at r1; exact (Option.some.inj r1).symm
        · rw [c.2, hx0] at r2; exact (Option.some.inj r2).symm
      · rw [if_neg c] at q; cases q) ks Pk hl (fun k y q => by
    obtain ⟨a, b, e1, e2, e3⟩ := hk k y q
    obtain ⟨k1, k2⟩ := hv k a b e1
    exact ⟨(a, b), e1, e2, e3, k1, k2⟩)
  rw [← exs] at hside
  have hkc : kc' = xs.length := by
    have e1 := hK'.1.2.1.2
    have e2 : g' 6 = nI (Pk.filterMap (tkP x)).length := by rw [st_inj eg 6 (by decide), b0 6 (by decide) (by decide) (by decide)]; exact hL2.2.1
    have k8 := hK'.1.2.1.1
    have l8 := hL2.1
    have := (nI_eq (by omega) (by omega)).mp (e1.symm.trans e2)
    omega
  refine ⟨V', g', Pk.filterMap (tkP x), by rw [e4, h1 x v hx0], by rw [hlen, ← hkc]; exact hK', LG.cg (by omega) ?_ (fun k hk => st_inj eg k hk)⟩
  refine ⟨⟨fun p z hp => ?_, fun p z hp => ?_⟩, fun l p q1 q5 q2 => ?_, ⟨?_, ?_, ?_, ?_, ?_, ?_⟩, ⟨hL2.1, ?_, fun k a b z => ?_⟩, hside.1, fun k a b z => ?_, fun k y hy => ?_⟩
  · have hpn := (List.getElem?_eq_some_iff.mp hp).1
    rw [b0 _ (by omega) (by omega) (by omega), hB.2.1 z (List.mem_of_getElem? hp)]; exact hng p z hp
  · have hpn := (List.getElem?_eq_some_iff.mp hp).1
    rw [bw p (by omega), hB.2.1 z (List.mem_of_getElem? hp)]; rfl
  · have h0 : 0 < 2 ^ l := Nat.two_pow_pos l
    refine ⟨lm g2 p (2 ^ l - 1), bc l p q1 q5 (by omega), lm_n (by omega), ?_⟩
    rw [hB.2.2.2 l p q1 q5 q2, hlm p _ (by omega)]
  · rw [b0 _ (by decide) (by decide) (by decide), go _ (by decide) (by decide) (by decide) (by decide)]; exact i1
  · rw [b0 _ (by decide) (by decide) (by decide), go _ (by decide) (by decide) (by decide) (by decide)]; exact i2
  · rw [b0 _ (by decide) (by decide) (by decide), go _ (by decide) (by decide) (by decide) (by decide)]; exact i3
  · rw [b8, go _ (by decide) (by decide) (by decide) (by decide), hlen, i4]
  · rw [b0 _ (by decide) (by decide) (by decide), go _ (by decide) (by decide) (by decide) (by decide)]; exact i5
  · rw [b10, go _ (by decide) (by decide) (by decide) (by decide), i6]
  · rw [b0 _ (by decide) (by decide) (by decide)]; exact hL2.2.1
  · have hk8 : k < 8 := by have := kl_lt z; have := hL2.1; omega
    rw [b0 _ (by omega) (by omega) (by omega), b0 _ (by omega) (by omega) (by omega)]; exact hL2.2.2 k a b z
  · obtain ⟨z0, hz0, ht⟩ := List.mem_filterMap.mp (List.mem_of_getElem? z)
    obtain ⟨k0, hk0⟩ := List.getElem?_of_mem hz0
    obtain ⟨k1, k2⟩ := hv k0 z0.1 z0.2 hk0
    rw [hlen]
    unfold tkP at ht
    by_cases c : z0.1 = x ∧ z0.2 = x
    · rw [if_pos c] at ht; cases ht
    · rw [if_neg c] at ht
      obtain ⟨rfl, rfl⟩ := Prod.mk.inj (Option.some.inj ht)
      split <;> split <;> omega
  · obtain ⟨z, c, ⟨r1, r2, r3, r4⟩, ht, hck⟩ := hside.2 k y hy
    have hyk : y ∈ ks := hT.sub (List.mem_of_getElem? hy)
    have hnd : ¬ tkD f v y = true := by
      have := List.mem_of_getElem? hy
      rw [exs] at this
      simpa using (List.mem_filter.mp this).2
    have ef1 : f1 y = tkE f v (vs.getD (x + 1) 0) (vs.getD (x - 1) 0) y := by
      obtain ⟨p, hp⟩ := List.getElem?_of_mem hyk
      rw [hT.2.1 p y (List.getElem?_eq_some_iff.mp hp).1 hp, if_neg hnd]
    have hyS := (hT.s hS hyk).2
    have ef : f' y = f1 y := hB.1 y (fun q => V_S (hv1.2 y q).2 hyS) (fun l hl e => S_C hyS (e ▸ (hO1.1 l hl).2))
    have efr : frA (f' y) = if frA (f y) = v then vs.getD (x + 1) 0 else frA (f y) := by rw [ef, ef1]; rfl
    have eto : toA (f' y) = if toA (f y) = v then vs.getD (x - 1) 0 else toA (f y) := by rw [ef, ef1]; rfl
    have ia : frA (f y) = v ↔ z.1 = x := ⟨fun q => vs_inj hvo.1 r1 (by rw [q]; exact hx0), fun q => by rw [q, hx0] at r1; exact (Option.some.inj r1).symm⟩
    have ib : toA (f y) = v ↔ z.2 = x := ⟨fun q => vs_inj hvo.1 r2 (by rw [q]; exact hx0), fun q => by rw [q, hx0] at r2; exact (Option.some.inj r2).symm⟩
    unfold tkP at ht
    by_cases cc : z.1 = x ∧ z.2 = x
    · rw [if_pos cc] at ht; cases ht
    · rw [if_neg cc] at ht
      refine ⟨c.1, c.2, hck, ?_, ?_⟩
      · have c1 : c.1 = if x < z.1 then z.1 - 1 else z.1 := by rw [← Option.some.inj ht]
        rw [efr]
        by_cases k1 : z.1 = x
        · rw [if_pos (ia.mpr k1), show c.1 = x by rw [c1, if_neg (by omega), k1], er_at, if_neg (Nat.lt_irrefl x)]
          obtain ⟨w, hw⟩ := vs_at (vs := vs) (p := x + 1) (by omega)
          rw [hw, getD_at hw]
        · rw [if_neg (fun q => k1 (ia.mp q))]
          by_cases k2 : x < z.1
          · rw [show c.1 = z.1 - 1 by rw [c1, if_pos k2], er_at, if_neg (by omega), show z.1 - 1 + 1 = z.1 by omega]; exact r1
          · rw [show c.1 = z.1 by rw [c1, if_neg k2], er_at, if_pos (by omega)]; exact r1
      · have c2 : c.2 = if x ≤ z.2 then z.2 - 1 else z.2 := by rw [← Option.some.inj ht]
        rw [eto]
        by_cases k1 : z.2 = x
        · rw [if_pos (ib.mpr k1), show c.2 = x - 1 by rw [c2, if_pos (by omega), k1], er_at, if_pos (by omega)]
          obtain ⟨w, hw⟩ := vs_at (vs := vs) (p := x - 1) (by omega)
          rw [hw, getD_at hw]
        · rw [if_neg (fun q => k1 (ib.mp q))]
          by_cases k2 : x ≤ z.2
          · rw [show c.2 = z.2 - 1 by rw [c2, if_pos k2], er_at, if_neg (by omega), show z.2 - 1 + 1 = z.2 by omega]; exact r2
          · rw [show c.2 = z.2 by rw [c2, if_neg k2], er_at, if_pos (by omega)]; exact r2
