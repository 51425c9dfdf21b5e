/-! numbers and values -/
theorem dig_em (c : Int32) : (dnX2_isDigit c = some 0 ∧ dnX5_isDigit c = some 0) ∨ (dnX2_isDigit c = some 1 ∧ dnX5_isDigit c = some 1 ∧ ∃ t : Nat, 48 ≤ t ∧ t ≤ 57 ∧ c = nI t) := by
  unfold dnX2_isDigit dnX5_isDigit
  by_cases h1 : c < 48
  · rw [if_pos h1]; exact Or.inl ⟨rfl, rfl⟩
  · by_cases h2 : 57 < c
    · rw [if_neg h1, if_pos h2]; exact Or.inl ⟨rfl, rfl⟩
    · rw [if_neg h1, if_neg h2]
      obtain ⟨t, t1, t2, e⟩ := lo_nI (x := c) (a := 48) (b := 57) (by decide) (Int32.not_lt.mp h1) (by decide) (Int32.not_lt.mp h2)
      exact Or.inr ⟨rfl, rfl, t, t1, t2, e⟩
def pn (P : gF) (r j : Nat) : gF := wr (wr P 0 12 (nI r)) 0 9 (nI j)
theorem pn_u (P : gF) (r j r' j' : Nat) : wr (wr (pn P r j) 0 12 (nI r')) 0 9 (nI j') = pn P r' j' := by
  funext a k
  by_cases ha : a = 0
  · subst ha
    simp only [pn, wr, upd, if_true]
    by_cases h9 : k = 9
    · simp [h9]
    · by_cases h12 : k = 12
      · simp [h12]
      · simp [h9, h12]
  · simp only [pn, wr, if_neg ha]
theorem pn_9 (P : gF) (r j : Nat) : (pn P r j) 0 9 = nI j := wr_i ..
theorem pn_12 (P : gF) (r j : Nat) : (pn P r j) 0 12 = nI r := by unfold pn; rw [wr_o (by decide), wr_i]
theorem pn_o (P : gF) (r j : Nat) {k : Nat} (h : k ≠ 9) (h2 : k ≠ 12) : (pn P r j) 0 k = P 0 k := by unfold pn; rw [wr_o h, wr_o h2]
theorem pn_b (P : gF) (r j : Nat) {a : Nat} (h : a ≠ 0) : (pn P r j) a = P a := by unfold pn; rw [wr_b h, wr_b h]
/-- a number as the class has it, and as the reference has it -/
def NR (c r : Nat) : Prop := (c = r ∧ r ≤ 999) ∨ (c = 1000 ∧ 1000 ≤ r ∧ r ≤ 2000000)
theorem dig_v {r t : Nat} (ht : 48 ≤ t) : ((10 * nI r) + nI t) - 48 = nI (10 * r + t - 48) := by
  rw [show (10 : Int32) = nI 10 from rfl, nI_mul, nI_add, show (48 : Int32) = nI 48 from rfl, nI_sub (by omega)]
theorem digits {T : Nat → Int32} {len w : Nat} {D P : gF} {G : gR} {g : Nat → Int32} {lo hi : Int32} (h : TX T len D P) : ∀ (N j cn rn : Nat), j ≤ len → len < N + j → NR cn rn → ∃ e cn' rn' : Nat, (j ≤ e ∧ (dnX2_isDigit (T j) = some 1 → j < len → j < e)) ∧ e ≤ len ∧ NR cn' rn' ∧ lpX2_readNumber_43 lo hi N (nI j) (wr D 0 7 (nI cn), G) = some (0, nI e, (wr D 0 7 (nI cn'), G)) ∧ lpX5_reads_34 lo hi N (st (pn P rn j) w g) = some (0, st (pn P rn' e) w g) := by
  have h5 := h.1
  intro N
  induction N with
  | zero => intro j cn rn h1 h2; omega
  | succ N ih =>
    intro j cn rn h1 h2 hN
    have hT : TX T len (wr D 0 7 (nI cn)) P := h.cg (wr_o (by decide)) (wr_b (by decide)) rfl rfl
    have e8 : (st (pn P rn j) w g) 0 8 = nI len := by rw [st_0, pn_o P rn j (by decide) (by decide)]; exact h.2.2.1
    have e9 : (st (pn P rn j) w g) 0 9 = nI j := by rw [st_0, pn_9]
    have e12 : (st (pn P rn j) w g) 0 12 = nI rn := by rw [st_0, pn_12]
    have e4 : (st (pn P rn j) w g) 4 = P 4 := by rw [st_b (by decide), pn_b P rn j (by decide)]
    unfold lpX2_readNumber_43 lpX5_reads_34
    rw [show (wr D 0 7 (nI cn), G).1 0 5 = nI len from hT.2.1, e8, e9]
    by_cases c : len ≤ j
    · rw [if_pos (nI_le c (by omega)), if_pos (nI_le c (by omega))]
      exact ⟨j, cn, rn, ⟨Nat.le_refl _, fun _ z => by omega⟩, h1, hN, rfl, rfl⟩
    · have etb : tb T len j = T j := by unfold tb; rw [if_pos (by omega)]
      rw [if_neg (nI_ge (by omega) (by omega)), if_neg (nI_ge (by omega) (by omega)), byteC (D := (wr D 0 7 (nI cn), G)) hT (by omega), bp_s, etb, e4, ra_ok (by omega) (by decide), (h.2.2.2 j (by omega)).2.1]
      rcases dig_em (T j) with ⟨d2, d5⟩ | ⟨d2, d5, t, t1, t2, et⟩
      · rw [d2, bp_s, if_pos rfl, d5, bp_s, if_pos rfl]
        exact ⟨j, cn, rn, ⟨Nat.le_refl _, fun z _ => absurd (Option.some.inj z) (by decide)⟩, h1, hN, rfl, rfl⟩
      · rw [d2, bp_s, if_neg (show ¬ (1 : Int32) = 0 by decide), bp_s, d5, bp_s, if_neg (show ¬ (1 : Int32) = 0 by decide), e12]
        have ev : (if 1000 < ((10 * (wr D 0 7 (nI cn), G).1 0 7) + T j) - 48 then 1000 else ((10 * (wr D 0 7 (nI cn), G).1 0 7) + T j) - 48) = nI (min (10 * cn + t - 48) 1000) := by
          have hc : cn ≤ 1000 := by rcases hN with ⟨q1, q2⟩ | ⟨q1, q2, q3⟩ <;> omega
          rw [show (wr D 0 7 (nI cn), G).1 0 7 = nI cn from (show (wr D 0 7 (nI cn)) 0 7 = nI cn from wr_i ..), et, dig_v t1]
          by_cases z : 1000 < 10 * cn + t - 48
          · rw [if_pos (show (1000 : Int32) < nI (10 * cn + t - 48) from nI_lt (a := 1000) z (by omega)), show min (10 * cn + t - 48) 1000 = 1000 by omega]; rfl
          · rw [if_neg (show ¬ (1000 : Int32) < nI (10 * cn + t - 48) from nI_nlt (b := 10 * cn + t - 48) (a := 1000) (by omega) (by omega)), show min (10 * cn + t - 48) 1000 = 10 * cn + t - 48 by omega]
        have e4' : ∀ v : Nat, bw (wr (wr D 0 7 (nI cn), G).1 0 7 (nI v)) (fun F9 => lpX2_readNumber_43 lo hi N (nI j + 1) (F9, (wr D 0 7 (nI cn), G).2)) = lpX2_readNumber_43 lo hi N (nI (j + 1)) (wr D 0 7 (nI v), G) := fun v => by
          rw [bw_s, show wr (wr D 0 7 (nI cn), G).1 0 7 (nI v) = wr D 0 7 (nI v) from wr_wr .., nI_1]
        have e5' : ∀ v : Nat, bw (wr (st (pn P rn j) w g) 0 12 (nI v)) (fun F10 => bw (wr F10 0 9 ((F10 0 9) + 1)) (fun F11 => lpX5_reads_34 lo hi N F11)) = lpX5_reads_34 lo hi N (st (pn P v (j + 1)) w g) := fun v => by
          have e9' : (st (wr (pn P rn j) 0 12 (nI v)) w g) 0 9 = nI j := by rw [st_0, wr_o (by decide), pn_9]
          rw [bw_s, st_w0, e9', nI_1, st_w0, pn_u, bw_s]
        rw [ev, e4']
        by_cases hr : rn ≤ 100000
        · rw [if_pos (show nI rn ≤ (100000 : Int32) from nI_le (b := 100000) hr (by decide)), ra_ok (by omega) (by decide), (h.2.2.2 j (by omega)).2.1, et, dig_v t1, e5']
          obtain ⟨e, cn', rn', k1, k2, k3, k4, k5⟩ := ih (j + 1) (min (10 * cn + t - 48) 1000) (10 * rn + t - 48) (by omega) (by omega) (by
            unfold NR at hN ⊢
            omega)
          exact ⟨e, cn', rn', ⟨by have := k1.1; omega, fun _ _ => by have := k1.1; omega⟩, k2, k3, k4, k5⟩
        · rw [if_neg (show ¬ nI rn ≤ (100000 : Int32) from nI_ge (a := 100000) (by omega) (by unfold NR at hN; omega)), e5']
          obtain ⟨e, cn', rn', k1, k2, k3, k4, k5⟩ := ih (j + 1) (min (10 * cn + t - 48) 1000) rn (by omega) (by omega) (by
            unfold NR at hN ⊢
            omega)
          exact ⟨e, cn', rn', ⟨by have := k1.1; omega, fun _ _ => by have := k1.1; omega⟩, k2, k3, k4, k5⟩
theorem number_b {T : Nat → Int32} {len q w : Nat} {D : gD} {P : gF} {g : Nat → Int32} {lo hi : Int32} (h : PS T len q D.1 P) (hhi : hi ≤ 999) : OUT T len q w D P g (dnX2_readNumber D lo hi) (dnX5_reads (st P w g) lo hi) (fun D' P' => ∃ m : Nat, m ≤ 999 ∧ D' 0 7 = nI m ∧ P' 0 12 = nI m ∧ lo ≤ nI m ∧ nI m ≤ hi ∧ D' 0 8 = nI q ∧ P' 0 13 = nI q) := by
  have h5 := h.1.1
  have h3 := h.2.2.2.2.2.1
  obtain ⟨p, hp, hs⟩ := h.2.2.1
  have s2 := hs.2.1
  rcases dig_em (tb T len q) with ⟨d2, d5⟩ | ⟨d2, d5, t, t1, t2, et⟩
  · refine Or.inr ⟨(wr (wr D.1 0 3 (-2)) 0 4 (nI q), D.2), _, g, ?_, ?_, er_f D.1 (wr P 0 9 (nI q)) (c := -2) (o := nI q) (by decide), (((PF.rf P).w (by omega) _).w (by omega) _).w (by omega) _⟩
    · unfold dnX2_readNumber
      rw [h.2.1, byteC h.1 (by omega), bp_s, d2, bp_s, if_pos rfl, failC, bs_s]
      rfl
    · unfold dnX5_reads
      rw [h.here, bs_s, d5, bp_s, if_pos rfl, failM (by rw [wr_o (by decide)]; exact h3), bs_s, st_0, wr_i]
      rfl
  · have hq : q < len := tb_in (c := nI t) (fun z => by
      have := nI_pos (n := t) (by omega)
      rw [z] at this
      exact this (by decide)) et
    have hT1 : TX T len (wr D.1 0 8 (nI q)) (wr (wr P 0 9 (nI q)) 0 13 (nI q)) := h.1.cg (wr_o (by decide)) (wr_b (by decide)) (by rw [wr_o (by decide), wr_o (by decide)]) (by rw [wr_b (by decide), wr_b (by decide)])
    obtain ⟨e, cn, rn, k1, k2, hN, k4, k5⟩ := digits (w := w) (g := g) (G := D.2) (lo := lo) (hi := hi) hT1 FU q 0 0 (by omega) (by unfold FU; omega) (Or.inl ⟨rfl, by decide⟩)
    have hT2 : TX T len (wr (wr D.1 0 8 (nI q)) 0 7 (nI cn)) P := h.1.cg (by rw [wr_o (by decide), wr_o (by decide)]) (by rw [wr_b (by decide), wr_b (by decide)]) rfl rfl
    obtain ⟨q', hsk, eg⟩ := goToC (D := (wr (wr D.1 0 8 (nI q)) 0 7 (nI cn), D.2)) hT2 k2
    have f6 : (wr (wr D.1 0 8 (nI q)) 0 7 0) 0 6 = nI q := by rw [wr_o (by decide), wr_o (by decide)]; exact h.2.1
    have v7 : (wr (wr (wr D.1 0 8 (nI q)) 0 7 (nI cn)) 0 6 (nI q')) 0 7 = nI cn := by rw [wr_o (by decide), wr_i]
    have v8 : (wr (wr (wr D.1 0 8 (nI q)) 0 7 (nI cn)) 0 6 (nI q')) 0 8 = nI q := by rw [wr_o (by decide), wr_o (by decide), wr_i]
    have e4 : ∀ o : Option (Int32 × gD), (if nI cn < lo then some ((0 : Int32), ((wr (wr (wr (wr (wr D.1 0 8 (nI q)) 0 7 (nI cn)) 0 6 (nI q')) 0 3 (-3)) 0 4 (nI q), D.2) : gD)) else if nI cn ≤ hi then some (1, (wr (wr (wr D.1 0 8 (nI q)) 0 7 (nI cn)) 0 6 (nI q'), D.2)) else some (0, (wr (wr (wr (wr (wr D.1 0 8 (nI q)) 0 7 (nI cn)) 0 6 (nI q')) 0 3 (-3)) 0 4 (nI q), D.2))) = o → dnX2_readNumber D lo hi = o := by
      intro o ho
      unfold dnX2_readNumber
      rw [h.2.1, byteC h.1 (by omega), bp_s, d2, bp_s, if_neg (show ¬ (1 : Int32) = 0 by decide), bw_s, bw_s, f6, show lpX2_readNumber_43 lo hi FU (nI q) (wr (wr D.1 0 8 (nI q)) 0 7 0, D.2) = _ from k4, bp_s]
      show bp (dnX2_goTo (wr (wr D.1 0 8 (nI q)) 0 7 (nI cn), D.2) (nI e)) _ = _
      rw [eg, bp_s]
      show (if (wr (wr (wr D.1 0 8 (nI q)) 0 7 (nI cn)) 0 6 (nI q')) 0 7 < lo then some ((0 : Int32), ((wr (wr (wr (wr (wr D.1 0 8 (nI q)) 0 7 (nI cn)) 0 6 (nI q')) 0 3 (-3)) 0 4 ((wr (wr (wr D.1 0 8 (nI q)) 0 7 (nI cn)) 0 6 (nI q')) 0 8), D.2) : gD)) else if (wr (wr (wr D.1 0 8 (nI q)) 0 7 (nI cn)) 0 6 (nI q')) 0 7 ≤ hi then some (1, (wr (wr (wr D.1 0 8 (nI q)) 0 7 (nI cn)) 0 6 (nI q'), D.2)) else some (0, (wr (wr (wr (wr (wr D.1 0 8 (nI q)) 0 7 (nI cn)) 0 6 (nI q')) 0 3 (-3)) 0 4 ((wr (wr (wr D.1 0 8 (nI q)) 0 7 (nI cn)) 0 6 (nI q')) 0 8), D.2))) = o
      rw [v7, v8]
      exact ho
    have w9 : (st (wr P 0 9 (nI q)) w g) 0 9 = nI q := by rw [st_0, wr_i]
    have e21 : wr (wr (wr P 0 9 (nI q)) 0 13 (nI q)) 0 12 0 = pn (wr (wr P 0 9 (nI q)) 0 13 (nI q)) 0 q := by
      have := wr_self (wr (wr (wr P 0 9 (nI q)) 0 13 (nI q)) 0 12 (nI 0)) 0 9
      rw [wr_o (by decide), wr_o (by decide), wr_i] at this
      exact this.symm
    have w12 : (st (pn (wr (wr P 0 9 (nI q)) 0 13 (nI q)) rn e) w g) 0 12 = nI rn := by rw [st_0, pn_12]
    have w13 : (st (pn (wr (wr P 0 9 (nI q)) 0 13 (nI q)) rn e) w g) 0 13 = nI q := by rw [st_0, pn_o _ _ _ (by decide) (by decide), wr_i]
    have w10 : (pn (wr (wr P 0 9 (nI q)) 0 13 (nI q)) rn e) 0 10 = 0 := by rw [pn_o _ _ _ (by decide) (by decide), wr_o (by decide), wr_o (by decide)]; exact h3
    have hpf : PF P (pn (wr (wr P 0 9 (nI q)) 0 13 (nI q)) rn e) := (((((PF.rf P).w (k := 9) (by omega) _).w (k := 13) (by omega) _).w (k := 12) (by omega) _).w (k := 9) (by omega) _)
    have e5h : dnX5_reads (st P w g) lo hi = bp (dnX5_isIn (nI rn) lo hi) (fun r24 => if r24 = 0 then bs (dnX5_fails (st (pn (wr (wr P 0 9 (nI q)) 0 13 (nI q)) rn e) w g) (-3) (nI q)) (fun r27 F28 => if r27 = 0 then some (0, F28) else some (1, F28)) else some (1, st (pn (wr (wr P 0 9 (nI q)) 0 13 (nI q)) rn e) w g)) := by
      unfold dnX5_reads
      rw [h.here, bs_s, d5, bp_s, if_neg (show ¬ (1 : Int32) = 0 by decide), w9, st_w0, bw_s, st_w0, e21, bw_s, k5, bp_s]
      show bp (dnX5_isIn ((st (pn (wr (wr P 0 9 (nI q)) 0 13 (nI q)) rn e) w g) 0 12) lo hi) (fun r24 => if r24 = 0 then bs (dnX5_fails (st (pn (wr (wr P 0 9 (nI q)) 0 13 (nI q)) rn e) w g) (-3) ((st (pn (wr (wr P 0 9 (nI q)) 0 13 (nI q)) rn e) w g) 0 13)) (fun r27 F28 => if r27 = 0 then some (0, F28) else some (1, F28)) else some (1, st (pn (wr (wr P 0 9 (nI q)) 0 13 (nI q)) rn e) w g)) = _
      rw [w12, w13]
    rw [e5h]
    rcases in_em lo hi (nI rn) with ⟨i1, i2, i3⟩ | ⟨i1, i3⟩
    · have hm : cn = rn ∧ rn ≤ 999 := by
        rcases hN with z | ⟨z1, z2, z3⟩
        · exact z
        · exact absurd (Int32.le_trans i2 hhi) (show ¬ nI rn ≤ (999 : Int32) from nI_ge (a := 999) (by omega) (by omega))
      obtain ⟨rfl, hm⟩ := hm
      refine Or.inl ⟨q', wr (wr (wr D.1 0 8 (nI q)) 0 7 (nI cn)) 0 6 (nI q'), _, e4 _ ?_, ?_, ?_, hpf, (((DF.rf _).w (k := 8) (by omega) _).w (k := 7) (by omega) _).w (k := 6) (by omega) _, ?_, cn, hm, v7, pn_12 .., i1, i2, v8, ?_⟩
      · rw [if_neg (Int32.not_lt.mpr i1), if_pos i2]
      · rw [i3, bp_s, if_neg (by decide)]
      · obtain ⟨-, -, -, r1, r2, r3, r4⟩ := id h
        refine ⟨h.1.cg (by rw [wr_o (by decide), wr_o (by decide), wr_o (by decide)]) (by rw [wr_b (by decide), wr_b (by decide), wr_b (by decide)]) (hpf.2 8 (by omega)) (hpf.1 4 (by decide)), wr_i .., ⟨e, pn_9 .., hsk⟩, by rw [wr_o (by decide), wr_o (by decide), wr_o (by decide)]; exact r1, by rw [wr_o (by decide), wr_o (by decide), wr_o (by decide)]; exact r2, w10, ?_⟩
        rw [pn_o _ _ _ (by decide) (by decide), wr_o (by decide), wr_o (by decide)]; exact r4
      · have z1 := hsk.1
        have z2 := k1.2 (by
          have etb : tb T len q = T q := by unfold tb; rw [if_pos hq]
          rw [etb] at d2; exact d2) hq
        omega
      · rw [pn_o _ _ _ (by decide) (by decide), wr_i]
    · have hx : nI cn < lo ∨ ¬ nI cn ≤ hi := by
        rcases hN with ⟨z1, z2⟩ | ⟨z1, z2, z3⟩
        · rw [z1]; exact i1.imp id Int32.not_le.mpr
        · exact Or.inr (fun z => absurd (Int32.le_trans z hhi) (show ¬ nI cn ≤ (999 : Int32) from nI_ge (a := 999) (by omega) (by omega)))
      refine Or.inr ⟨(wr (wr (wr (wr (wr D.1 0 8 (nI q)) 0 7 (nI cn)) 0 6 (nI q')) 0 3 (-3)) 0 4 (nI q), D.2), _, g, e4 _ ?_, ?_, er_f (wr (wr (wr D.1 0 8 (nI q)) 0 7 (nI cn)) 0 6 (nI q')) (pn (wr (wr P 0 9 (nI q)) 0 13 (nI q)) rn e) (c := -3) (o := nI q) (by decide), (hpf.w (by omega) _).w (by omega) _⟩
      · by_cases c1 : nI cn < lo
        · rw [if_pos c1]
        · rw [if_neg c1, if_neg (hx.resolve_left c1)]
      · rw [i3, bp_s, if_pos rfl, failM w10, bs_s, if_pos rfl]
theorem neg_b : ∀ m : Nat, m < 1000 → (-999 ≤ -(nI m) ∧ -(nI m) ≤ 999) ∧ (-999 ≤ nI m ∧ nI m ≤ 999) := by decide +kernel
theorem PS.n {T : Nat → Int32} {len q : Nat} {D P : gF} (h : PS T len q D P) (v v' : Int32) : PS T len q (wr D 0 7 v) (wr P 0 12 v') := by
  obtain ⟨h1, h2, ⟨p, hp, hs⟩, e1, e2, e3, e4⟩ := h
  exact ⟨h1.cg (wr_o (by decide)) (wr_b (by decide)) (wr_o (by decide)) (wr_b (by decide)), by rw [wr_o (by decide)]; exact h2, ⟨p, by rw [wr_o (by decide)]; exact hp, hs⟩, by rw [wr_o (by decide)]; exact e1, by rw [wr_o (by decide)]; exact e2, by rw [wr_o (by decide)]; exact e3, by rw [wr_o (by decide)]; exact e4⟩
theorem value_b {T : Nat → Int32} {len q w : Nat} {D : gD} {P : gF} {g : Nat → Int32} (h : PS T len q D.1 P) : OUT T len q w D P g (dnX2_readValue D) (dnX5_readsValue (st P w g)) (fun D' P' => ∃ v : Int32, D' 0 7 = v ∧ P' 0 12 = v ∧ -999 ≤ v ∧ v ≤ 999) := by
  unfold dnX2_readValue dnX5_readsValue
  rw [h.here, bs_s]
  rcases hasSignC h (show (45 : Int32) ≠ -1 by decide) with ⟨e, q1, k1, k2, k3⟩ | ⟨e, k2⟩
  · rw [k2, bs_s, if_pos e, st_0, wr_i, nI_1, st_w0, wr_wr, bw_s]
    rcases number_b (w := w) (D := (wr D.1 0 6 (nI q1), D.2)) (g := g) (lo := 0) (hi := 999) k3 (by decide) with ⟨q', D', P', a4, a5, aP, aF, aD, aq, m, m1, m2, m3, -⟩ | ⟨D', P', g', a4, a5, aE, aF⟩
    · refine Or.inl ⟨q', wr D' 0 7 (-(nI m)), wr P' 0 12 (-(nI m)), ?_, ?_, aP.n _ _, (((PF.rf P).w (by omega) _).tr aF).w (by omega) _, (((DF.rf D.1).w (by omega) _).tr aD).w (by omega) _, by omega, -(nI m), wr_i .., wr_i .., (neg_b m (by omega)).1⟩
      · rw [a4, bs_s, if_neg (show ¬ (1 : Int32) = 0 by decide), if_neg (show ¬ (1 : Int32) = 0 by decide), show ((D', D.2) : gD).1 0 7 = nI m from m2, bw_s]
      · rw [a5, bs_s, if_neg (by decide), st_0, m3, st_w0, bw_s]
    · refine Or.inr ⟨D', P', g', ?_, ?_, aE, ((PF.rf P).w (by omega) _).tr aF⟩
      · rw [a4, bs_s, if_pos rfl]
      · rw [a5, bs_s, if_pos rfl]
  · rw [k2, bs_s, if_neg e, st_0, wr_i, show nI q + 0 = nI q from Int32.add_zero _, st_w0, wr_wr, bw_s]
    rcases number_b (w := w) (D := D) (g := g) (lo := 0) (hi := 999) h.h (by decide) with ⟨q', D', P', a4, a5, aP, aF, aD, aq, m, m1, m2, m3, -⟩ | ⟨D', P', g', a4, a5, aE, aF⟩
    · refine Or.inl ⟨q', wr D' 0 7 (nI m), wr P' 0 12 (nI m), ?_, ?_, aP.n _ _, (((PF.rf P).w (by omega) _).tr aF).w (by omega) _, aD.w (by omega) _, by omega, nI m, wr_i .., wr_i .., (neg_b m (by omega)).2⟩
      · rw [a4, bs_s, if_neg (show ¬ (1 : Int32) = 0 by decide), if_pos rfl, show ((D', D.2) : gD).1 0 7 = nI m from m2, bw_s]
      · rw [a5, bs_s, if_neg (by decide), st_0, m3, st_w0, bw_s]
    · refine Or.inr ⟨D', P', g', ?_, ?_, aE, ((PF.rf P).w (by omega) _).tr aF⟩
      · rw [a4, bs_s, if_pos rfl]
      · rw [a5, bs_s, if_pos rfl]
