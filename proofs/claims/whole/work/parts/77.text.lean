/-! which statement; all statements; the whole text -/
def B4 (D : gD) (k4 : gD → Option (Nat × gD)) : Option (Nat × gD) := bs (dnX2_readKind D) (fun r4 D5 => bs (dnX2_readArguments D5 r4) (fun r7 D8 => if r7 = 0 then some (0, D8) else bs (dnX2_readSign D8 59) (fun r11 D12 => if r11 = 0 then some (0, D12) else bp (dnX2_carryOut D12 r4) k4)))
theorem SOUT.up {T : Nat → Int32} {len q q1 w : Nat} {P P1 : gF} {k4 : gD → Option (Nat × gD)} {k5 : gF → Option (Nat × gF)} {o4 : Option (Nat × gD)} {o5 : Option (Nat × gF)} (h : SOUT T len q1 w P1 k4 k5 o4 o5) (hq : q ≤ q1) (hF : PF P P1) : SOUT T len q w P k4 k5 o4 o5 := by
  rcases h with ⟨q2, D2, P2, G2, g2, n2, kc2, r4, r5, rP, rF, rW, rR, rq⟩ | ⟨D2, P2, g2, r4, r5, rE, rF⟩
  · exact Or.inl ⟨q2, D2, P2, G2, g2, n2, kc2, r4, r5, rP, hF.tr rF, rW, rR, by omega⟩
  · exact Or.inr ⟨D2, P2, g2, r4, r5, rE, hF.tr rF⟩
theorem args0 (D : gD) : dnX2_readArguments D 0 = some (0, D) := rfl
theorem stmt_b {T : Nat → Int32} {len q w n kc : Nat} {D : gD} {P : gF} {g : Nat → Int32} {k4 : gD → Option (Nat × gD)} {k5 : gF → Option (Nat × gF)} (h : PS T len q D.1 P) (hM : MS P w) (hW : WF g n kc) (hR : RR D.2 g n kc) : SOUT T len q w P k4 k5 (B4 D k4) (A5 (dnX5_readsStatement (st P w g)) k5) := by
  have hF0 : PF P (wr P 0 9 (nI q)) := (PF.rf P).w (by omega) _
  have h9 : ∀ P2 : gF, (st (wr P2 0 9 (nI q)) w g) 0 9 = nI q := fun P2 => by rw [st_0, wr_i]
  unfold B4 dnX2_readKind dnX5_readsStatement
  rw [h.here, bs_s, h9]
  have hn := h.h
  rcases word_w (w := w) (g := g) (i := 1) hn (by decide) with ⟨q1, P1, a4, a5, aP, aF, aq⟩ | ⟨a4, a5⟩
  · rw [a4, bs_s, if_neg (show ¬ (1 : Int32) = 0 by decide), bs_s, a5, bs_s, if_neg (show ¬ (1 : Int32) = 0 by decide)]
    exact (st_set (D := (wr D.1 0 6 (nI q1), D.2)) aP (hM.pf (hF0.tr aF)) hW hR).up (by omega) (hF0.tr aF)
  · rw [wr_wr] at a5
    rw [a4, a5, bs_s, bs_s, if_pos rfl, if_pos rfl]
    rcases word_w (w := w) (g := g) (i := 2) hn (by decide) with ⟨q1, P1, b4, b5, aP, aF, aq⟩ | ⟨b4, b5⟩
    · rw [b4, bs_s, if_neg (show ¬ (1 : Int32) = 0 by decide), bs_s, b5, bs_s, if_neg (show ¬ (1 : Int32) = 0 by decide)]
      exact (st_ask (D := (wr D.1 0 6 (nI q1), D.2)) aP (hM.pf (hF0.tr aF)) hW hR).up (by omega) (hF0.tr aF)
    · rw [wr_wr] at b5
      rw [b4, b5, bs_s, bs_s, if_pos rfl, if_pos rfl]
      rcases word_w (w := w) (g := g) (i := 3) hn (by decide) with ⟨q1, P1, c4, c5, aP, aF, aq⟩ | ⟨c4, c5⟩
      · rw [c4, bs_s, if_neg (show ¬ (1 : Int32) = 0 by decide), bs_s, c5, bs_s, if_neg (show ¬ (1 : Int32) = 0 by decide)]
        exact (st_keep (D := (wr D.1 0 6 (nI q1), D.2)) aP (hM.pf (hF0.tr aF)) hW hR).up (by omega) (hF0.tr aF)
      · rw [wr_wr] at c5
        rw [c4, c5, bs_s, bs_s, if_pos rfl, if_pos rfl]
        rcases word_w (w := w) (g := g) (i := 4) hn (by decide) with ⟨q1, P1, d4, d5, aP, aF, aq⟩ | ⟨d4, d5⟩
        · rw [d4, bs_s, if_neg (show ¬ (1 : Int32) = 0 by decide), bs_s, d5, bs_s, if_neg (show ¬ (1 : Int32) = 0 by decide)]
          exact (st_put (D := (wr D.1 0 6 (nI q1), D.2)) aP (hM.pf (hF0.tr aF)) hW hR).up (by omega) (hF0.tr aF)
        · rw [wr_wr] at d5
          rw [d4, d5, bs_s, bs_s, if_pos rfl, if_pos rfl]
          rcases word_w (w := w) (g := g) (i := 5) hn (by decide) with ⟨q1, P1, e4, e5, aP, aF, aq⟩ | ⟨e4, e5⟩
          · rw [e4, bs_s, if_neg (show ¬ (1 : Int32) = 0 by decide), bs_s, e5, bs_s, if_neg (show ¬ (1 : Int32) = 0 by decide)]
            exact (st_take (D := (wr D.1 0 6 (nI q1), D.2)) aP (hM.pf (hF0.tr aF)) hW hR).up (by omega) (hF0.tr aF)
          · rw [wr_wr] at e5
            refine Or.inr ⟨(wr (wr D.1 0 3 (-2)) 0 4 (nI q), D.2), _, g, ?_, ?_, er_f D.1 (wr P 0 9 (nI q)) (c := -2) (o := nI q) (by decide), (hF0.w (by omega) _).w (by omega) _⟩
            · rw [e4, bs_s, if_pos rfl, failC, bs_s, bs_s, args0, bs_s, if_pos rfl, h.2.1]
            · unfold A5
              rw [e5, bs_s, if_pos rfl, failM (by rw [wr_o (by decide)]; exact h.2.2.2.2.2.1), bs_s, rzs0, bs_s, if_pos rfl]
theorem stL {T : Nat → Int32} {len w : Nat} : ∀ (N c q : Nat) (D : gD) (P : gF) (g : Nat → Int32) (n kc : Nat), c ≤ q → len < N + q → PS T len q D.1 P → MS P w → WF g n kc → RR D.2 g n kc → (∃ (D' P' : gF) (G' : gR) (g' : Nat → Int32) (n' kc' : Nat), lpX2_read_41 N (nI c) D = some (1, (D', G')) ∧ lpX5_readsText_113 N (st P w g) = some (1, st P' w g') ∧ (D' 0 3 = 0 ∧ D' 0 4 = -1 ∧ P' 0 11 = -1) ∧ PF P P' ∧ WF g' n' kc' ∧ RR G' g' n' kc') ∨ (∃ (D' : gD) (P' : gF) (g' : Nat → Int32), lpX2_read_41 N (nI c) D = some (0, D') ∧ lpX5_readsText_113 N (st P w g) = some (0, st P' w g') ∧ ER D'.1 P' ∧ PF P P') := by
  intro N
  induction N with
  | zero =>
    intro c q D P g n kc h1 h2 h
    obtain ⟨p, hp, hs⟩ := h.2.2.1
    have := hs.2.1
    omega
  | succ N ih =>
    intro c q D P g n kc h1 h2 h hM hW hR
    have h5 := h.1.1
    obtain ⟨p, hp, hs⟩ := h.2.2.1
    have s2 := hs.2.1
    have hF0 : PF P (wr P 0 9 (nI q)) := (PF.rf P).w (by omega) _
    unfold lpX2_read_41 lpX5_readsText_113
    rw [h.here, bs_s, show D.1 0 5 = nI len from h.1.2.1, show D.1 0 6 = nI q from h.2.1]
    have hend : len ≤ q → (∃ (D' P' : gF) (G' : gR) (g' : Nat → Int32) (n' kc' : Nat), some (1, D) = some ((1 : Nat), ((D', G') : gD)) ∧ some (1, st (wr P 0 9 (nI q)) w g) = some ((1 : Nat), st P' w g') ∧ (D' 0 3 = 0 ∧ D' 0 4 = -1 ∧ P' 0 11 = -1) ∧ PF P P' ∧ WF g' n' kc' ∧ RR G' g' n' kc') := fun _ =>
      ⟨D.1, wr P 0 9 (nI q), D.2, g, n, kc, rfl, rfl, ⟨h.2.2.2.1, h.2.2.2.2.1, h.h.2.2.2.2.2.2⟩, hF0, hW, hR⟩
    by_cases hq : len ≤ q
    · have et : tb T len q = -1 := by unfold tb; rw [if_neg (by omega)]
      rw [if_pos et]
      by_cases hc : 500 ≤ c
      · rw [if_pos (show (500 : Int32) ≤ nI c from nI_le (a := 500) hc (by omega))]
        exact Or.inl (hend hq)
      · rw [if_neg (show ¬ (500 : Int32) ≤ nI c from nI_ge (b := 500) (by omega) (by decide)), if_pos (nI_le hq (by omega))]
        exact Or.inl (hend hq)
    · have et : ¬ tb T len q = -1 := by
        unfold tb
        rw [if_pos (by omega)]
        intro z
        have := (h.1.2.2.2 q (by omega)).2.2
        rw [z] at this
        exact absurd this (by decide)
      rw [if_neg et, if_neg (show ¬ (500 : Int32) ≤ nI c from nI_ge (b := 500) (by omega) (by decide)), if_neg (nI_ge (by omega) (by omega)), nI_1]
      rcases stmt_b (k4 := fun D15 => lpX2_read_41 N (nI (c + 1)) D15) (k5 := fun F14 => lpX5_readsText_113 N F14) h.h (hM.pf hF0) hW hR with ⟨q2, D2, P2, G2, g2, n2, kc2, r4, r5, rP, rF, rW, rR, rq⟩ | ⟨D2, P2, g2, r4, r5, rE, rF⟩
      · unfold B4 at r4
        unfold A5 at r5
        rw [r4, r5]
        have hF2 : PF P P2 := hF0.tr rF
        rcases ih (c + 1) q2 (D2, G2) P2 g2 n2 kc2 (by omega) (by omega) rP (hM.pf hF2) rW rR with ⟨D3, P3, G3, g3, n3, kc3, t4, t5, tE, tF, tW, tR⟩ | ⟨D3, P3, g3, t4, t5, tE, tF⟩
        · exact Or.inl ⟨D3, P3, G3, g3, n3, kc3, t4, t5, tE, hF2.tr tF, tW, tR⟩
        · exact Or.inr ⟨D3, P3, g3, t4, t5, tE, hF2.tr tF⟩
      · unfold B4 at r4
        unfold A5 at r5
        rw [r4, r5]
        exact Or.inr ⟨D2, P2, g2, rfl, rfl, rE, hF0.tr rF⟩
/-- the whole text, read by both -/
theorem read_b {T : Nat → Int32} {len w : Nat} {D : gD} {P : gF} {g : Nat → Int32} (hl : len ≤ 500) (hT : ∀ j : Nat, j < len → D.1 1 j = T j ∧ P 4 j = T j ∧ 0 ≤ T j) (p8 : P 0 8 = nI len) (p9 : P 0 9 = 0) (p10 : P 0 10 = 0) (p11 : P 0 11 = -1) (hM : MS P w) : (∃ (D' P' : gF) (G' : gR) (g' : Nat → Int32) (n' kc' : Nat), dnX2_read D (nI len) = some (nI n', (D', G')) ∧ dnX5_readsText (st P w g) = some (1, st P' w g') ∧ (D' 0 3 = 0 ∧ D' 0 4 = -1 ∧ P' 0 11 = -1) ∧ PF P P' ∧ WF g' n' kc' ∧ RR G' g' n' kc') ∨ (∃ (D' : gD) (P' : gF) (g' : Nat → Int32), dnX2_read D (nI len) = some (D'.1 0 3, D') ∧ dnX5_readsText (st P w g) = some (0, st P' w g') ∧ ER D'.1 P' ∧ PF P P') := by
  have hX : TX T len (wr (wr (wr D.1 0 5 (nI len)) 0 3 0) 0 4 (-1)) P := ⟨hl, by rw [wr_o (by decide), wr_o (by decide), wr_i], p8, fun j hj => by rw [wr_b (by decide), wr_b (by decide), wr_b (by decide)]; exact hT j hj⟩
  obtain ⟨q, hs, eg⟩ := goToC (D := (wr (wr (wr D.1 0 5 (nI len)) 0 3 0) 0 4 (-1), D.2)) (p := 0) hX (Nat.zero_le _)
  have hPS : PS T len q (wr (wr (wr (wr D.1 0 5 (nI len)) 0 3 0) 0 4 (-1)) 0 6 (nI q)) P := by
    refine ⟨hX.cg (wr_o (by decide)) (wr_b (by decide)) rfl rfl, wr_i .., ⟨0, p9, hs⟩, ?_, ?_, p10, p11⟩
    · rw [wr_o (by decide), wr_o (by decide), wr_i]
    · rw [wr_o (by decide), wr_i]
  have e0 : ∀ o : Option (Int32 × gD), bs (dnX2_readRule (wr (wr (wr (wr D.1 0 5 (nI len)) 0 3 0) 0 4 (-1)) 0 6 (nI q), D.2)) (fun r22 D23 => if r22 = 0 then some (D23.1 0 3, D23) else bs (dnX2_readValues D23) (fun r26 D27 => if r26 = 0 then some (D27.1 0 3, D27) else bp (lpX2_read_41 FU 0 D27) (fun z41_28 => if z41_28.1 = 0 then some (z41_28.2.1 0 3, z41_28.2) else some (z41_28.2.2.1 0 3, z41_28.2)))) = o → dnX2_read D (nI len) = o := by
    intro o ho
    unfold dnX2_read
    rw [bw_s, bw_s, bw_s, show dnX2_goTo (wr (wr (wr D.1 0 5 (nI len)) 0 3 0) 0 4 (-1), D.2) 0 = _ from eg, bp_s]
    exact ho
  have e5 : dnX5_readsText (st P w g) = RH (st P w g) (fun F35 => bs (dnX5_readsValues F35) (fun r38 F39 => if r38 = 0 then some (0, F39) else bs (dnX5_sign F39 59) (fun r42 F43 => if r42 = 0 then some (0, F43) else bp (dnX5_builds F43) (fun F46 => bp (lpX5_readsText_113 FU F46) (fun z113_46 => if z113_46.1 = 0 then some (0, z113_46.2) else some (1, z113_46.2)))))) := rfl
  rw [e5]
  rcases head_b (k5 := fun F35 => bs (dnX5_readsValues F35) (fun r38 F39 => if r38 = 0 then some (0, F39) else bs (dnX5_sign F39 59) (fun r42 F43 => if r42 = 0 then some (0, F43) else bp (dnX5_builds F43) (fun F46 => bp (lpX5_readsText_113 FU F46) (fun z113_46 => if z113_46.1 = 0 then some (0, z113_46.2) else some (1, z113_46.2)))))) (D := (wr (wr (wr (wr D.1 0 5 (nI len)) 0 3 0) 0 4 (-1)) 0 6 (nI q), D.2)) (g := g) hPS hM with ⟨q1, D1, P1, G1, g1, a4, a5, aP, aF, aV, aR⟩ | ⟨D1, P1, g1, a4, a5, aE, aF⟩
  · rw [a5]
    have hM1 := hM.pf aF
    rcases vals_b (k5 := fun F46 => bp (lpX5_readsText_113 FU F46) (fun z113_46 => if z113_46.1 = 0 then some (0, z113_46.2) else some (1, z113_46.2))) (D := (D1, G1)) aP hM1 aV aR with ⟨q2, D2, P2, G2, g2, n2, b4, b5, bP, bF, bW, bR⟩ | ⟨D2, P2, g2, b4, b5, bE, bF⟩
    · have hF2 : PF P P2 := aF.tr bF
      rw [b5]
      rcases stL FU 0 q2 (D2, G2) P2 g2 n2 0 (Nat.zero_le _) (by unfold FU; omega) bP (hM.pf hF2) bW bR with ⟨D3, P3, G3, g3, n3, kc3, t4, t5, tE, tF, tW, tR⟩ | ⟨D3, P3, g3, t4, t5, tE, tF⟩
      · refine Or.inl ⟨D3, P3, G3, g3, n3, kc3, e0 _ ?_, ?_, tE, hF2.tr tF, tW, tR⟩
        · rw [a4, bs_s, if_neg (by decide), b4, bs_s, if_neg (by decide), show lpX2_read_41 FU 0 (D2, G2) = _ from t4, bp_s, if_neg (show ¬ (1 : Nat) = 0 by decide), show ((D3, G3) : gD).2.1 0 3 = nI n3 from tR.1.1.trans tW.1.2.2]
        · show bp (lpX5_readsText_113 FU (st P2 w g2)) _ = _
          rw [t5, bp_s, if_neg (show ¬ (1 : Nat) = 0 by decide)]
      · refine Or.inr ⟨D3, P3, g3, e0 _ ?_, ?_, tE, hF2.tr tF⟩
        · rw [a4, bs_s, if_neg (by decide), b4, bs_s, if_neg (by decide), show lpX2_read_41 FU 0 (D2, G2) = _ from t4, bp_s, if_pos (show (0 : Nat) = 0 from rfl)]
        · show bp (lpX5_readsText_113 FU (st P2 w g2)) _ = _
          rw [t5, bp_s, if_pos (show (0 : Nat) = 0 from rfl)]
    · refine Or.inr ⟨D2, P2, g2, e0 _ ?_, b5, bE, aF.tr bF⟩
      rw [a4, bs_s, if_neg (by decide), b4, bs_s, if_pos rfl]
  · refine Or.inr ⟨D1, P1, g1, e0 _ ?_, a5, aE, aF⟩
    rw [a4, bs_s, if_pos rfl]
