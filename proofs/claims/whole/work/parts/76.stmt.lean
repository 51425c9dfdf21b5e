/-! statements -/
def SOUT (T : Nat → Int32) (len q w : Nat) (P : gF) (k4 : gD → Option (Nat × gD)) (k5 : gF → Option (Nat × gF)) (o4 : Option (Nat × gD)) (o5 : Option (Nat × gF)) : Prop :=
  (∃ (q' : Nat) (D' P' : gF) (G' : gR) (g' : Nat → Int32) (n' kc' : Nat), o4 = k4 (D', G') ∧ o5 = k5 (st P' w g') ∧ PS T len q' D' P' ∧ PF P P' ∧ WF g' n' kc' ∧ RR G' g' n' kc' ∧ q < q') ∨
  (∃ (D' : gD) (P' : gF) (g' : Nat → Int32), o4 = some (0, D') ∧ o5 = some (0, st P' w g') ∧ ER D'.1 P' ∧ PF P P')
/-- behind a statement: the sign, and the class carries it out -/
theorem stfin {T : Nat → Int32} {len q q8 w n' kc' : Nat} {k : Int32} {D8 P P8 : gF} {G G' : gR} {g' : Nat → Int32} {k4 : gD → Option (Nat × gD)} {k5 : gF → Option (Nat × gF)} (h : PS T len q8 D8 P8) (hF : PF P P8) (hq : q < q8) (hW : WF g' n' kc') (hR : RR G' g' n' kc') (hop : ∀ D12 : gF, D12 0 9 = D8 0 9 → D12 0 10 = D8 0 10 → dnX2_carryOut (D12, G) k = some (D12, G')) : SOUT T len q w P k4 k5 (bs (dnX2_readSign (D8, G) 59) (fun r11 D12 => if r11 = 0 then some (0, D12) else bp (dnX2_carryOut D12 k) k4)) (bs (dnX5_sign (st P8 w g') 59) (fun r13 F14 => if r13 = 0 then some (0, F14) else k5 F14)) := by
  rcases sign_b (w := w) (D := (D8, G)) (g := g') (c := 59) h (by decide) with ⟨q4, D4, P4, c4, c5, cP, cF, cD, cq, -⟩ | ⟨D4, P4, g4, c4, c5, cE, cF⟩
  · have eo := hop D4 (cD.2 9 (by decide) (by decide) (by decide) (by decide) (by decide)) (cD.2 10 (by decide) (by decide) (by decide) (by decide) (by decide))
    refine Or.inl ⟨q4, D4, P4, G', g', n', kc', ?_, ?_, cP, hF.tr cF, hW, hR, by omega⟩
    · rw [c4, bs_s, if_neg (by decide), eo, bp_s]
    · rw [c5, bs_s, if_neg (by decide)]
  · refine Or.inr ⟨D4, P4, g4, ?_, ?_, cE, hF.tr cF⟩
    · rw [c4, bs_s, if_pos rfl]
    · rw [c5, bs_s, if_pos rfl]
theorem rzs1 (F : gF) : rzs 1 F = some (1, F) := rfl
theorem rzs0 (F : gF) : rzs 0 F = some (0, F) := rfl
theorem rzt1 (D : gD) : rzt 1 D = some (1, D) := rfl
theorem rzt0 (D : gD) : rzt 0 D = some (0, D) := rfl
/-- a place of the row, from l0 on -/
theorem place_b {T : Nat → Int32} {len q w n l0 : Nat} {D : gD} {P : gF} {g : Nat → Int32} (h : PS T len q D.1 P) (hM : MS P w) (h0 : g 0 = nI n) (n1 : 1 ≤ n) (n40 : n ≤ 40) (hl : l0 ≤ 40) : OUT T len q w D P g (dnX2_readNumber D (nI l0) (nI n - 1)) (dnX5_readsPlace (st P w g) (nI l0)) (fun D' P' => ∃ m : Nat, l0 ≤ m ∧ m < n ∧ D' 0 7 = nI m ∧ P' 0 12 = nI m ∧ D' 0 8 = nI q ∧ P' 0 13 = nI q) := by
  have e1 : nI n - 1 = nI (n - 1) := nI_sub (b := 1) n1
  unfold dnX5_readsPlace
  rw [show dnX5_size (st P w g) = some (nI n) from size_ (hM.s g) (by rw [row_st (by decide)]; exact h0), bp_s, e1]
  rcases number_b (w := w) (g := g) (lo := nI l0) (hi := nI (n - 1)) h (nI_le (b := 999) (by omega) (by decide)) with ⟨q', D', P', a4, a5, aP, aF, aD, aq, m, m1, m2, m3, m4, m5, m6, m7⟩ | ⟨D', P', g', a4, a5, aE, aF⟩
  · have z1 := (nI_leI (by omega) (by omega)).mp m4
    have z2 := (nI_leI (by omega) (by omega)).mp m5
    refine Or.inl ⟨q', D', P', a4, ?_, aP, aF, aD, aq, m, z1, by omega, m2, m3, m6, m7⟩
    rw [a5, bs_s, rzs1]
  · refine Or.inr ⟨D', P', g', a4, ?_, aE, aF⟩
    rw [a5, bs_s, rzs0]
def A4 (D : gD) (k : Int32) (k4 : gD → Option (Nat × gD)) : Option (Nat × gD) := bs (dnX2_readArguments D k) (fun r7 D8 => if r7 = 0 then some (0, D8) else bs (dnX2_readSign D8 59) (fun r11 D12 => if r11 = 0 then some (0, D12) else bp (dnX2_carryOut D12 k) k4))
def A5 (o : Option (Int32 × gF)) (k5 : gF → Option (Nat × gF)) : Option (Nat × gF) := bs o (fun r9 F10 => if r9 = 0 then some (0, F10) else bs (dnX5_sign F10 59) (fun r13 F14 => if r13 = 0 then some (0, F14) else k5 F14))
section STM
variable {T : Nat → Int32} {len q w n kc : Nat} {D : gD} {P : gF} {g : Nat → Int32} {k4 : gD → Option (Nat × gD)} {k5 : gF → Option (Nat × gF)}
theorem st_set (h : PS T len q D.1 P) (hM : MS P w) (hW : WF g n kc) (hR : RR D.2 g n kc) : SOUT T len q w P k4 k5 (A4 D 1 k4) (A5 (bs (dnX5_readsSet (st P w g)) (fun r45 F46 => rzs r45 F46)) k5) := by
  obtain ⟨⟨n1, n40, hn⟩, -⟩ := id hW
  have hvv := hW.2.2.2.2.2.2.1
  unfold A4 A5 dnX2_readArguments dnX2_readFirst dnX5_readsSet
  rw [if_neg (show ¬ (1 : Int32) = 0 by decide), if_neg (show ¬ (1 : Int32) = 4 by decide), show D.2.1 0 3 = nI n from hR.1.1.trans hn]
  rcases place_b (l0 := 0) h hM hn n1 n40 (by decide) with ⟨q1, D1, P1, a4, a5, aP, aF, aD, aq, a, -, an, a7, a12, -⟩ | ⟨D1, P1, g1, a4, a5, aE, aF⟩
  · have hM1 := hM.pf aF
    have e12 : (st P1 w g) 0 12 = nI a := by rw [st_0]; exact a12
    rw [show dnX2_readNumber D 0 (nI n - 1) = _ from a4, show dnX5_readsPlace (st P w g) 0 = _ from a5, bs_s, bs_s, if_neg (show ¬ (1 : Int32) = 0 by decide), if_neg (show ¬ (1 : Int32) = 0 by decide), show ((D1, D.2) : gD).1 0 7 = nI a from a7, bw_s, if_neg (show ¬ (1 : Int32) = 3 by decide), if_neg (show ¬ (1 : Int32) = 5 by decide), bs_s, if_neg (show ¬ (1 : Int32) = 0 by decide), if_neg (show ¬ (1 : Int32) = 5 by decide), if_neg (show ¬ (1 : Int32) = 2 by decide), if_neg (show ¬ (1 : Int32) = 3 by decide)]
    rcases value_b (w := w) (D := (wr D1 0 9 (nI a), D.2)) (g := g) (aP.d (by decide) _) with ⟨q2, D2, P2, b4, b5, bP, bF, bD, bq, v, v1, v2, v3, v4⟩ | ⟨D2, P2, g2, b4, b5, bE, bF⟩
    · have hF2 : PF P P2 := aF.tr bF
      have hM2 := hM.pf hF2
      have e12' : (st P2 w g) 0 12 = v := by rw [st_0]; exact v2
      obtain ⟨G', g', c4, c5, hW', hR'⟩ := change_b hM2 hW hR an v3 v4
      have d9 : D2 0 9 = nI a := (bD.2 9 (by decide) (by decide) (by decide) (by decide) (by decide)).trans (show (wr D1 0 9 (nI a)) 0 9 = nI a from wr_i ..)
      rw [show dnX2_readValue (wr (D1, D.2).1 0 9 (nI a), (D1, D.2).2) = _ from b4, b5, bs_s, bs_s, if_neg (show ¬ (1 : Int32) = 0 by decide), if_neg (show ¬ (1 : Int32) = 0 by decide), e12, e12', c5, bs_s, if_neg (Int32.not_lt.mpr (hvv a an).2), bs_s, rzs1, bs_s, if_neg (show ¬ (1 : Int32) = 0 by decide), bw_s, bs_s, if_neg (show ¬ (1 : Int32) = 0 by decide)]
      refine stfin (G := D.2) (D8 := wr D2 0 10 (D2 0 7)) (bP.d (by decide) _) hF2 (by omega) hW' hR' (fun D12 i9 i10 => ?_)
      unfold dnX2_carryOut
      rw [if_pos rfl]
      show bs (dnX1_change D.2 (D12 0 9) (D12 0 10)) _ = _
      rw [i9, i10, wr_o (by decide), d9, wr_i, v1, c4, bs_s]
    · refine Or.inr ⟨D2, P2, g2, ?_, ?_, bE, aF.tr bF⟩
      · rw [show dnX2_readValue (wr (D1, D.2).1 0 9 (nI a), (D1, D.2).2) = _ from b4, bs_s, if_pos rfl, bs_s, if_pos rfl]
      · rw [b5, bs_s, if_pos rfl, bs_s, rzs0, bs_s, if_pos rfl]
  · refine Or.inr ⟨D1, P1, g1, ?_, ?_, aE, aF⟩
    · rw [show dnX2_readNumber D 0 (nI n - 1) = _ from a4, bs_s, if_pos rfl, bs_s, if_pos rfl, bs_s, if_pos rfl]
    · rw [show dnX5_readsPlace (st P w g) 0 = _ from a5, bs_s, if_pos rfl, bs_s, rzs0, bs_s, if_pos rfl]
theorem st_ask (h : PS T len q D.1 P) (hM : MS P w) (hW : WF g n kc) (hR : RR D.2 g n kc) : SOUT T len q w P k4 k5 (A4 D 2 k4) (A5 (bs (dnX5_readsAsk (st P w g)) (fun r41 F42 => rzs r41 F42)) k5) := by
  obtain ⟨⟨n1, n40, hn⟩, -⟩ := id hW
  have hc : D.2.1 0 3 = nI n := hR.1.1.trans hn
  unfold A4 A5 dnX2_readArguments dnX2_readFirst dnX5_readsAsk
  rw [if_neg (show ¬ (2 : Int32) = 0 by decide), if_neg (show ¬ (2 : Int32) = 4 by decide), hc]
  rcases place_b (l0 := 0) h hM hn n1 n40 (by decide) with ⟨q1, D1, P1, a4, a5, aP, aF, aD, aq, a, -, an, a7, a12, -⟩ | ⟨D1, P1, g1, a4, a5, aE, aF⟩
  · have hM1 := hM.pf aF
    have e12 : (st P1 w g) 0 12 = nI a := by rw [st_0]; exact a12
    have d9 : (wr D1 0 9 (nI a)) 0 9 = nI a := wr_i ..
    rw [show dnX2_readNumber D 0 (nI n - 1) = _ from a4, show dnX5_readsPlace (st P w g) 0 = _ from a5, bs_s, bs_s, if_neg (show ¬ (1 : Int32) = 0 by decide), if_neg (show ¬ (1 : Int32) = 0 by decide), show ((D1, D.2) : gD).1 0 7 = nI a from a7, bw_s, if_neg (show ¬ (2 : Int32) = 3 by decide), if_neg (show ¬ (2 : Int32) = 5 by decide), bs_s, if_neg (show ¬ (1 : Int32) = 0 by decide), if_neg (show ¬ (2 : Int32) = 5 by decide), if_pos rfl, e12, show ((wr (D1, D.2).1 0 9 (nI a), (D1, D.2).2) : gD).1 0 9 = nI a from d9, show ((wr (D1, D.2).1 0 9 (nI a), (D1, D.2).2) : gD).2.1 0 3 = nI n from hc]
    rcases place_b (l0 := a) (D := (wr D1 0 9 (nI a), D.2)) (aP.d (by decide) _) hM1 hn n1 n40 (by omega) with ⟨q2, D2, P2, b4, b5, bP, bF, bD, bq, b, ab, bn, b7, b12, -⟩ | ⟨D2, P2, g2, b4, b5, bE, bF⟩
    · have hF2 : PF P P2 := aF.tr bF
      have hM2 := hM.pf hF2
      have e12' : (st P2 w g) 0 12 = nI b := by rw [st_0]; exact b12
      obtain ⟨G', g', c4, c5, hW', hR', -⟩ := question_b hM2 hW hR ab bn
      have d9' : D2 0 9 = nI a := (bD.2 9 (by decide) (by decide) (by decide) (by decide) (by decide)).trans d9
      have hlb := lm_b g a (b - a)
      rw [show dnX2_readNumber (wr (D1, D.2).1 0 9 (nI a), (D1, D.2).2) (nI a) (nI n - 1) = _ from b4, b5, bs_s, bs_s, if_neg (show ¬ (1 : Int32) = 0 by decide), if_neg (show ¬ (1 : Int32) = 0 by decide), e12', c5, bs_s, if_neg (nI_pos (by omega)), bs_s, rzs1, bs_s, if_neg (show ¬ (1 : Int32) = 0 by decide), bw_s, bs_s, if_neg (show ¬ (1 : Int32) = 0 by decide)]
      refine stfin (G := D.2) (D8 := wr D2 0 10 (D2 0 7)) (bP.d (by decide) _) hF2 (by omega) hW' hR' (fun D12 i9 i10 => ?_)
      unfold dnX2_carryOut
      rw [if_neg (show ¬ (2 : Int32) = 1 by decide), if_pos rfl]
      show bs (dnX1_question D.2 (D12 0 9) (D12 0 10)) _ = _
      rw [i9, i10, wr_o (by decide), d9', wr_i, b7, c4, bs_s]
    · refine Or.inr ⟨D2, P2, g2, ?_, ?_, bE, aF.tr bF⟩
      · rw [show dnX2_readNumber (wr (D1, D.2).1 0 9 (nI a), (D1, D.2).2) (nI a) (nI n - 1) = _ from b4, bs_s, if_pos rfl, bs_s, if_pos rfl]
      · rw [b5, bs_s, if_pos rfl, bs_s, rzs0, bs_s, if_pos rfl]
  · refine Or.inr ⟨D1, P1, g1, ?_, ?_, aE, aF⟩
    · rw [show dnX2_readNumber D 0 (nI n - 1) = _ from a4, bs_s, if_pos rfl, bs_s, if_pos rfl, bs_s, if_pos rfl]
    · rw [show dnX5_readsPlace (st P w g) 0 = _ from a5, bs_s, if_pos rfl, bs_s, rzs0, bs_s, if_pos rfl]
theorem st_keep (h : PS T len q D.1 P) (hM : MS P w) (hW : WF g n kc) (hR : RR D.2 g n kc) : SOUT T len q w P k4 k5 (A4 D 3 k4) (A5 (bs (dnX5_readsKeep (st P w g)) (fun r37 F38 => rzs r37 F38)) k5) := by
  obtain ⟨⟨n1, n40, hn⟩, ⟨k8, hk⟩, -⟩ := id hW
  have hc : D.2.1 0 3 = nI n := hR.1.1.trans hn
  have hc3 : D.2.1 3 2 = nI kc := hR.1.2.2.2.2.2.2.2.trans hk
  unfold A4 A5 dnX2_readArguments dnX2_readFirst dnX5_readsKeep
  rw [if_neg (show ¬ (3 : Int32) = 0 by decide), if_neg (show ¬ (3 : Int32) = 4 by decide), hc]
  rcases place_b (l0 := 0) h hM hn n1 n40 (by decide) with ⟨q1, D1, P1, a4, a5, aP, aF, aD, aq, a, -, an, a7, a12, a8, a13⟩ | ⟨D1, P1, g1, a4, a5, aE, aF⟩
  · have hM1 := hM.pf aF
    have e12 : (st P1 w g) 0 12 = nI a := by rw [st_0]; exact a12
    have e13 : (st P1 w g) 0 13 = nI q := by rw [st_0]; exact a13
    have d9 : (wr D1 0 9 (nI a)) 0 9 = nI a := wr_i ..
    have eg : dnX5_get (st P1 w g) 6 = some (nI kc) := by rw [show (6 : Int32) = nI 6 from rfl, get_ hM1 (by decide), hk]
    rw [show dnX2_readNumber D 0 (nI n - 1) = _ from a4, show dnX5_readsPlace (st P w g) 0 = _ from a5, bs_s, bs_s, if_neg (show ¬ (1 : Int32) = 0 by decide), if_neg (show ¬ (1 : Int32) = 0 by decide), show ((D1, D.2) : gD).1 0 7 = nI a from a7, bw_s, if_pos rfl, show ((D1, D.2) : gD).2.1 3 2 = nI kc from hc3, eg, bp_s]
    by_cases h8 : kc < 8
    · have hne : ¬ nI kc = 8 := fun z => by have := (nI_eq (b := 8) (by omega) (by omega)).mp z; omega
      rw [if_pos (show nI kc < (8 : Int32) from nI_lt (b := 8) h8 (by decide)), if_neg (show ¬ (3 : Int32) = 5 by decide), bs_s, if_neg (show ¬ (1 : Int32) = 0 by decide), if_neg (show ¬ (3 : Int32) = 5 by decide), if_neg (show ¬ (3 : Int32) = 2 by decide), if_pos rfl, if_neg hne, e12, show ((wr (D1, D.2).1 0 9 (nI a), (D1, D.2).2) : gD).1 0 9 = nI a from d9, show ((wr (D1, D.2).1 0 9 (nI a), (D1, D.2).2) : gD).2.1 0 3 = nI n from hc]
      rcases place_b (l0 := a) (D := (wr D1 0 9 (nI a), D.2)) (aP.d (by decide) _) hM1 hn n1 n40 (by omega) with ⟨q2, D2, P2, b4, b5, bP, bF, bD, bq, b, ab, bn, b7, b12, -⟩ | ⟨D2, P2, g2, b4, b5, bE, bF⟩
      · have hF2 : PF P P2 := aF.tr bF
        have hM2 := hM.pf hF2
        have e12' : (st P2 w g) 0 12 = nI b := by rw [st_0]; exact b12
        obtain ⟨L, hl, hL, hC, hv⟩ := kl_of hW hR
        obtain ⟨G', c4, hC', c1, c2, c3⟩ := addC (a := a) (b := b) hC (by omega)
        obtain ⟨g', c5, hL', c6⟩ := keepsM (a := a) (b := b) hM2 hL (by omega)
        have hv' : KLv n (L ++ [(a, b)]) := by
          intro k p1 p2 z
          by_cases e : k < L.length
          · rw [List.getElem?_append_left e] at z; exact hv k p1 p2 z
          · rw [List.getElem?_append_right (by omega)] at z
            have hz := kl_lt z
            have hz : k - L.length < 1 := hz
            rw [show k - L.length = 0 by omega] at z
            obtain ⟨rfl, rfl⟩ := Prod.mk.inj (Option.some.inj (show some (a, b) = some (p1, p2) from z))
            exact ⟨ab, bn⟩
        obtain ⟨hW', hR'⟩ := WR.k hW hR c6 c1 c2 hL' hC' hv'
        have d9' : D2 0 9 = nI a := (bD.2 9 (by decide) (by decide) (by decide) (by decide) (by decide)).trans d9
        rw [show dnX2_readNumber (wr (D1, D.2).1 0 9 (nI a), (D1, D.2).2) (nI a) (nI n - 1) = _ from b4, b5, bs_s, bs_s, if_neg (show ¬ (1 : Int32) = 0 by decide), if_neg (show ¬ (1 : Int32) = 0 by decide), e12', c5, bs_s, if_neg (show ¬ nI (L.length + 1) ≤ 0 from nI_nle (by omega) (by omega)), bs_s, rzs1, bs_s, if_neg (show ¬ (1 : Int32) = 0 by decide), bw_s, bs_s, if_neg (show ¬ (1 : Int32) = 0 by decide)]
        refine stfin (G := D.2) (D8 := wr D2 0 10 (D2 0 7)) (bP.d (by decide) _) hF2 (by omega) hW' hR' (fun D12 i9 i10 => ?_)
        unfold dnX2_carryOut
        rw [if_neg (show ¬ (3 : Int32) = 1 by decide), if_neg (show ¬ (3 : Int32) = 2 by decide), if_pos rfl]
        show bp (dnX3_add D.2 (D12 0 9) (D12 0 10)) _ = _
        rw [i9, i10, wr_o (by decide), d9', wr_i, b7, c4, bp_s]
      · refine Or.inr ⟨D2, P2, g2, ?_, ?_, bE, aF.tr bF⟩
        · rw [show dnX2_readNumber (wr (D1, D.2).1 0 9 (nI a), (D1, D.2).2) (nI a) (nI n - 1) = _ from b4, bs_s, if_pos rfl, bs_s, if_pos rfl]
        · rw [b5, bs_s, if_pos rfl, bs_s, rzs0, bs_s, if_pos rfl]
    · have he : nI kc = 8 := by rw [show kc = 8 by omega]; rfl
      have p10 : P1 0 10 = 0 := aP.2.2.2.2.2.1
      refine Or.inr ⟨(wr (wr (wr D1 0 9 (nI a)) 0 3 (-4)) 0 4 (nI q), D.2), _, g, ?_, ?_, er_f (wr D1 0 9 (nI a)) P1 (c := -4) (o := nI q) (by decide), (aF.w (by omega) _).w (by omega) _⟩
      · rw [if_neg (show ¬ nI kc < (8 : Int32) from nI_nlt (a := kc) (b := 8) (by omega) (by omega)), failC, bs_s, rzt0, bs_s, if_pos rfl, bs_s, if_pos rfl, show ((wr (D1, D.2).1 0 9 (nI a))) 0 8 = nI q from (wr_o (by decide)).trans a8]
      · rw [if_pos he, e13, failM p10, bs_s, rzs0, bs_s, rzs0, bs_s, if_pos rfl]
  · refine Or.inr ⟨D1, P1, g1, ?_, ?_, aE, aF⟩
    · rw [show dnX2_readNumber D 0 (nI n - 1) = _ from a4, bs_s, if_pos rfl, bs_s, if_pos rfl, bs_s, if_pos rfl]
    · rw [show dnX5_readsPlace (st P w g) 0 = _ from a5, bs_s, if_pos rfl, bs_s, rzs0, bs_s, if_pos rfl]
theorem st_put (h : PS T len q D.1 P) (hM : MS P w) (hW : WF g n kc) (hR : RR D.2 g n kc) : SOUT T len q w P k4 k5 (A4 D 4 k4) (A5 (bs (dnX5_readsPut (st P w g)) (fun r33 F34 => rzs r33 F34)) k5) := by
  obtain ⟨⟨n1, n40, hn⟩, -⟩ := id hW
  have hc : D.2.1 0 3 = nI n := hR.1.1.trans hn
  have hsz : ∀ P2 : gF, MS P2 w → dnX5_size (st P2 w g) = some (nI n) := fun P2 hM2 => size_ (hM2.s g) (by rw [row_st (by decide)]; exact hn)
  unfold A4 A5 dnX2_readArguments dnX2_readFirst dnX5_readsPut
  rw [if_neg (show ¬ (4 : Int32) = 0 by decide), if_pos rfl, hc, hsz P hM, bp_s]
  rcases number_b (w := w) (g := g) (lo := 0) (hi := nI n) h (nI_le (b := 999) (by omega) (by decide)) with ⟨q1, D1, P1, a4, a5, aP, aF, aD, aq, a, am, a7, a12, al, ah, a8, a13⟩ | ⟨D1, P1, g1, a4, a5, aE, aF⟩
  · have hM1 := hM.pf aF
    have an : a ≤ n := (nI_leI (by omega) (by omega)).mp ah
    have e12 : (st P1 w g) 0 12 = nI a := by rw [st_0]; exact a12
    have e13 : (st P1 w g) 0 13 = nI q := by rw [st_0]; exact a13
    rw [a4, a5, bs_s, bs_s, if_neg (show ¬ (1 : Int32) = 0 by decide), if_neg (show ¬ (1 : Int32) = 0 by decide), show ((D1, D.2) : gD).1 0 7 = nI a from a7, bw_s, show ((D1, D.2) : gD).2.1 0 3 = nI n from hc, hsz _ hM1, bp_s]
    by_cases h40 : n < 40
    · have hne : ¬ nI n = 40 := fun z => by have := (nI_eq (b := 40) (by omega) (by omega)).mp z; omega
      rw [if_pos (show nI n < (40 : Int32) from nI_lt (b := 40) h40 (by decide)), if_neg (show ¬ (4 : Int32) = 3 by decide), if_neg (show ¬ (4 : Int32) = 5 by decide), bs_s, if_neg (show ¬ (1 : Int32) = 0 by decide), if_neg (show ¬ (4 : Int32) = 5 by decide), if_neg (show ¬ (4 : Int32) = 2 by decide), if_neg (show ¬ (4 : Int32) = 3 by decide), if_neg hne, e12]
      rcases value_b (w := w) (D := (wr D1 0 9 (nI a), D.2)) (g := g) (aP.d (by decide) _) with ⟨q2, D2, P2, b4, b5, bP, bF, bD, bq, v, v1, v2, v3, v4⟩ | ⟨D2, P2, g2, b4, b5, bE, bF⟩
      · have hF2 : PF P P2 := aF.tr bF
        have hM2 := hM.pf hF2
        have e12' : (st P2 w g) 0 12 = v := by rw [st_0]; exact v2
        obtain ⟨G', g', c4, c5, hW', hR'⟩ := insert_b hM2 hW hR h40 an v3 v4
        have d9 : D2 0 9 = nI a := (bD.2 9 (by decide) (by decide) (by decide) (by decide) (by decide)).trans (show (wr D1 0 9 (nI a)) 0 9 = nI a from wr_i ..)
        rw [show dnX2_readValue (wr (D1, D.2).1 0 9 (nI a), (D1, D.2).2) = _ from b4, b5, bs_s, bs_s, if_neg (show ¬ (1 : Int32) = 0 by decide), if_neg (show ¬ (1 : Int32) = 0 by decide), e12', c5, bs_s, if_neg (show ¬ nI (n + 1) ≤ 0 from nI_nle (by omega) (by omega)), bs_s, rzs1, bs_s, if_neg (show ¬ (1 : Int32) = 0 by decide), bw_s, bs_s, if_neg (show ¬ (1 : Int32) = 0 by decide)]
        refine stfin (G := D.2) (D8 := wr D2 0 10 (D2 0 7)) (bP.d (by decide) _) hF2 (by omega) hW' hR' (fun D12 i9 i10 => ?_)
        unfold dnX2_carryOut
        rw [if_neg (show ¬ (4 : Int32) = 1 by decide), if_neg (show ¬ (4 : Int32) = 2 by decide), if_neg (show ¬ (4 : Int32) = 3 by decide), if_pos rfl]
        show bp (dnX1_insert D.2 (D12 0 9) (D12 0 10)) _ = _
        rw [i9, i10, wr_o (by decide), d9, wr_i, v1, c4, bp_s]
      · refine Or.inr ⟨D2, P2, g2, ?_, ?_, bE, aF.tr bF⟩
        · rw [show dnX2_readValue (wr (D1, D.2).1 0 9 (nI a), (D1, D.2).2) = _ from b4, bs_s, if_pos rfl, bs_s, if_pos rfl]
        · rw [b5, bs_s, if_pos rfl, bs_s, rzs0, bs_s, if_pos rfl]
    · have he : nI n = 40 := by rw [show n = 40 by omega]; rfl
      have p10 : P1 0 10 = 0 := aP.2.2.2.2.2.1
      refine Or.inr ⟨(wr (wr (wr D1 0 9 (nI a)) 0 3 (-4)) 0 4 (nI q), D.2), _, g, ?_, ?_, er_f (wr D1 0 9 (nI a)) P1 (c := -4) (o := nI q) (by decide), (aF.w (by omega) _).w (by omega) _⟩
      · rw [if_neg (show ¬ nI n < (40 : Int32) from nI_nlt (a := n) (b := 40) (by omega) (by omega)), if_neg (show ¬ (4 : Int32) = 3 by decide), failC, bs_s, rzt0, bs_s, if_pos rfl, bs_s, if_pos rfl, show ((wr (D1, D.2).1 0 9 (nI a))) 0 8 = nI q from (wr_o (by decide)).trans a8]
      · rw [if_pos he, e13, failM p10, bs_s, rzs0, bs_s, rzs0, bs_s, if_pos rfl]
  · refine Or.inr ⟨D1, P1, g1, ?_, ?_, aE, aF⟩
    · rw [a4, bs_s, if_pos rfl, bs_s, if_pos rfl, bs_s, if_pos rfl]
    · rw [a5, bs_s, if_pos rfl, bs_s, rzs0, bs_s, if_pos rfl]
theorem st_take (h : PS T len q D.1 P) (hM : MS P w) (hW : WF g n kc) (hR : RR D.2 g n kc) : SOUT T len q w P k4 k5 (A4 D 5 k4) (A5 (bs (dnX5_readsTake (st P w g)) (fun r29 F30 => rzs r29 F30)) k5) := by
  obtain ⟨⟨n1, n40, hn⟩, -⟩ := id hW
  have hvv := hW.2.2.2.2.2.2.1
  have hc : D.2.1 0 3 = nI n := hR.1.1.trans hn
  unfold A4 A5 dnX2_readArguments dnX2_readFirst dnX5_readsTake
  rw [if_neg (show ¬ (5 : Int32) = 0 by decide), if_neg (show ¬ (5 : Int32) = 4 by decide), hc]
  rcases place_b (l0 := 0) h hM hn n1 n40 (by decide) with ⟨q1, D1, P1, a4, a5, aP, aF, aD, aq, a, -, an, a7, a12, a8, a13⟩ | ⟨D1, P1, g1, a4, a5, aE, aF⟩
  · have hM1 := hM.pf aF
    have e12 : (st P1 w g) 0 12 = nI a := by rw [st_0]; exact a12
    have e13 : (st P1 w g) 0 13 = nI q := by rw [st_0]; exact a13
    have d9 : (wr D1 0 9 (nI a)) 0 9 = nI a := wr_i ..
    rw [show dnX2_readNumber D 0 (nI n - 1) = _ from a4, show dnX5_readsPlace (st P w g) 0 = _ from a5, bs_s, bs_s, if_neg (show ¬ (1 : Int32) = 0 by decide), if_neg (show ¬ (1 : Int32) = 0 by decide), show ((D1, D.2) : gD).1 0 7 = nI a from a7, bw_s, if_neg (show ¬ (5 : Int32) = 3 by decide), if_pos rfl, show ((D1, D.2) : gD).2.1 0 3 = nI n from hc, show dnX5_size (st P1 w g) = some (nI n) from size_ (hM1.s g) (by rw [row_st (by decide)]; exact hn), bp_s]
    by_cases h1 : n = 1
    · have he : nI n = 1 := by rw [h1]; rfl
      have p10 : P1 0 10 = 0 := aP.2.2.2.2.2.1
      refine Or.inr ⟨(wr (wr (wr D1 0 9 (nI a)) 0 3 (-5)) 0 4 (nI q), D.2), _, g, ?_, ?_, er_f (wr D1 0 9 (nI a)) P1 (c := -5) (o := nI q) (by decide), (aF.w (by omega) _).w (by omega) _⟩
      · rw [if_pos he, failC, bs_s, rzt0, bs_s, if_pos rfl, bs_s, if_pos rfl, show ((wr (D1, D.2).1 0 9 (nI a))) 0 8 = nI q from (wr_o (by decide)).trans a8]
      · rw [if_pos he, e13, failM p10, bs_s, rzs0, bs_s, rzs0, bs_s, if_pos rfl]
    · have hne : ¬ nI n = 1 := fun z => h1 ((nI_eq (b := 1) (by omega) (by omega)).mp z)
      obtain ⟨G', g', kc', c4, c5, hW', hR'⟩ := remove_b hM1 hW hR (by omega) an
      rw [if_neg hne, bs_s, if_neg (show ¬ (1 : Int32) = 0 by decide), if_pos rfl, bs_s, if_neg (show ¬ (1 : Int32) = 0 by decide), if_neg hne, e12, c5, bs_s, if_neg (Int32.not_lt.mpr (hvv a an).2), bs_s, rzs1, bs_s, if_neg (show ¬ (1 : Int32) = 0 by decide)]
      refine stfin (G := D.2) (D8 := wr D1 0 9 (nI a)) (aP.d (by decide) _) aF aq hW' hR' (fun D12 i9 i10 => ?_)
      unfold dnX2_carryOut
      rw [if_neg (show ¬ (5 : Int32) = 1 by decide), if_neg (show ¬ (5 : Int32) = 2 by decide), if_neg (show ¬ (5 : Int32) = 3 by decide), if_neg (show ¬ (5 : Int32) = 4 by decide), if_pos rfl]
      show bs (dnX1_remove D.2 (D12 0 9)) _ = _
      rw [i9, d9, c4, bs_s]
  · refine Or.inr ⟨D1, P1, g1, ?_, ?_, aE, aF⟩
    · rw [show dnX2_readNumber D 0 (nI n - 1) = _ from a4, bs_s, if_pos rfl, bs_s, if_pos rfl, bs_s, if_pos rfl]
    · rw [show dnX5_readsPlace (st P w g) 0 = _ from a5, bs_s, if_pos rfl, bs_s, rzs0, bs_s, if_pos rfl]
end STM
