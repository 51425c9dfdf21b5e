/-! the head of a text -/
theorem clr22 {P : gF} {w : Nat} {g : Nat → Int32} (hM : MS P w) : ∀ (N j : Nat), j ≤ 310 → 310 < N + j → lpX5_readsText_22 N (nI j) (st P w (cpM (fun _ => 0) g j)) = some (0, st P w (cpM (fun _ => 0) g 310)) := by
  intro N
  induction N with
  | zero => intro j q1 q2; omega
  | succ N ih =>
    intro j q1 q2
    unfold lpX5_readsText_22
    by_cases hj : 310 ≤ j
    · rw [if_pos (show (310 : Int32) ≤ nI j from nI_le (a := 310) hj (by omega)), show j = 310 by omega]
    · rw [if_neg (show ¬ (310 : Int32) ≤ nI j from nI_ge (b := 310) (by omega) (by omega)), put_ hM (by omega), bp_s, show upd (cpM (fun _ => 0) g j) j 0 = cpM (fun _ => 0) g (j + 1) from cpM_u (fun _ => 0) g j, nI_1]
      exact ih (j + 1) (by omega) (by omega)
theorem PS.d {T : Nat → Int32} {len q k : Nat} {D P : gF} (h : PS T len q D P) (hk : 8 < k) (v : Int32) : PS T len q (wr D 0 k v) P := by
  obtain ⟨h1, h2, h3, e1, e2, e3, e4⟩ := h
  exact ⟨h1.cg (wr_o (by omega)) (wr_b (by decide)) rfl rfl, by rw [wr_o (by omega)]; exact h2, h3, by rw [wr_o (by omega)]; exact e1, by rw [wr_o (by omega)]; exact e2, e3, e4⟩
def sG (G : gR) (a b : Int32) : gR := wR (wR (wR (wR (wR (wL (wR (wR (wR G 0 3 0) 0 4 a) 0 5 b) 0) 0 7 0) 0 8 0) 0 9 0) 0 10 0) 3 2 0
theorem sG_e (G : gR) (a b : Int32) : dnX1_start G a b = some (sG G a b) := rfl
theorem rule_em {m : Nat} (h : m ≤ 2) : nI m = 0 ∨ nI m = 1 ∨ nI m = 2 := by
  match m, h with
  | 0, _ => exact Or.inl rfl
  | 1, _ => exact Or.inr (Or.inl rfl)
  | 2, _ => exact Or.inr (Or.inr rfl)
theorem z12 (a b : Int32) {k : Nat} (h1 : k ≠ 1) (h2 : k ≠ 2) : upd (upd (fun _ => (0 : Int32)) 1 a) 2 b k = 0 := by
  simp only [upd]; rw [if_neg h2, if_neg h1]
theorem z1 (a b : Int32) : upd (upd (fun _ => (0 : Int32)) 1 a) 2 b 1 = a := by simp [upd]
theorem z2 (a b : Int32) : upd (upd (fun _ => (0 : Int32)) 1 a) 2 b 2 = b := by simp [upd]
theorem V0s {m m' : Nat} (h : m ≤ 2) (h1 : 1 ≤ m') (h8 : m' ≤ 8) : V0 (upd (upd (fun _ => 0) 1 (nI m)) 2 (nI m')) 0 :=
  ⟨⟨by decide, z12 _ _ (by decide) (by decide)⟩, z12 _ _ (by decide) (by decide), by rw [z1]; exact rule_em h, ⟨m', h1, h8, z2 _ _⟩, fun p hp => by omega⟩
theorem R0s (G : gR) (a b : Int32) : R0 (sG G a b) (upd (upd (fun _ => 0) 1 a) 2 b) 0 0 := by
  refine ⟨⟨?_, ?_, ?_, ?_, ?_, ?_, ?_, ?_⟩, fun p hp => by omega, fun k hk => by omega⟩
  · rw [z12 _ _ (by decide) (by decide)]; simp [sG, wR, wL, wr, upd]
  · rw [z1]; simp [sG, wR, wL, wr, upd]
  · rw [z2]; simp [sG, wR, wL, wr, upd]
  · rw [z12 _ _ (by decide) (by decide)]; simp [sG, wR, wL, wr, upd]
  · rw [z12 _ _ (by decide) (by decide)]; simp [sG, wR, wL, wr, upd]
  · rw [z12 _ _ (by decide) (by decide)]; simp [sG, wR, wL, wr, upd]
  · rw [z12 _ _ (by decide) (by decide)]; simp [sG, wR, wL, wr, upd]
  · rw [z12 _ _ (by decide) (by decide)]; simp [sG, wR, wL, wr, upd]
def RH (F : gF) (k5 : gF → Option (Int32 × gF)) : Option (Int32 × gF) := bs (dnX5_passes F 0) (fun r17 F18 => if r17 = 0 then bs (dnX5_fails F18 (-2) (F18 0 9)) (fun r49 F50 => rzs r49 F50) else bp (lpX5_readsText_22 FU 0 F18) (fun z22_19 => bs (dnX5_reads z22_19.2 0 2) (fun r22 F23 => if r22 = 0 then some (0, F23) else bp (dnX5_put0 F23 1 (F23 0 12)) (fun F26 => bs (dnX5_reads F26 1 8) (fun r28 F29 => if r28 = 0 then some (0, F29) else bp (dnX5_put0 F29 2 (F29 0 12)) (fun F32 => bs (dnX5_sign F32 58) (fun r34 F35 => if r34 = 0 then some (0, F35) else k5 F35)))))))
set_option maxHeartbeats 4000000 in
theorem head_b {T : Nat → Int32} {len q w : Nat} {D : gD} {P : gF} {g : Nat → Int32} {k5 : gF → Option (Int32 × gF)} (h : PS T len q D.1 P) (hM : MS P w) : (∃ (q' : Nat) (D' P' : gF) (G' : gR) (g' : Nat → Int32), dnX2_readRule D = some (1, (D', G')) ∧ RH (st P w g) k5 = k5 (st P' w g') ∧ PS T len q' D' P' ∧ PF P P' ∧ V0 g' 0 ∧ R0 G' g' 0 0) ∨ (∃ (D' : gD) (P' : gF) (g' : Nat → Int32), dnX2_readRule D = some (0, D') ∧ RH (st P w g) k5 = some (0, st P' w g') ∧ ER D'.1 P' ∧ PF P P') := by
  unfold dnX2_readRule RH
  rcases word_w (w := w) (g := g) (i := 0) h (by decide) with ⟨q1, P1, w4, w5, wP, wF, wq⟩ | ⟨w4, w5⟩
  · have hM1 := hM.pf wF
    have ec : lpX5_readsText_22 FU 0 (st P1 w g) = some (0, st P1 w (fun _ => 0)) := by
      have e := clr22 (g := g) hM1 FU 0 (by omega) (by unfold FU; omega)
      rw [show cpM (fun _ => 0) g 0 = g from by funext k; simp [cpM], st_ext (g := cpM (fun _ => 0) g 310) (g' := fun _ => 0) (fun k hk => by simp [cpM, hk])] at e
      exact e
    rw [w4, w5, bs_s, bs_s, if_neg (by decide), if_neg (by decide), ec, bp_s]
    rcases number_b (w := w) (D := (wr D.1 0 6 (nI q1), D.2)) (g := fun _ => 0) (lo := 0) (hi := 2) wP (by decide) with ⟨q2, D2, P2, a4, a5, aP, aF, aD, aq, m, m1, m2, m3, m4, m5, -⟩ | ⟨D2, P2, g2, a4, a5, aE, aF⟩
    · have hF2 : PF P P2 := wF.tr aF
      have hM2 := hM.pf hF2
      have e12 : (st P2 w (fun _ => (0 : Int32))) 0 12 = nI m := by rw [st_0]; exact m3
      have ep1 : dnX5_put0 (st P2 w (fun _ => 0)) 1 (nI m) = some (st P2 w (upd (fun _ => 0) 1 (nI m))) := put_ (k := 1) hM2 (by decide)
      rw [a4, a5, bs_s, bs_s, if_neg (show ¬ (1 : Int32) = 0 by decide), if_neg (show ¬ (1 : Int32) = 0 by decide), show ((D2, D.2) : gD).1 0 7 = nI m from m2, bw_s, e12, ep1, bp_s]
      rcases number_b (w := w) (D := (wr D2 0 9 (nI m), D.2)) (g := upd (fun _ => 0) 1 (nI m)) (lo := 1) (hi := 8) (aP.d (by decide) _) (by decide) with ⟨q3, D3, P3, b4, b5, bP, bF, bD, bq, m', n1, n2, n3, n4, n5, -⟩ | ⟨D3, P3, g3, b4, b5, bE, bF⟩
      · have hF3 : PF P P3 := hF2.tr bF
        have hM3 := hM.pf hF3
        have ep2 : dnX5_put0 (st P3 w (upd (fun _ => 0) 1 (nI m))) 2 (nI m') = some (st P3 w (upd (upd (fun _ => 0) 1 (nI m)) 2 (nI m'))) := put_ (k := 2) hM3 (by decide)
        have e12' : (st P3 w (upd (fun _ => (0 : Int32)) 1 (nI m))) 0 12 = nI m' := by rw [st_0]; exact n3
        have e9 : D3 0 9 = nI m := (bD.2 9 (by decide) (by decide) (by decide) (by decide) (by decide)).trans (show (wr D2 0 9 (nI m)) 0 9 = nI m from wr_i ..)
        have es := sG_e D.2 (nI m) (nI m')
        have m5' : m ≤ 2 := (nI_leI (a := m) (b := 2) (by omega) (by decide)).mp m5
        have n4' : 1 ≤ m' := (nI_leI (a := 1) (b := m') (by decide) (by omega)).mp n4
        have n5' : m' ≤ 8 := (nI_leI (a := m') (b := 8) (by omega) (by decide)).mp n5
        have hV := V0s m5' n4' n5'
        have hR := R0s D.2 (nI m) (nI m')
        rw [b4, b5, bs_s, bs_s, if_neg (show ¬ (1 : Int32) = 0 by decide), if_neg (show ¬ (1 : Int32) = 0 by decide), show ((D3, (wr D2 0 9 (nI m), D.2).2) : gD).1 0 9 = nI m from e9, show ((D3, (wr D2 0 9 (nI m), D.2).2) : gD).1 0 7 = nI m' from n2, e12', ep2, bp_s, show dnX1_start ((D3, (wr D2 0 9 (nI m), D.2).2) : gD).2 (nI m) (nI m') = _ from es, bp_s]
        rcases sign_b (w := w) (D := (D3, sG D.2 (nI m) (nI m'))) (g := upd (upd (fun _ => 0) 1 (nI m)) 2 (nI m')) (c := 58) bP (by decide) with ⟨q4, D4, P4, c4, c5, cP, cF, cD, cq, -⟩ | ⟨D4, P4, g4, c4, c5, cE, cF⟩
        · refine Or.inl ⟨q4, D4, P4, _, _, ?_, ?_, cP, hF3.tr cF, hV, hR⟩
          · exact (congrArg (fun o => bs o (fun r17 D18 => rzt r17 D18)) c4).trans rfl
          · rw [c5, bs_s, if_neg (by decide)]
        · refine Or.inr ⟨D4, P4, g4, ?_, ?_, cE, hF3.tr cF⟩
          · exact (congrArg (fun o => bs o (fun r17 D18 => rzt r17 D18)) c4).trans rfl
          · rw [c5, bs_s, if_pos rfl]
      · refine Or.inr ⟨D3, P3, g3, ?_, ?_, bE, hF2.tr bF⟩
        · rw [b4, bs_s, if_pos rfl]
        · rw [b5, bs_s, if_pos rfl]
    · refine Or.inr ⟨D2, P2, g2, ?_, ?_, aE, wF.tr aF⟩
      · rw [a4, bs_s, if_pos rfl]
      · rw [a5, bs_s, if_pos rfl]
  · refine Or.inr ⟨(wr (wr D.1 0 3 (-2)) 0 4 (nI q), D.2), _, g, ?_, ?_, er_f D.1 (wr P 0 9 (nI q)) (c := -2) (o := nI q) (by decide), (((PF.rf P).w (by omega) _).w (by omega) _).w (by omega) _⟩
    · rw [w4, bs_s, if_pos rfl, failC, bs_s, h.2.1]
      rfl
    · rw [w5, bs_s, if_pos rfl, failM (by rw [wr_o (by decide)]; exact h.2.2.2.2.2.1), bs_s, st_0, wr_i]
      rfl
/-- the values of a text, from the first -/
theorem vals_b {T : Nat → Int32} {len q w : Nat} {D : gD} {P : gF} {g : Nat → Int32} {k5 : gF → Option (Int32 × gF)} (h : PS T len q D.1 P) (hM : MS P w) (hV : V0 g 0) (hR : R0 D.2 g 0 0) : OV T len w P k5 (dnX2_readValues D) (bs (dnX5_readsValues (st P w g)) (fun r38 F39 => if r38 = 0 then some (0, F39) else bs (dnX5_sign F39 59) (fun r42 F43 => if r42 = 0 then some (0, F43) else bp (dnX5_builds F43) k5))) := by
  have e4 : dnX2_readValues D = CV FU 0 D := rfl
  rw [e4]
  unfold dnX5_readsValues
  rcases ivh_em (w := w) (g := g) h with ⟨e, hc⟩ | ⟨e, hc1, hc2⟩
  · rw [e, bs_s, if_neg (by decide)]
    have hst : 1 ≤ 0 ∨ tb T len q = 45 ∨ dnX2_isDigit (tb T len q) = some 1 := by
      rcases hc with z | ⟨-, z, -⟩
      · exact Or.inr (Or.inl z)
      · exact Or.inr (Or.inr z)
    have hpf : PF P (wr P 0 9 (nI q)) := (PF.rf P).w (by omega) _
    rcases valsL (k5 := k5) FU 0 q D (wr P 0 9 (nI q)) g (by decide) (by unfold FU; omega) h.h (hM.pf hpf) hV hR hst with ⟨q2, D2, P2, G2, g2, n2, r4, r5, rP, rF, rest⟩ | ⟨D2, P2, g2, r4, r5, rE, rF⟩
    · exact Or.inl ⟨q2, D2, P2, G2, g2, n2, r4, r5, rP, hpf.tr rF, rest⟩
    · exact Or.inr ⟨D2, P2, g2, r4, r5, rE, hpf.tr rF⟩
  · refine Or.inr ⟨(wr (wr D.1 0 3 (-2)) 0 4 (nI q), D.2), _, g, ?_, ?_, er_f D.1 (wr P 0 9 (nI q)) (c := -2) (o := nI q) (by decide), (((PF.rf P).w (by omega) _).w (by omega) _).w (by omega) _⟩
    · unfold CV
      rw [show FU = FU - 1 + 1 from rfl]
      unfold lpX2_readValues_2
      rw [if_neg (show ¬ (40 : Int32) ≤ nI 0 by decide), if_pos (show nI 0 = 0 from rfl), valC0 h hc1 hc2, bs_s, if_pos rfl, bp_s, if_pos (show (0 : Nat) = 0 from rfl)]
    · rw [e, bs_s, if_pos rfl, failM (by rw [wr_o (by decide)]; exact h.2.2.2.2.2.1), bs_s, st_0, wr_i]
      show bs (some (0, _)) _ = _
      rw [bs_s, if_pos rfl]
