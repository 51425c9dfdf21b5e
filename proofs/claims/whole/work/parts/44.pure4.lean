/-! more calls that read -/
theorem s_plc {V : gX} {F : gF} {fo : Nat → Int64} {x1 : Int32} {k4 : Unit → Option (oX Int32)} {k5 : gF → Option (Int32 × gF)} (h : JJ V F)
    (hk : ∀ w n kc a : Nat, MS (wr F 0 0 0) w → WF (row (wr F 0 0 0) w) n kc → RR V.2.1 (row (wr F 0 0 0) w) n kc → a < n → x1 = nI a → ∃ r : Int32, k4 () = some (.inr r) ∧ k5 (wr F 0 0 0) = some (r, wr F 0 0 0)) :
    ∃ V' F' fo', WI ["java/lang/IndexOutOfBoundsException"] V fo (bx (dnX4_demandPlace V x1) k4) (bw (wr F 0 0 0) (fun F1 => bp (dnX5_isPlace F1 x1) (fun r3 => bs (dnX5_right F1 r3 1) (fun r5 F6 => if r5 = 0 then some (0, F6) else k5 F6)))) V' F' fo' ∧ JJ V' F' := by
  obtain ⟨w, n, kc, hM, hW, hR⟩ := h.r
  obtain ⟨⟨n1, n40, hn⟩, -⟩ := id hW
  have hc : V.2.1.1 0 3 = nI n := hR.1.1.trans hn
  rcases pl_em n40 x1 with ⟨p, hp, rfl⟩ | hx
  · obtain ⟨r, e4, e5⟩ := hk w n kc p hM hW hR hp rfl
    refine wi_ok2 (r := r) h ?_ ?_
    · rw [demC hc n40 hp, bx_r, e4]
    · rw [bw_s, placeM hM hn n40 hp, bp_s, right1, bs_s, if_neg (by decide), e5]
  · refine wi_th (b := 0) (t := 1) (E := "java/lang/IndexOutOfBoundsException") h (by decide) (by decide) (by decide) ?_ ?_
    · rw [demC0 hc hx, bx_l]
    · rw [bw_s, placeM0 hM hn n1 n40 hx, bp_s, right0 F (by decide), bs_s, if_pos rfl]
theorem valueB {V : gX} {F : gF} {w n kc p : Nat} (hM : MS F w) (hW : WF (row F w) n kc) (hR : RR V.2.1 (row F w) n kc) (hp : p < n) : dnX1_valueAt V.2.1 (nI p) = dnX5_valueAt F (nI p) := by
  have := hW.1.2.1
  rw [valueC (by omega), valueM hM (by omega), hR.2.1 p hp]
theorem sum_b {V : gX} {F : gF} {w n kc b : Nat} (hM : MS F w) (hW : WF (row F w) n kc) (hR : RR V.2.1 (row F w) n kc) (hb : b < n) : ∀ (N j : Nat) (x3 : Int32), j ≤ b + 1 → b + 1 < N + j → ∃ r : Int32, lpX4_sum_11 V (nI b) N x3 (nI j) = some (0, r) ∧ lpX5_sum_21 F (nI b) N x3 (nI j) = some (0, r) := by
  have n40 := hW.1.2.1
  intro N
  induction N with
  | zero => intro j x3 h1 h2; omega
  | succ N ih =>
    intro j x3 h1 h2
    unfold lpX4_sum_11 lpX5_sum_21
    by_cases hj : b < j
    · rw [if_pos (nI_lt hj (by omega)), if_pos (nI_lt hj (by omega))]; exact ⟨x3, rfl, rfl⟩
    · rw [if_neg (nI_nlt (by omega) (by omega)), if_neg (nI_nlt (by omega) (by omega)), valueB hM hW hR (by omega), valueM hM (by omega), bp_s, bp_s, nI_1]
      exact ih (j + 1) _ (by omega) (by omega)
theorem s_sum (x1 x2 x3 x4 x5 : Int32) (V : gX) (F : gF) (fo : Nat → Int64) (h : JJ V F) : ∃ V' F' fo', LR 13 x1 x2 x3 x4 x5 V F fo V' F' fo' ∧ JJ V' F' := by
  refine s_str (x1 := x1) (x2 := x2) h (fun w n kc a b hM hW hR hab hb e1 e2 => ?_)
  subst e1; subst e2
  have n40 := hW.1.2.1
  obtain ⟨r, e4, e5⟩ := sum_b hM hW hR hb FU a 0 (by omega) (by unfold FU; omega)
  exact ⟨r, by rw [e4, bp_s], by rw [e5, bp_s]⟩
theorem less_b {V : gX} {F : gF} {w n kc p : Nat} (hM : MS F w) (hW : WF (row F w) n kc) (hR : RR V.2.1 (row F w) n kc) (hp : p < n) : ∀ (N j : Nat), j ≤ n → n < N + j → ∃ z : Nat × Int32, (z.1 = 0 ∨ z.1 = 1) ∧ lpX4_lessBehind_9 V (nI p) N (nI j) = some z ∧ lpX5_lessBehind_24 F (nI p) N (nI j) = some z := by
  have n40 := hW.1.2.1
  have hc : V.2.1.1 0 3 = nI n := hR.1.1.trans hW.1.2.2
  intro N
  induction N with
  | zero => intro j h1 h2; omega
  | succ N ih =>
    intro j h1 h2
    unfold lpX4_lessBehind_9 lpX5_lessBehind_24
    rw [size_ hM hW.1.2.2, bp_s, hc]
    by_cases hj : n ≤ j
    · rw [if_pos (nI_le hj (by omega)), if_pos (nI_le hj (by omega))]; exact ⟨_, Or.inr rfl, rfl, rfl⟩
    · rw [if_neg (nI_ge (by omega) (by omega)), if_neg (nI_ge (by omega) (by omega)), valueB hM hW hR (show j < n by omega), valueB hM hW hR hp, valueM hM (show j < 40 by omega), valueM hM (show p < 40 by omega), bp_s, bp_s, bp_s, bp_s]
      split
      · rw [nI_1]; exact ih (j + 1) (by omega) (by omega)
      · exact ⟨_, Or.inl rfl, rfl, rfl⟩
theorem s_lessBehind (x1 x2 x3 x4 x5 : Int32) (V : gX) (F : gF) (fo : Nat → Int64) (h : JJ V F) : ∃ V' F' fo', LR 11 x1 x2 x3 x4 x5 V F fo V' F' fo' ∧ JJ V' F' := by
  refine s_plc (x1 := x1) h (fun w n kc a hM hW hR ha e1 => ?_)
  subst e1
  have n40 := hW.1.2.1
  obtain ⟨z, hz, e4, e5⟩ := less_b hM hW hR ha FU (a + 1) (by omega) (by unfold FU; omega)
  rw [nI_1, e4, e5, bp_s, bp_s]
  by_cases hz0 : z.1 = 0
  · rw [if_pos hz0, if_pos hz0]; exact ⟨_, rfl, rfl⟩
  · rw [if_neg hz0, if_neg hz0]; exact ⟨_, rfl, rfl⟩
theorem sub_neg (p : Nat) (hp : p < 1000) : nI p - nI (p + 1) < 0 := by
  rw [Int32.lt_iff_toInt_lt, Int32.toInt_sub, nI_toInt (by omega), nI_toInt (by omega), show (0 : Int32).toInt = 0 from by decide, Int.bmod_def]
  split <;> omega
theorem rules1_b {V : gX} {F : gF} {w n kc p : Nat} (hM : MS F w) (hW : WF (row F w) n kc) (hR : RR V.2.1 (row F w) n kc) (hp : p < n) (x3 : Int32) : ∀ (N j : Nat), 1 ≤ j → j ≤ p + 1 → p + 1 < N + j → ∃ r : Int32, lpX4_rules_16 V (nI p) (row F w (12 + p)) N (nI j) = some (0, r) ∧ lpX5_rules_24 F (nI p) x3 N (nI j) = some (0, r) := by
  have n40 := hW.1.2.1
  intro N
  induction N with
  | zero => intro j h0 h1 h2; omega
  | succ N ih =>
    intro j h0 h1 h2
    unfold lpX4_rules_16 lpX5_rules_24
    by_cases hj : p < j
    · rw [if_pos (nI_lt hj (by omega)), if_pos (by rw [show j = p + 1 by omega]; exact sub_neg p (by omega))]; exact ⟨_, rfl, rfl⟩
    · rw [if_neg (nI_nlt (by omega) (by omega)), nI_sub (show j ≤ p by omega), if_neg (nI_pos (by omega)), valueB hM hW hR (show p - j < n by omega), valueM hM (show p - j < 40 by omega), valueM hM (show p < 40 by omega), bp_s, bp_s, bp_s]
      split
      · exact ⟨_, rfl, rfl⟩
      · rw [nI_1]; exact ih (j + 1) (by omega) (by omega) (by omega)
theorem rules2_b {V : gX} {F : gF} {w n kc p : Nat} (hM : MS F w) (hW : WF (row F w) n kc) (hR : RR V.2.1 (row F w) n kc) (hp : p < n) (x3 x2 : Int32) : ∀ (N j : Nat), p + j ≤ n → n < N + (p + j) → ∃ r : Int32, lpX4_rules_44 V (nI p) (row F w (12 + p)) x3 N (nI j) = some (0, r) ∧ lpX5_rules_51 F (nI p) x2 N (nI j) = some (0, r) := by
  have n40 := hW.1.2.1
  have hc : V.2.1.1 0 3 = nI n := hR.1.1.trans hW.1.2.2
  intro N
  induction N with
  | zero => intro j h1 h2; omega
  | succ N ih =>
    intro j h1 h2
    unfold lpX4_rules_44 lpX5_rules_51
    rw [size_ hM hW.1.2.2, bp_s, hc, nI_add]
    by_cases hj : n ≤ p + j
    · rw [if_pos (nI_le hj (by omega)), if_pos (nI_le hj (by omega))]; exact ⟨_, rfl, rfl⟩
    · rw [if_neg (nI_ge (by omega) (by omega)), if_neg (nI_ge (by omega) (by omega)), valueB hM hW hR (show p + j < n by omega), valueM hM (show p + j < 40 by omega), valueM hM (show p < 40 by omega), bp_s, bp_s, bp_s]
      split
      · exact ⟨_, rfl, rfl⟩
      · rw [nI_1]; exact ih (j + 1) (by omega) (by omega)
theorem s_rules (x1 x2 x3 x4 x5 : Int32) (V : gX) (F : gF) (fo : Nat → Int64) (h : JJ V F) : ∃ V' F' fo', LR 12 x1 x2 x3 x4 x5 V F fo V' F' fo' ∧ JJ V' F' := by
  refine s_plc (x1 := x1) h (fun w n kc a hM hW hR ha e1 => ?_)
  subst e1
  have n40 := hW.1.2.1
  obtain ⟨r, e4, e5⟩ := rules1_b hM hW hR ha 1 FU 1 (by omega) (by omega) (by unfold FU; omega)
  obtain ⟨r2, f4, f5⟩ := rules2_b hM hW hR ha r r FU 1 (by omega) (by unfold FU; omega)
  rw [valueB hM hW hR ha, valueM hM (show a < 40 by omega), bp_s, show (1 : Int32) = nI 1 from rfl] at *
  rw [e4, bp_s, f4, bp_s, e5, bp_s, f5, bp_s]
  exact ⟨_, rfl, rfl⟩
