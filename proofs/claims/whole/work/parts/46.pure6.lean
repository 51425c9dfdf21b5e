/-! ranked; how many wait -/
theorem rank_b {V : gX} {F : gF} {w n kc c : Nat} (hM : MS F w) (hW : WF (row F w) n kc) (hR : RR V.2.1 (row F w) n kc) (hc : c < n) (x1 : Int32) : ∀ (N j : Nat) (x : Int32), j ≤ n → n < N + j → ∃ r : Int32, lpX4_placesAheadOf_4 V (nI c) N x (nI j) = some (0, r) ∧ lpX5_ranked_41 F x1 (nI c) N x (nI j) = some (0, r) := by
  have n40 := hW.1.2.1
  have hn3 : V.2.1.1 0 3 = nI n := hR.1.1.trans hW.1.2.2
  intro N
  induction N with
  | zero => intro j x h1 h2; omega
  | succ N ih =>
    intro j x h1 h2
    unfold lpX4_placesAheadOf_4 lpX5_ranked_41
    rw [size_ hM hW.1.2.2, bp_s, hn3]
    by_cases hj : n ≤ j
    · rw [if_pos (nI_le hj (by omega)), if_pos (nI_le hj (by omega))]; exact ⟨_, rfl, rfl⟩
    · rw [if_neg (nI_ge (by omega) (by omega)), if_neg (nI_ge (by omega) (by omega)), valueM hM (show j < 40 by omega), valueM hM (show c < 40 by omega), bp_s, bp_s, bp_s, bp_s, nI_1]
      obtain ⟨r0, a0, b0⟩ := ih (j + 1) x (by omega) (by omega)
      obtain ⟨r1, a1, b1⟩ := ih (j + 1) (x + 1) (by omega) (by omega)
      have e0 : x + 0 = x := by simp
      rw [e0]
      by_cases hjc : j = c
      · subst hjc
        rw [if_pos rfl, if_neg Int32.lt_irrefl, if_pos rfl, if_pos (Int32.le_refl _)]
        exact ⟨r0, a0, b0⟩
      · rw [if_neg (fun q => hjc ((nI_eq (by omega) (by omega)).mp q)), lesC hR n40 (show j < n by omega) hc, bp_s]
        unfold les
        by_cases h1 : row F w (12 + j) = row F w (12 + c)
        · have hlt : ¬ row F w (12 + j) < row F w (12 + c) := by rw [h1]; exact Int32.lt_irrefl
          by_cases h2 : c < j
          · simp only [if_pos h1, if_neg hlt, if_pos h2]
            rw [if_neg (fun q => hjc ((nI_eq (by omega) (by omega)).mp q).symm), if_pos (nI_le (by omega) (by omega))]
            exact ⟨r0, a0, b0⟩
          · simp only [if_pos h1, if_neg hlt, if_neg h2]
            rw [if_pos trivial, if_neg (nI_ge (by omega) (by omega))]
            exact ⟨r1, a1, b1⟩
        · by_cases h2 : row F w (12 + c) ≤ row F w (12 + j)
          · simp only [if_neg h1, if_pos h2, if_neg (Int32.not_lt.mpr h2)]
            rw [if_neg (fun q => hjc ((nI_eq (by omega) (by omega)).mp q).symm)]
            exact ⟨r0, a0, b0⟩
          · simp only [if_neg h1, if_neg h2, if_pos (Int32.not_le.mp h2)]
            rw [if_pos trivial]
            exact ⟨r1, a1, b1⟩
theorem ranked_b {V : gX} {F : gF} {w n kc : Nat} (hM : MS F w) (hW : WF (row F w) n kc) (hR : RR V.2.1 (row F w) n kc) (x1 : Int32) : ∀ (N j : Nat), j ≤ n → n < N + j → ∃ z : Nat × Int32, lpX4_ranked_23 V x1 N (nI j) = some z ∧ lpX5_ranked_28 F x1 N (nI j) = some z := by
  have n40 := hW.1.2.1
  have hn3 : V.2.1.1 0 3 = nI n := hR.1.1.trans hW.1.2.2
  intro N
  induction N with
  | zero => intro j h1 h2; omega
  | succ N ih =>
    intro j h1 h2
    unfold lpX4_ranked_23 lpX5_ranked_28
    rw [size_ hM hW.1.2.2, bp_s, hn3]
    by_cases hj : n ≤ j
    · rw [if_pos (nI_le hj (by omega)), if_pos (nI_le hj (by omega))]; exact ⟨_, rfl, rfl⟩
    · rw [if_neg (nI_ge (by omega) (by omega)), if_neg (nI_ge (by omega) (by omega))]
      obtain ⟨r, e4, e5⟩ := rank_b hM hW hR (show j < n by omega) x1 FU 0 0 (by omega) (by unfold FU; omega)
      unfold dnX4_placesAheadOf
      rw [show lpX4_placesAheadOf_4 V (nI j) FU 0 0 = some (0, r) from e4, show lpX5_ranked_41 F x1 (nI j) FU 0 0 = some (0, r) from e5, bp_s, bp_s, bp_s]
      by_cases hr : r = x1
      · rw [if_pos hr, if_pos hr]; exact ⟨_, rfl, rfl⟩
      · rw [if_neg hr, if_neg hr, nI_1]; exact ih (j + 1) (by omega) (by omega)
theorem s_ranked (x1 x2 x3 x4 x5 : Int32) (V : gX) (F : gF) (fo : Nat → Int64) (h : JJ V F) : ∃ V' F' fo', LR 17 x1 x2 x3 x4 x5 V F fo V' F' fo' ∧ JJ V' F' := by
  obtain ⟨w, n, kc, hM, hW, hR⟩ := h.r
  obtain ⟨⟨n1, n40, hn⟩, -⟩ := id hW
  have hc : V.2.1.1 0 3 = nI n := hR.1.1.trans hn
  show ∃ V' F' fo', WI _ V fo (dnX4_ranked V x1) (dnX5_ranked F x1) V' F' fo' ∧ JJ V' F'
  rcases pl_em n40 x1 with ⟨p, hp, rfl⟩ | hx
  · obtain ⟨z, e4, e5⟩ := ranked_b hM hW hR (nI p) FU 0 (by omega) (by unfold FU; omega)
    have hin : dnX5_isIn (nI p) 0 (nI n - 1) = some 1 := by
      unfold dnX5_isIn
      rw [if_neg (nI_pos (by omega)), show nI n - 1 = nI (n - 1) from nI_sub (b := 1) (by omega), if_neg (fun q => absurd ((nI_ltI (by omega) (by omega)).mp q) (by omega))]
    refine wi_ok2 (r := if z.1 = 0 then z.2 else -1) h ?_ ?_
    · unfold dnX4_ranked
      rw [placeC hc n40 hp, bp_s, if_neg (by decide), show lpX4_ranked_23 V (nI p) FU 0 = some z from e4, bp_s]
      split <;> rfl
    · unfold dnX5_ranked
      rw [bw_s, size_ hM hn, bp_s, hin, bp_s, right1, bs_s, if_neg (by decide), show lpX5_ranked_28 (wr F 0 0 0) (nI p) FU 0 = some z from e5, bp_s]
      split <;> rfl
  · have hin : dnX5_isIn x1 0 (nI n - 1) = some 0 := by
      unfold dnX5_isIn
      by_cases c : x1 < 0
      · rw [if_pos c]
      · rw [if_neg c, show nI n - 1 = nI (n - 1) from nI_sub (b := 1) n1, if_pos (Int32.lt_of_lt_of_le (nI_lt (by omega) (by omega)) (hx.resolve_left c))]
    refine wi_th (b := 0) (t := 1) (E := "java/util/NoSuchElementException") h (by decide) (by decide) (by decide) ?_ ?_
    · unfold dnX4_ranked
      rw [placeC0 hc hx, bp_s, if_pos rfl]
    · unfold dnX5_ranked
      rw [bw_s, size_ hM hn, bp_s, hin, bp_s, right0 F (by decide), bs_s, if_pos rfl]
/-- how many of the first n wait -/
def wc (g : Nat → Int32) : Nat → Nat
  | 0 => 0
  | n + 1 => wc g n + (if g (52 + n) = 1 then 1 else 0)
theorem wc_le (g : Nat → Int32) : ∀ n : Nat, wc g n ≤ n := by
  intro n
  induction n with
  | zero => exact Nat.le_refl _
  | succ n ih => unfold wc; split <;> omega
theorem wc_0 {g : Nat → Int32} : ∀ n : Nat, (∀ p : Nat, p < n → g (52 + p) = 0) → wc g n = 0 := by
  intro n
  induction n with
  | zero => intro _; rfl
  | succ n ih =>
    intro h
    unfold wc
    rw [ih (fun p hp => h p (by omega)), if_neg (by rw [h n (by omega)]; decide)]
theorem wc_p {g : Nat → Int32} : ∀ n p : Nat, p < n → g (52 + p) = 1 → 0 < wc g n := by
  intro n
  induction n with
  | zero => intro p hp; omega
  | succ n ih =>
    intro p hp h
    unfold wc
    by_cases e : p = n
    · subst e; rw [if_pos h]; omega
    · have := ih p (by omega) h; omega
theorem waitingM {F : gF} {w n kc : Nat} (hM : MS F w) (hW : WF (row F w) n kc) : dnX5_waiting F = some (nI (wc (row F w) n)) := by
  have n40 := hW.1.2.1
  have K : ∀ (N j : Nat), j ≤ n → n < N + j → lpX5_waiting_4 F N (nI (wc (row F w) j)) (nI j) = some (0, nI (wc (row F w) n)) := by
    intro N
    induction N with
    | zero => intro j h1 h2; omega
    | succ N ih =>
      intro j h1 h2
      unfold lpX5_waiting_4
      rw [size_ hM hW.1.2.2, bp_s]
      by_cases hj : n ≤ j
      · rw [if_pos (nI_le hj (by omega)), show j = n by omega]
      · rw [if_neg (nI_ge (by omega) (by omega)), show (52 : Int32) = nI 52 from rfl, nI_add, getr hM (by omega), bp_s, nI_1]
        have e := ih (j + 1) (by omega) (by omega)
        have e2 : nI (wc (row F w) j) + row F w (52 + j) = nI (wc (row F w) (j + 1)) := by
          rcases hW.2.2.2.2.1.1 j (by omega) with q | q
          · rw [q, wc, if_neg (by rw [q]; decide)]; simp
          · rw [q, wc, if_pos q, nI_1]
        rw [e2]
        exact e
  unfold dnX5_waiting
  rw [show lpX5_waiting_4 F FU 0 0 = _ from K FU 0 (by omega) (by unfold FU; omega), bp_s]
