/-- how many of the first n wait -/
def wc (g : Nat → Int32) : Nat → Nat
  | 0 => 0
  | n + 1 => wc g n + (if g (52 + n) = 1 then 1 else 0)
theorem wc_le (g : Nat → Int32) : ∀ n : Nat, wc g n ≤ n := by
  intro n
  induction n with
  | zero => exact Nat.le_refl _
  | succ n ih => unfold wc; split <;> omega
theorem wc_0 {g : Nat → Int32} : ∀ n : Nat, (∀ p : Nat, p < n → g (52 + p) = 0) → wc g n = 0 := by
  intro n
  induction n with
  | zero => intro _; rfl
  | succ n ih =>
    intro h
    unfold wc
    rw [ih (fun p hp => h p (by omega)), if_neg (by rw [h n (by omega)]; decide)]
theorem wc_p {g : Nat → Int32} : ∀ n p : Nat, p < n → g (52 + p) = 1 → 0 < wc g n := by
  intro n
  induction n with
  | zero => intro p hp; omega
  | succ n ih =>
    intro p hp h
    unfold wc
    by_cases e : p = n
    · subst e; rw [if_pos h]; omega
    · have := ih p (by omega) h; omega
theorem waitingM {F : gF} {w n kc : Nat} (hM : MS F w) (hW : WF (row F w) n kc) : dnX5_waiting F = some (nI (wc (row F w) n)) := by
  have n40 := hW.1.2.1
  have K : ∀ (N j : Nat), j ≤ n → n < N + j → lpX5_waiting_4 F N (nI (wc (row F w) j)) (nI j) = some (0, nI (wc (row F w) n)) := by
    intro N
    induction N with
    | zero => intro j h1 h2; omega
    | succ N ih =>
      intro j h1 h2
      unfold lpX5_waiting_4
      rw [size_ hM hW.1.2.2, bp_s]
      by_cases hj : n ≤ j
      · rw [if_pos (nI_le hj (by omega)), show j = n by omega]
      · rw [if_neg (nI_ge (by omega) (by omega)), show (52 : Int32) = nI 52 from rfl, nI_add, getr hM (by omega), bp_s, nI_1]
        have e := ih (j + 1) (by omega) (by omega)
        have e2 : nI (wc (row F w) j) + row F w (52 + j) = nI (wc (row F w) (j + 1)) := by
          rcases hW.2.2.2.2.1.1 j (by omega) with q | q
          · rw [q, wc, if_neg (by rw [q]; decide)]; simp
          · rw [q, wc, if_pos q, nI_1]
        rw [e2]
        exact e
  unfold dnX5_waiting
  rw [show lpX5_waiting_4 F FU 0 0 = _ from K FU 0 (by omega) (by unfold FU; omega), bp_s]
