/-! looks, both sides -/
theorem rl_M {F : gF} {r : Nat} (h : r < 41) (h1 : 1 ≤ r) : dnX5_looksOfRun F (nI r) = some (nI (rl r)) := by
  have hb := lgl_b r h h1
  unfold dnX5_looksOfRun rl
  rw [lvM F r h h1, bp_s, sh1 hb.1, if_neg (show ¬ r = 0 by omega)]
  by_cases e : r = 2 ^ lgl r
  · rw [if_pos e, if_pos (congrArg nI e).symm]; rfl
  · rw [if_neg e, if_neg (fun q => e ((nI_eq (by omega) (by omega)).mp q).symm)]; rfl
theorem cl_le (W : Nat → Bool) : ∀ m j r : Nat, cl W m j r ≤ 3 * m + 2 := by
  intro m
  induction m with
  | zero => intro j r; have := rl_le r; unfold cl; omega
  | succ m ih =>
    intro j r
    have h1 := rl_le r
    have h2 := ih (j + 1) 0
    have h3 := ih (j + 1) (r + 1)
    unfold cl
    split <;> omega
theorem cl_M {F : gF} {w b : Nat} {x : Int64} (h : MS F w) (hB : ∀ p : Nat, p < 40 → row F w (52 + p) = 0 ∨ row F w (52 + p) = 1) (hx : ∀ p : Nat, p < 40 → (wb x p = true ↔ row F w (52 + p) = 1)) (hb : b < 40) : ∀ (N j t : Nat), j ≤ b + 1 → b + 1 < N + j → lpX5_looksIn_5 F (nI b) N (nI t) (nI j) = some (0, nI (t + cl (wb x) (b + 1 - j) j 0)) := by
  intro N
  induction N with
  | zero => intro j t h1 h2; omega
  | succ N ih =>
    intro j t h1 h2
    unfold lpX5_looksIn_5
    by_cases hj : b < j
    · rw [if_pos (nI_lt hj (by omega)), show b + 1 - j = 0 by omega]; rfl
    · rw [if_neg (nI_nlt (by omega) (by omega)), waitM2 h hB hx (by omega), bp_s]
      by_cases hw : wb x j = true
      · rw [if_pos hw, if_neg (by decide), nI_sub (Nat.le_refl j), Nat.sub_self, nI_1, lvM F (0 + 1) (by omega) (by omega), bp_s, sh1 (by decide), if_pos (by decide), nI_1, nI_1, ih (j + 1) (t + 1) (by omega) (by omega)]
        rw [show b + 1 - j = (b - j) + 1 by omega, cl, if_pos hw, show b + 1 - (j + 1) = b - j by omega, show rl 0 = 0 from rfl]
        congr 3
        omega
      · obtain ⟨e, e1, e2, e3, e4, e5⟩ := runEndM h hB hx hb FU j (by omega) (by unfold FU; omega)
        have hr : e - j + 1 < 41 := by omega
        have hlb := lgl_b (e - j + 1) hr (by omega)
        rw [if_neg hw, if_pos rfl]
        unfold dnX5_runEnd
        rw [e3, bp_s, bp_s, nI_sub e1, nI_1, lvM F (e - j + 1) hr (by omega), bp_s, sh1 hlb.1]
        have hnw : ∀ k : Nat, j ≤ k → k < j + (e - j + 1) → ¬ wb x k = true := by
          intro k q1 q2
          by_cases hk : k = j
          · rw [hk]; exact hw
          · exact e4 k (by omega) (by omega)
        have hcl : cl (wb x) (b + 1 - j) j 0 = rl (e - j + 1) + cl (wb x) (b + 1 - (e + 1)) (e + 1) 0 := by
          rw [show b + 1 - j = (e - j + 1) + (b + 1 - (e + 1)) by omega, cl_run _ _ _ _ hnw, show j + (e - j + 1) = e + 1 by omega, Nat.zero_add]
          exact cl_w (e5.imp (fun q => by omega) id)
        rw [hcl]
        unfold rl
        rw [if_neg (show ¬ e - j + 1 = 0 by omega)]
        by_cases hq : e - j + 1 = 2 ^ lgl (e - j + 1)
        · rw [if_pos hq, if_pos (congrArg nI hq).symm, nI_1, nI_1, ih (e + 1) (t + 1) (by omega) (by omega)]
          congr 3
          omega
        · rw [if_neg hq, if_neg (fun q => hq ((nI_eq (by omega) (by omega)).mp q).symm), show (2 : Int32) = nI 2 from rfl, nI_add, nI_1, ih (e + 1) (t + 2) (by omega) (by omega)]
          congr 3
          omega
theorem looksM {F : gF} {w a b : Nat} {x : Int64} (h : MS F w) (hB : ∀ p : Nat, p < 40 → row F w (52 + p) = 0 ∨ row F w (52 + p) = 1) (hx : ∀ p : Nat, p < 40 → (wb x p = true ↔ row F w (52 + p) = 1)) (hab : a ≤ b) (hb : b < 40) : dnX5_looksIn F (nI a) (nI b) = some (nI (cl (wb x) (b + 1 - a) a 0)) := by
  unfold dnX5_looksIn
  rw [show lpX5_looksIn_5 F (nI b) FU 0 (nI a) = _ from cl_M h hB hx hb FU a 0 (by omega) (by unfold FU; omega), bp_s, Nat.zero_add]