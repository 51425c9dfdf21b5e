/-! looks -/
def rl (r : Nat) : Nat := if r = 0 then 0 else if r = 2 ^ lgl r then 1 else 2
def cl (W : Nat → Bool) : Nat → Nat → Nat → Nat
  | 0, _, r => rl r
  | m + 1, j, r => if W j = true then (rl r + 1) + cl W m (j + 1) 0 else cl W m (j + 1) (r + 1)
theorem rl_le (r : Nat) : rl r ≤ 2 := by
  unfold rl; split
  · omega
  · split <;> omega
theorem rl_C {r : Nat} (h : r < 41) : dnX4_looksForRun (nI r) = some (nI (rl r)) := by
  unfold dnX4_looksForRun rl
  by_cases h0 : r = 0
  · subst h0; rw [if_pos (show nI 0 = 0 from rfl), if_pos rfl]; rfl
  · have hb := lgl_b r h (by omega)
    rw [if_neg (show ¬ nI r = 0 from nI_ne0 (by omega) (by omega)), if_neg h0, lvC r h (by omega), bp_s, sh1 hb.1]
    by_cases h1 : r = 2 ^ lgl r
    · rw [if_pos h1, if_pos (congrArg nI h1)]; rfl
    · rw [if_neg h1, if_neg (fun q => h1 ((nI_eq (by omega) (by omega)).mp q))]; rfl
theorem cl_C {x : Int64} {b : Nat} (hb : b < 40) : ∀ (N j t r : Nat), j ≤ b + 1 → b + 1 < N + j → r ≤ j → t ≤ 3 * j → ∃ t' r' : Nat, r' ≤ 40 ∧ t' ≤ 200 ∧ lpX4_looksFor_9 (nI b) x N (nI t) (nI r) (nI j) = some (0, nI t', nI r') ∧ t' + rl r' = t + cl (wb x) (b + 1 - j) j r := by
  intro N
  induction N with
  | zero => intro j t r h1 h2; omega
  | succ N ih =>
    intro j t r h1 h2 h3 h4
    unfold lpX4_looksFor_9
    by_cases hj : b < j
    · rw [if_pos (nI_lt hj (by omega)), show b + 1 - j = 0 by omega]
      exact ⟨t, r, by omega, by omega, rfl, rfl⟩
    · rw [if_neg (nI_nlt (by omega) (by omega)), isAmong_ x (by omega), bp_s, show b + 1 - j = (b - j) + 1 by omega]
      by_cases hw : wb x j = true
      · have hr := rl_le r
        rw [if_pos hw, if_neg (by decide), rl_C (by omega), bp_s, nI_1, nI_1, nI_add]
        obtain ⟨t', r', q1, q2, q3, q4⟩ := ih (j + 1) (t + (rl r + 1)) 0 (by omega) (by omega) (by omega) (by omega)
        refine ⟨t', r', q1, q2, q3, ?_⟩
        rw [q4, cl, if_pos hw, show b + 1 - (j + 1) = b - j by omega]
        omega
      · rw [if_neg hw, if_pos rfl, nI_1, nI_1]
        obtain ⟨t', r', q1, q2, q3, q4⟩ := ih (j + 1) t (r + 1) (by omega) (by omega) (by omega) (by omega)
        refine ⟨t', r', q1, q2, q3, ?_⟩
        rw [q4, cl, if_neg hw, show b + 1 - (j + 1) = b - j by omega]
theorem looksC {x : Int64} {a b : Nat} (hab : a ≤ b) (hb : b < 40) : dnX4_looksFor (nI a) (nI b) x = some (nI (cl (wb x) (b + 1 - a) a 0)) := by
  obtain ⟨t', r', q1, q2, q3, q4⟩ := cl_C (x := x) hb FU a 0 0 (by omega) (by unfold FU; omega) (by omega) (by omega)
  unfold dnX4_looksFor
  rw [show lpX4_looksFor_9 (nI b) x FU 0 0 (nI a) = _ from q3, bp_s, rl_C (by omega), bp_s, nI_add, q4, Nat.zero_add]
theorem cl_0 {W : Nat → Bool} : ∀ (m j r : Nat), (∀ k : Nat, j ≤ k → k < j + m → ¬ W k = true) → cl W m j r = rl (r + m) := by
  intro m
  induction m with
  | zero => intro j r _; rfl
  | succ m ih =>
    intro j r h
    rw [cl, if_neg (h j (by omega) (by omega)), ih (j + 1) (r + 1) (fun k h1 h2 => h k (by omega) (by omega)), show r + 1 + m = r + (m + 1) by omega]
theorem cl_run {W : Nat → Bool} : ∀ (d m j r : Nat), (∀ k : Nat, j ≤ k → k < j + d → ¬ W k = true) → cl W (d + m) j r = cl W m (j + d) (r + d) := by
  intro d
  induction d with
  | zero => intro m j r _; rw [Nat.zero_add]; rfl
  | succ d ih =>
    intro m j r h
    rw [show d + 1 + m = (d + m) + 1 by omega, cl, if_neg (h j (by omega) (by omega)), ih m (j + 1) (r + 1) (fun k h1 h2 => h k (by omega) (by omega)), show j + 1 + d = j + (d + 1) by omega, show r + 1 + d = r + (d + 1) by omega]
theorem cl_w {W : Nat → Bool} {m j r : Nat} (h : m = 0 ∨ W j = true) : cl W m j r = rl r + cl W m j 0 := by
  cases m with
  | zero => simp [cl, rl]
  | succ m =>
    have hw : W j = true := h.resolve_left (by omega)
    rw [cl, if_pos hw, cl, if_pos hw, show rl 0 = 0 from rfl]
    omega
theorem waitM0 {F : gF} {w p : Nat} (h : MS F w) (hB : ∀ p : Nat, p < 40 → row F w (52 + p) = 0 ∨ row F w (52 + p) = 1) (hp : p < 40) : dnX5_isWaiting F (nI p) = some (row F w (52 + p)) := by
  unfold dnX5_isWaiting
  rw [show (52 : Int32) = nI 52 from rfl, nI_add, getr h (by omega), bp_s]
  rcases hB p hp with e | e
  · rw [e]; rfl
  · rw [e]; rfl
theorem waitM2 {F : gF} {w p : Nat} {x : Int64} (h : MS F w) (hB : ∀ p : Nat, p < 40 → row F w (52 + p) = 0 ∨ row F w (52 + p) = 1) (hx : ∀ p : Nat, p < 40 → (wb x p = true ↔ row F w (52 + p) = 1)) (hp : p < 40) : dnX5_isWaiting F (nI p) = some (if wb x p = true then 1 else 0) := by
  rw [waitM0 h hB hp]
  rcases hB p hp with e | e
  · rw [if_neg (fun q => by have := (hx p hp).mp q; rw [e] at this; cases this), e]
  · rw [if_pos ((hx p hp).mpr e), e]
theorem runEndM {F : gF} {w b : Nat} {x : Int64} (h : MS F w) (hB : ∀ p : Nat, p < 40 → row F w (52 + p) = 0 ∨ row F w (52 + p) = 1) (hx : ∀ p : Nat, p < 40 → (wb x p = true ↔ row F w (52 + p) = 1)) (hb : b < 40) : ∀ (N j : Nat), j ≤ b → b < N + j → ∃ e : Nat, j ≤ e ∧ e ≤ b ∧ lpX5_runEnd_2 F (nI b) N (nI j) = some (0, nI e) ∧ (∀ k : Nat, j < k → k ≤ e → ¬ wb x k = true) ∧ (e = b ∨ wb x (e + 1) = true) := by
  intro N
  induction N with
  | zero => intro j h1 h2; omega
  | succ N ih =>
    intro j h1 h2
    unfold lpX5_runEnd_2
    by_cases hj : b ≤ j
    · rw [if_pos (nI_le hj (by omega))]
      exact ⟨j, Nat.le_refl _, h1, rfl, fun k q1 q2 => by omega, Or.inl (by omega)⟩
    · rw [if_neg (nI_ge (by omega) (by omega)), nI_1, waitM2 h hB hx (by omega), bp_s]
      by_cases hw : wb x (j + 1) = true
      · rw [if_pos hw, if_neg (by decide)]
        exact ⟨j, Nat.le_refl _, h1, rfl, fun k q1 q2 => by omega, Or.inr hw⟩
      · rw [if_neg hw, if_pos rfl]
        obtain ⟨e, e1, e2, e3, e4, e5⟩ := ih (j + 1) (by omega) (by omega)
        refine ⟨e, by omega, e2, e3, fun k q1 q2 => ?_, e5⟩
        by_cases hk : k = j + 1
        · rw [hk]; exact hw
        · exact e4 k (by omega) q2
