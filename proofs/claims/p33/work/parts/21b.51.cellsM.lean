/-! the reference writes cells -/
theorem st_st (F : gF) (w : Nat) (g g' : Nat → Int32) : st (st F w g) w g' = st F w g' := by
  funext a j
  unfold st
  split <;> rfl
theorem MS.s {F : gF} {w : Nat} (h : MS F w) (g : Nat → Int32) : MS (st F w g) w := ⟨by rw [st_0]; exact h.1, h.2⟩
theorem row_st {F : gF} {w : Nat} {g : Nat → Int32} {k : Nat} (h : k < 310) : row (st F w g) w k = g k := st_1 h
theorem lm_st {F : gF} {w a d : Nat} {g : Nat → Int32} (h : a + d < 40) : lm (row (st F w g) w) a d = lm g a d := lm_cg d (fun j _ h2 => row_st (by omega))
/-- g' is g with some more cells written, those in P tell the least by g -/
def CI (g g' : Nat → Int32) (n c : Nat) (P : Nat → Nat → Prop) : Prop :=
  (∀ k : Nat, k ≠ 8 → (k < 92 ∨ 292 ≤ k) → g' k = g k) ∧ g' 8 = g 8 + nI c ∧
  (∀ l p : Nat, 1 ≤ l → l ≤ 5 → p + 2 ^ l ≤ n → P l p → g' (92 + 40 * (l - 1) + p) = nI (lm g p (2 ^ l - 1)))
theorem CI.mono {g g' : Nat → Int32} {n c : Nat} {P P' : Nat → Nat → Prop} (h : CI g g' n c P) (hp : ∀ l p : Nat, 1 ≤ l → l ≤ 5 → p + 2 ^ l ≤ n → P' l p → P l p) : CI g g' n c P' :=
  ⟨h.1, h.2.1, fun l p h1 h2 h3 h4 => h.2.2 l p h1 h2 h3 (hp l p h1 h2 h3 h4)⟩
theorem CI.lme {g g' : Nat → Int32} {n c : Nat} {P : Nat → Nat → Prop} (h : CI g g' n c P) {a d : Nat} (hd : a + d < 40) : lm g' a d = lm g a d := lm_cg d (fun j _ h2 => h.1 (12 + j) (by omega) (by omega))
theorem CI.w {g g' : Nat → Int32} {n c l p : Nat} {P : Nat → Nat → Prop} (h : CI g g' n c P) (hn : n ≤ 40) (h1 : 1 ≤ l) (h5 : l ≤ 5) (hp : p + 2 ^ l ≤ n) : CI g (upd (upd g' (92 + 40 * (l - 1) + p) (nI (lm g' p (2 ^ l - 1)))) 8 (g' 8 + 1)) n (c + 1) (fun l' p' => (l' = l ∧ p' = p) ∨ P l' p') := by
  have hw := pw (show l < 6 by omega)
  refine ⟨fun k hk1 hk2 => ?_, ?_, fun l' p' q1 q2 q3 q4 => ?_⟩
  · simp only [upd]
    rw [if_neg hk1, if_neg (by omega)]
    exact h.1 k hk1 hk2
  · simp only [upd, if_true]
    rw [h.2.1, Int32.add_assoc, nI_1]
  · have hw' := pw (show l' < 6 by omega)
    simp only [upd]
    rw [if_neg (by omega)]
    by_cases e : l' = l ∧ p' = p
    · obtain ⟨rfl, rfl⟩ := e
      rw [if_pos rfl, h.lme (a := p') (d := 2 ^ l' - 1) (by omega)]
    · rw [if_neg (by omega)]
      exact h.2.2 l' p' q1 q2 q3 (q4.resolve_left e)
theorem writes0M {F : gF} {w l p : Nat} {g : Nat → Int32} (h : MS F w) (h1 : 1 ≤ l) (h5 : l ≤ 5) (hp : p + 2 ^ l ≤ 40) : dnX5_writes0 (st F w g) (nI l) (nI p) = some (st F w (upd (upd g (92 + 40 * (l - 1) + p) (nI (lm g p (2 ^ l - 1)))) 8 (g 8 + 1))) := by
  have hw := pw (show l < 6 by omega)
  unfold dnX5_writes0 dnX5_cellAt
  rw [bp_s, cellIx h1, sh1 (by omega), nI_add, show nI (p + 2 ^ l) - 1 = nI (p + 2 ^ l - 1) from nI_sub (b := 1) (by omega), leastM (h.s g) (by omega) (by omega), bp_s, lm_st (by omega), put_ h (by omega), bp_s, show (8 : Int32) = nI 8 from rfl, adds_ h (by decide), bp_s, show p + 2 ^ l - 1 - p = 2 ^ l - 1 by omega]
  congr 3
  simp only [upd]
  rw [if_neg (by omega)]
theorem cells_s {F : gF} {w n l : Nat} {g : Nat → Int32} (h : MS F w) (h0 : g 0 = nI n) (hn : n ≤ 40) (hl : l < 6) : dnX5_cellsOn (st F w g) (nI l) = some (nI (n + 1 - 2 ^ l)) := cellsM (h.s g) (by rw [row_st (by decide)]; exact h0) hn hl
theorem builds9 {F : gF} {w n l : Nat} {g : Nat → Int32} (h : MS F w) (h0 : g 0 = nI n) (hn : n ≤ 40) (h1 : 1 ≤ l) (h5 : l ≤ 5) : ∀ (N p c : Nat) (g' : Nat → Int32), p ≤ n + 1 - 2 ^ l → n + 1 - 2 ^ l < N + p → CI g g' n c (fun l' p' => l' < l ∨ (l' = l ∧ p' < p)) → ∃ g'' : Nat → Int32, lpX5_builds_9 (nI l) N (nI p) (st F w g') = some (0, st F w g'') ∧ CI g g'' n (c + (n + 1 - 2 ^ l - p)) (fun l' _ => l' < l + 1) := by
  have hw := pw (show l < 6 by omega)
  intro N
  induction N with
  | zero => intro p c g' q1 q2; omega
  | succ N ih =>
    intro p c g' q1 q2 hC
    unfold lpX5_builds_9
    rw [cells_s h (by rw [hC.1 0 (by decide) (by decide)]; exact h0) hn (by omega), bp_s]
    by_cases hp : n + 1 - 2 ^ l ≤ p
    · rw [if_pos (nI_le hp (by omega))]
      refine ⟨g', rfl, ?_⟩
      rw [show c + (n + 1 - 2 ^ l - p) = c by omega]
      exact hC.mono (fun l' p' k1 k2 k3 k4 => by
        by_cases e : l' = l
        · subst e; exact Or.inr ⟨rfl, by omega⟩
        · exact Or.inl (by omega))
    · rw [if_neg (nI_ge (by omega) (by omega)), writes0M h h1 h5 (by omega), bp_s, nI_1]
      obtain ⟨g'', e, hC2⟩ := ih (p + 1) (c + 1) _ (by omega) (by omega) ((hC.w hn h1 h5 (p := p) (by omega)).mono (fun l' p' k1 k2 k3 k4 => by
        rcases k4 with k | ⟨k, k'⟩
        · exact Or.inr (Or.inl k)
        · by_cases e : p' = p
          · exact Or.inl ⟨k, e⟩
          · exact Or.inr (Or.inr ⟨k, by omega⟩)))
      refine ⟨g'', e, ?_⟩
      rw [show c + (n + 1 - 2 ^ l - p) = c + 1 + (n + 1 - 2 ^ l - (p + 1)) by omega]
      exact hC2
theorem builds2 {F : gF} {w n : Nat} {g : Nat → Int32} (h : MS F w) (h0 : g 0 = nI n) (hn : n ≤ 40) : ∀ (N l c : Nat) (g' : Nat → Int32), 1 ≤ l → l ≤ 6 → 6 < N + l → CI g g' n c (fun l' _ => l' < l) → ∃ g'' : Nat → Int32, lpX5_builds_2 N (nI l) (st F w g') = some (0, st F w g'') ∧ CI g g'' n (c + cs (fun l => n + 1 - 2 ^ l) (6 - l)) (fun _ _ => True) := by
  intro N
  induction N with
  | zero => intro l c g' q0 q1 q2; omega
  | succ N ih =>
    intro l c g' q0 q1 q2 hC
    unfold lpX5_builds_2
    by_cases hl : 6 ≤ l
    · rw [if_pos (show (5 : Int32) < nI l from nI_lt (a := 5) (by omega) (by omega))]
      refine ⟨g', rfl, ?_⟩
      rw [show 6 - l = 0 by omega]
      exact hC.mono (fun l' p' k1 k2 k3 k4 => by omega)
    · have hw := pw (show l < 6 by omega)
      obtain ⟨g1, e1, hC1⟩ := builds9 h h0 hn q0 (show l ≤ 5 by omega) FU 0 c g' (by omega) (by unfold FU; omega) (hC.mono (fun l' p' k1 k2 k3 k4 => by rcases k4 with k | ⟨k, k'⟩ <;> omega))
      rw [if_neg (show ¬ (5 : Int32) < nI l from nI_nlt (b := l) (a := 5) (by omega) (by omega)), show lpX5_builds_9 (nI l) FU 0 (st F w g') = _ from e1, bp_s, nI_1]
      obtain ⟨g2, e2, hC2⟩ := ih (l + 1) _ g1 (by omega) (by omega) (by omega) hC1
      refine ⟨g2, e2, ?_⟩
      rw [show 6 - l = (6 - (l + 1)) + 1 by omega, cs, show 5 - (6 - (l + 1)) = l by omega]
      rw [show c + (n + 1 - 2 ^ l + cs (fun l => n + 1 - 2 ^ l) (6 - (l + 1))) = c + (n + 1 - 2 ^ l - 0) + cs (fun l => n + 1 - 2 ^ l) (6 - (l + 1)) by omega]
      exact hC2
/-- none of the places waits, from place j on -/
def clr (j : Nat) (g : Nat → Int32) : Nat → Int32 := fun k => if 52 + j ≤ k ∧ k < 92 then 0 else g k
theorem clr_u2 {j : Nat} (hj : j < 40) (g : Nat → Int32) : clr (j + 1) (upd g (52 + j) 0) = clr j g := by
  funext k
  unfold clr
  by_cases h1 : 52 + (j + 1) ≤ k ∧ k < 92
  · rw [if_pos h1, if_pos (by omega)]
  · rw [if_neg h1]
    simp only [upd]
    by_cases h2 : k = 52 + j
    · rw [if_pos h2, if_pos (by omega)]
    · rw [if_neg h2, if_neg (by omega)]
theorem clr_40 (g : Nat → Int32) : clr 40 g = g := by
  funext k
  unfold clr
  rw [if_neg (by omega)]
theorem clears38 {F : gF} {w : Nat} (h : MS F w) : ∀ (N j : Nat) (g : Nat → Int32), j ≤ 40 → 40 < N + j → lpX5_builds_38 N (nI j) (st F w g) = some (0, st F w (clr j g)) := by
  intro N
  induction N with
  | zero => intro j g q1 q2; omega
  | succ N ih =>
    intro j g q1 q2
    unfold lpX5_builds_38
    by_cases hj : 40 ≤ j
    · rw [if_pos (show (40 : Int32) ≤ nI j from nI_le (a := 40) hj (by omega)), show j = 40 by omega, clr_40]
    · rw [if_neg (show ¬ (40 : Int32) ≤ nI j from nI_ge (b := 40) (by omega) (by omega)), show (52 : Int32) = nI 52 from rfl, nI_add, put_ h (by omega), bp_s, nI_1, ih (j + 1) _ (by omega) (by omega), clr_u2 (by omega)]
/-- what builds does to a row -/
def BI (g g' : Nat → Int32) (n : Nat) : Prop :=
  (∀ k : Nat, k ≠ 8 → k ≠ 10 → (k < 52 ∨ 292 ≤ k) → g' k = g k) ∧ g' 8 = g 8 + nI (cs (fun l => n + 1 - 2 ^ l) 5) ∧ g' 10 = g 10 + 1 ∧ (∀ p : Nat, p < 40 → g' (52 + p) = 0) ∧
  (∀ l p : Nat, 1 ≤ l → l ≤ 5 → p + 2 ^ l ≤ n → g' (92 + 40 * (l - 1) + p) = nI (lm g p (2 ^ l - 1)))
theorem buildsM {F : gF} {w n : Nat} {g : Nat → Int32} (h : MS F w) (h0 : g 0 = nI n) (hn : n ≤ 40) : ∃ g' : Nat → Int32, dnX5_builds (st F w g) = some (st F w g') ∧ BI g g' n := by
  obtain ⟨g1, e1, hC⟩ := builds2 h h0 hn FU 1 0 g (by decide) (by decide) (by unfold FU; omega) ⟨fun k _ _ => rfl, by rw [show nI 0 = 0 from rfl, Int32.add_zero], fun l p q1 q2 q3 q4 => by omega⟩
  refine ⟨upd (clr 0 g1) 10 (clr 0 g1 10 + 1), ?_, ?_⟩
  · unfold dnX5_builds
    rw [show lpX5_builds_2 FU 1 (st F w g) = _ from e1, bp_s, show lpX5_builds_38 FU 0 (st F w g1) = _ from clears38 h FU 0 g1 (by omega) (by unfold FU; omega), bp_s, show (10 : Int32) = nI 10 from rfl, adds_ h (by decide), bp_s]
  · refine ⟨fun k k1 k2 k3 => ?_, ?_, ?_, fun p hp => ?_, fun l p q1 q2 q3 => ?_⟩
    · simp only [upd, clr]
      rw [if_neg k2, if_neg (by omega)]
      exact hC.1 k k1 (by omega)
    · simp only [upd, clr]
      rw [if_neg (by omega), if_neg (by omega), hC.2.1, Nat.zero_add]
    · simp only [upd, clr]
      rw [if_pos trivial, if_neg (by omega), hC.1 10 (by decide) (by decide)]
    · simp only [upd, clr]
      rw [if_neg (by omega), if_pos (by omega)]
    · have := pw (show l < 6 by omega)
      simp only [upd, clr]
      rw [if_neg (by omega), if_neg (by omega)]
      exact hC.2.2 l p q1 q2 q3 trivial
