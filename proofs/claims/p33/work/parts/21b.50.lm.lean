/-! the leftmost least of a stretch: what marks it -/
def isL (g : Nat → Int32) (a b c : Nat) : Prop := (a ≤ c ∧ c ≤ b) ∧ (∀ j : Nat, a ≤ j → j ≤ b → g (12 + c) ≤ g (12 + j)) ∧ (∀ j : Nat, a ≤ j → j < c → g (12 + c) < g (12 + j))
theorem isL_u {g : Nat → Int32} {a b c c' : Nat} (h : isL g a b c) (h' : isL g a b c') : c = c' := by
  obtain ⟨⟨h1, h2⟩, h3, h4⟩ := h
  obtain ⟨⟨k1, k2⟩, k3, k4⟩ := h'
  rcases Nat.lt_trichotomy c c' with q | q | q
  · exact absurd (h3 c' k1 k2) (Int32.not_le.mpr (k4 c h1 q))
  · exact q
  · exact absurd (k3 c h1 h2) (Int32.not_le.mpr (h4 c' k1 q))
theorem lm_is (g : Nat → Int32) (a : Nat) : ∀ d : Nat, isL g a (a + d) (lm g a d) := by
  intro d
  induction d with
  | zero =>
    refine ⟨⟨Nat.le_refl _, Nat.le_refl _⟩, fun j h1 h2 => ?_, fun j h1 h2 => ?_⟩
    · have e : j = a := by omega
      subst e; exact Int32.le_refl _
    · have h2 : j < a := h2
      omega
  | succ d ih =>
    have e : ∀ j : Nat, a ≤ j → j ≤ a + (d + 1) → j ≤ a + d ∨ j = a + (d + 1) := fun j _ h => by omega
    unfold lm
    split
    · next h =>
      refine ⟨⟨ih.1.1, Nat.le_succ_of_le ih.1.2⟩, fun j h1 h2 => ?_, ih.2.2⟩
      rcases e j h1 h2 with q | q
      · exact ih.2.1 j h1 q
      · subst q; exact h
    · next h =>
      have h := Int32.not_le.mp h
      refine ⟨⟨by omega, Nat.le_refl _⟩, fun j h1 h2 => ?_, fun j h1 h2 => ?_⟩
      · rcases e j h1 h2 with q | q
        · exact Int32.le_trans (Int32.le_of_lt h) (ih.2.1 j h1 q)
        · subst q; exact Int32.le_refl _
      · exact Int32.lt_of_lt_of_le h (ih.2.1 j h1 (by omega))
theorem lm_of {g : Nat → Int32} {a b c : Nat} (h : isL g a b c) (hab : a ≤ b) : c = lm g a (b - a) := by
  have q := lm_is g a (b - a)
  rw [Nat.add_sub_cancel' hab] at q
  exact isL_u h q
theorem lm_to {g : Nat → Int32} {a b : Nat} (hab : a ≤ b) : isL g a b (lm g a (b - a)) := by
  have q := lm_is g a (b - a)
  rw [Nat.add_sub_cancel' hab] at q
  exact q
theorem lm_cg {g g' : Nat → Int32} {a : Nat} : ∀ d : Nat, (∀ j : Nat, a ≤ j → j ≤ a + d → g (12 + j) = g' (12 + j)) → lm g a d = lm g' a d := by
  intro d
  induction d with
  | zero => intro _; rfl
  | succ d ih =>
    intro h
    have hb := lm_b g' a d
    rw [lm, lm, ih (fun j h1 h2 => h j h1 (by omega)), h (lm g' a d) hb.1 (by omega), h (a + (d + 1)) (by omega) (Nat.le_refl _)]
theorem les_is {g : Nat → Int32} {a b c a' b' c' : Nat} (h : isL g a b c) (h' : isL g a' b' c') (h1 : a ≤ a') (h2 : a' ≤ b + 1) (h3 : b ≤ b') : isL g a b' (les g c c') := by
  obtain ⟨⟨p1, p2⟩, p3, p4⟩ := h
  obtain ⟨⟨q1, q2⟩, q3, q4⟩ := h'
  unfold les
  by_cases e : g (12 + c) = g (12 + c')
  · rw [if_pos e]
    by_cases hc : c' < c
    · rw [if_pos hc]
      refine ⟨⟨by omega, q2⟩, fun j j1 j2 => ?_, fun j j1 j2 => ?_⟩
      · by_cases hj : j ≤ b
        · rw [← e]; exact p3 j j1 hj
        · exact q3 j (by omega) j2
      · rw [← e]; exact p4 j j1 (by omega)
    · rw [if_neg hc]
      refine ⟨⟨p1, by omega⟩, fun j j1 j2 => ?_, p4⟩
      by_cases hj : j ≤ b
      · exact p3 j j1 hj
      · rw [e]; exact q3 j (by omega) j2
  · rw [if_neg e]
    by_cases hc : g (12 + c') ≤ g (12 + c)
    · have hlt : g (12 + c') < g (12 + c) := Int32.lt_of_le_of_ne hc (fun q => e q.symm)
      rw [if_pos hc]
      refine ⟨⟨by omega, q2⟩, fun j j1 j2 => ?_, fun j j1 j2 => ?_⟩
      · by_cases hj : j ≤ b
        · exact Int32.le_trans hc (p3 j j1 hj)
        · exact q3 j (by omega) j2
      · by_cases hj : j ≤ b
        · exact Int32.lt_of_lt_of_le hlt (p3 j j1 hj)
        · exact q4 j (by omega) j2
    · have hlt := Int32.not_le.mp hc
      rw [if_neg hc]
      refine ⟨⟨p1, by omega⟩, fun j j1 j2 => ?_, p4⟩
      by_cases hj : j ≤ b
      · exact p3 j j1 hj
      · exact Int32.le_trans (Int32.le_of_lt hlt) (q3 j (by omega) j2)
theorem lesM_is {g : Nat → Int32} {a b c a' b' c' : Nat} (h : isL g a b c) (h' : isL g a' b' c') (h1 : a ≤ a') (h2 : a' ≤ b + 1) (h3 : b ≤ b') : isL g a b' (if g (12 + c) ≤ g (12 + c') then c else c') := by
  obtain ⟨⟨p1, p2⟩, p3, p4⟩ := h
  obtain ⟨⟨q1, q2⟩, q3, q4⟩ := h'
  by_cases hc : g (12 + c) ≤ g (12 + c')
  · rw [if_pos hc]
    refine ⟨⟨p1, by omega⟩, fun j j1 j2 => ?_, p4⟩
    by_cases hj : j ≤ b
    · exact p3 j j1 hj
    · exact Int32.le_trans hc (q3 j (by omega) j2)
  · have hlt := Int32.not_le.mp hc
    rw [if_neg hc]
    refine ⟨⟨by omega, q2⟩, fun j j1 j2 => ?_, fun j j1 j2 => ?_⟩
    · by_cases hj : j ≤ b
      · exact Int32.le_trans (Int32.le_of_lt hlt) (p3 j j1 hj)
      · exact q3 j (by omega) j2
    · by_cases hj : j ≤ b
      · exact Int32.lt_of_lt_of_le hlt (p3 j j1 hj)
      · exact q4 j (by omega) j2
/-- a cell's two halves -/
theorem lm_half {g : Nat → Int32} {l p : Nat} (h1 : 1 ≤ l) (h : l < 6) : les g (lm g p (2 ^ (l - 1) - 1)) (lm g (p + 2 ^ (l - 1)) (2 ^ (l - 1) - 1)) = lm g p (2 ^ l - 1) := by
  have hp := pw (show l - 1 < 6 by omega)
  have e : 2 ^ l = 2 ^ (l - 1) + 2 ^ (l - 1) := by
    rw [show l = l - 1 + 1 by omega, Nat.pow_succ, Nat.add_sub_cancel]; omega
  have i1 := lm_is g p (2 ^ (l - 1) - 1)
  have i2 := lm_is g (p + 2 ^ (l - 1)) (2 ^ (l - 1) - 1)
  have q := lm_of (les_is i1 i2 (by omega) (by omega) (by omega)) (by omega)
  rw [q]
  congr 1
  omega
theorem lesC' {G : gR} {g : Nat → Int32} {n c j : Nat} (hV : ∀ p : Nat, p < n → G.1 1 p = g (12 + p)) (hn : n ≤ 40) (hc : c < n) (hj : j < n) : dnX1_lesser G (nI c) (nI j) = some (nI (les g c j)) := by
  unfold dnX1_lesser
  have e40 : ∀ k : Nat, k < n → nI k < (40 : Int32) := fun k hk => nI_lt (b := 40) (by omega) (by decide)
  rw [if_neg (nI_pos (by omega)), if_pos (e40 c hc), if_neg (nI_pos (by omega)), if_pos (e40 j hj), ra_ok (by omega) (by decide), ra_ok (by omega) (by decide), hV c hc, hV j hj, ra_ok (by omega) (by decide), ra_ok (by omega) (by decide), hV c hc, hV j hj]
  unfold les
  by_cases h1 : g (12 + c) = g (12 + j)
  · rw [if_pos h1, if_pos h1]
    by_cases h2 : j < c
    · rw [if_pos h2, if_pos (nI_lt h2 (by omega))]
    · rw [if_neg h2, if_neg (nI_nlt (by omega) (by omega))]
  · rw [if_neg h1, if_neg h1]
    by_cases h2 : g (12 + j) ≤ g (12 + c)
    · rw [if_pos h2, if_pos h2]
    · rw [if_neg h2, if_neg h2]
/-- counts, level by level: k levels are left, the next is 6 - k -/
def cs (f : Nat → Nat) : Nat → Nat
  | 0 => 0
  | k + 1 => f (5 - k) + cs f k
theorem cs_cg {f f' : Nat → Nat} (h : ∀ l : Nat, 1 ≤ l → l ≤ 5 → f l = f' l) : ∀ k : Nat, k ≤ 5 → cs f k = cs f' k := by
  intro k
  induction k with
  | zero => intro _; rfl
  | succ k ih =>
    intro hk
    rw [cs, cs, h (5 - k) (by omega) (by omega), ih (by omega)]
theorem cs_le {f : Nat → Nat} (h : ∀ l : Nat, f l ≤ 40) : ∀ k : Nat, cs f k ≤ 40 * k := by
  intro k
  induction k with
  | zero => exact Nat.le_refl _
  | succ k ih => have := h (5 - k); rw [cs]; omega
