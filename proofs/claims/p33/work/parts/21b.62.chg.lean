/-! more calls that change -/
theorem kepM {F : gF} {w kc k : Nat} (hM : MS F w) (h6 : row F w 6 = nI kc) (h8 : kc ≤ 8) (hk : k < kc) : dnX5_isKept F (nI k) = some 1 := by
  unfold dnX5_isKept dnX5_isIn
  rw [show (6 : Int32) = nI 6 from rfl, getr hM (by decide), h6, bp_s, if_neg (nI_pos (by omega)), show nI kc - 1 = nI (kc - 1) from nI_sub (b := 1) (by omega), if_neg (fun q => absurd ((nI_ltI (by omega) (by omega)).mp q) (by omega)), bp_s]
  rfl
theorem kepM0 {F : gF} {w kc : Nat} {x1 : Int32} (hM : MS F w) (h6 : row F w 6 = nI kc) (h8 : kc ≤ 8) (hx : x1 < 0 ∨ nI kc ≤ x1) : dnX5_isKept F x1 = some 0 := by
  unfold dnX5_isKept dnX5_isIn
  rw [show (6 : Int32) = nI 6 from rfl, getr hM (by decide), h6, bp_s]
  by_cases c : x1 < 0
  · rw [if_pos c, bp_s]; rfl
  · have hx2 : nI kc ≤ x1 := hx.resolve_left c
    have : nI kc - 1 < x1 := by
      by_cases z : kc = 0
      · subst z
        exact Int32.lt_of_lt_of_le (show nI 0 - 1 < nI 0 from by decide) hx2
      · rw [show nI kc - 1 = nI (kc - 1) from nI_sub (b := 1) (by omega)]
        exact Int32.lt_of_lt_of_le (nI_lt (by omega) (by omega)) hx2
    rw [if_neg c, if_pos this, bp_s]; rfl
theorem demK {V : gX} {kc k : Nat} (hc : V.2.1.1 3 2 = nI kc) (h8 : kc ≤ 8) (hk : k < kc) : dnX4_demandKept V (nI k) = some (.inr ()) := by
  unfold dnX4_demandKept
  rw [if_neg (nI_pos (by omega)), hc, if_pos (nI_lt hk (by omega))]
theorem demK0 {V : gX} {kc : Nat} {x1 : Int32} (hc : V.2.1.1 3 2 = nI kc) (hx : x1 < 0 ∨ nI kc ≤ x1) : dnX4_demandKept V x1 = some (.inl "java/util/NoSuchElementException") := by
  unfold dnX4_demandKept
  by_cases c : x1 < 0
  · rw [if_pos c]
  · rw [if_neg c, hc, if_neg (Int32.not_lt.mpr (hx.resolve_left c))]
theorem KLv.er {n k : Nat} {L : kL} (h : KLv n L) : KLv n (L.eraseIdx k) := by
  intro i a b q
  rw [List.getElem?_eraseIdx] at q
  by_cases e : i < k
  · rw [if_pos e] at q; exact h i a b q
  · rw [if_neg e] at q; exact h _ a b q
theorem in_em (lo hi x : Int32) : (lo ≤ x ∧ x ≤ hi ∧ dnX5_isIn x lo hi = some 1) ∨ ((x < lo ∨ hi < x) ∧ dnX5_isIn x lo hi = some 0) := by
  unfold dnX5_isIn
  by_cases h1 : x < lo
  · rw [if_pos h1]; exact Or.inr ⟨Or.inl h1, rfl⟩
  · rw [if_neg h1]
    by_cases h2 : hi < x
    · rw [if_pos h2]; exact Or.inr ⟨Or.inr h2, rfl⟩
    · rw [if_neg h2]; exact Or.inl ⟨Int32.not_lt.mp h1, Int32.not_lt.mp h2, rfl⟩
theorem lo_nI {x : Int32} {a b : Nat} (hb : b < 2 ^ 31) (h1 : nI a ≤ x) (ha : a < 2 ^ 31) (h2 : x ≤ nI b) : ∃ m : Nat, a ≤ m ∧ m ≤ b ∧ x = nI m := by
  have h0 : ¬ x < 0 := fun q => absurd (Int32.lt_of_le_of_lt h1 q) (nI_pos ha)
  obtain ⟨j, hj, rfl⟩ := nI_of h0
  exact ⟨j, (nI_leI ha hj).mp h1, (nI_leI hj hb).mp h2, rfl⟩
theorem mod8b : ∀ x : Nat, x < 8 → (nI x + 8 - 1) - (nI x + 8 - 1) / 8 * 8 = nI ((x + 7) % 8) := by decide
theorem mod9b : ∀ w : Nat, w < 9 → ((nI w + 9) - 1) - ((nI w + 9) - 1) / 9 * 9 = nI ((w + 8) % 9) := by decide