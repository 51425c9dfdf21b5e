/-! cells, what waits, what is kept -/
theorem cnt_ {n m : Nat} (hn : n ≤ 100) (hm : m ≤ 100) : (if 0 < (nI n - nI m) + 1 then (nI n - nI m) + 1 else 0) = nI (n + 1 - m) := by
  by_cases h : m ≤ n
  · rw [nI_sub h, nI_1, if_pos (show (0 : Int32) < nI (n - m + 1) from nI_lt (a := 0) (by omega) (by omega)), show n - m + 1 = n + 1 - m by omega]
  · have h1 : ¬ (0 : Int32) < (nI n - nI m) + 1 := by
      rw [Int32.lt_iff_toInt_lt, Int32.toInt_add, Int32.toInt_sub, nI_toInt (by omega), nI_toInt (by omega), show (0 : Int32).toInt = 0 from by decide, show (1 : Int32).toInt = 1 from by decide, Int.bmod_def, Int.bmod_def]
      split <;> split <;> omega
    rw [if_neg h1, show n + 1 - m = 0 by omega]
    rfl
theorem pw {l : Nat} (h : l < 6) : 1 ≤ 2 ^ l ∧ 2 ^ l ≤ 32 := by
  match l, h with
  | 0, _ => decide
  | 1, _ => decide
  | 2, _ => decide
  | 3, _ => decide
  | 4, _ => decide
  | 5, _ => decide
theorem cellsM {F : gF} {w n l : Nat} (h : MS F w) (h0 : row F w 0 = nI n) (hn : n ≤ 40) (hl : l < 6) : dnX5_cellsOn F (nI l) = some (nI (n + 1 - 2 ^ l)) := by
  have := pw hl
  unfold dnX5_cellsOn
  rw [size_ h h0, bp_s, sh1 hl, cnt_ (by omega) (by omega)]
theorem cellsC {G : gR} {n l : Nat} (h0 : G.1 0 3 = nI n) (hn : n ≤ 40) (hl : l < 6) : dnX1_cellsOnLevel G (nI l) = some (nI (n + 1 - 2 ^ l)) := by
  have := pw hl
  unfold dnX1_cellsOnLevel
  rw [h0, sh1 hl, cnt_ (by omega) (by omega)]
theorem cellIx {l p : Nat} (h1 : 1 ≤ l) : (92 + (40 * (nI l - 1))) + nI p = nI (92 + 40 * (l - 1) + p) := by
  rw [show nI l - 1 = nI (l - 1) from nI_sub (b := 1) h1, show (40 : Int32) = nI 40 from rfl, show (92 : Int32) = nI 92 from rfl, nI_mul, nI_add, nI_add]
theorem toldM {F : gF} {w l p : Nat} (h : MS F w) (hl : l < 6) (hp : p < 40) : dnX5_toldBy F (nI l) (nI p) = some (if l = 0 then nI p else row F w (92 + 40 * (l - 1) + p)) := by
  unfold dnX5_toldBy
  by_cases h0 : l = 0
  · subst h0; rw [if_pos (show nI 0 = 0 from rfl), if_pos rfl]
  · rw [if_neg (nI_ne0 (by omega) (by omega)), if_neg h0]
    unfold dnX5_cellAt
    rw [bp_s, cellIx (by omega), getr h (by omega), bp_s]
theorem cellC {G : gR} {l p : Nat} (hl : l < 6) (hp : p < 40) : dnX1_cellAt G (nI l) (nI p) = some (if l = 0 then nI p else G.1 2 (40 * l + p)) := by
  unfold dnX1_cellAt
  by_cases h0 : l = 0
  · subst h0; rw [if_pos (show nI 0 = 0 from rfl), if_pos rfl]
  · rw [if_neg (nI_ne0 (by omega) (by omega)), if_neg h0, show (40 : Int32) = nI 40 from rfl, nI_mul, nI_add, if_neg (nI_pos (by omega)), if_pos (show nI (l * 40 + p) < (240 : Int32) from nI_lt (b := 240) (by omega) (by decide)), ra_ok (by omega) (by decide), Nat.mul_comm]
theorem cellB {V : gX} {F : gF} {w n kc l p : Nat} (hM : MS F w) (hW : WF (row F w) n kc) (hR : RR V.2.1 (row F w) n kc) (hl : l < 6) (hp : p + 2 ^ l ≤ n) : dnX1_cellAt V.2.1 (nI l) (nI p) = dnX5_toldBy F (nI l) (nI p) := by
  have := hW.1.2.1
  have := pw hl
  rw [cellC hl (by omega), toldM hM hl (by omega)]
  by_cases h0 : l = 0
  · rw [if_pos h0, if_pos h0]
  · rw [if_neg h0, if_neg h0, hR.2.2.1 l p (by omega) (by omega) hp]
theorem lev_em (x : Int32) : (∃ l : Nat, l < 6 ∧ x = nI l) ∨ (x < 0 ∨ nI 5 < x) := by
  by_cases h0 : x < 0
  · exact Or.inr (Or.inl h0)
  · obtain ⟨j, hj, rfl⟩ := nI_of h0
    by_cases hjn : j < 6
    · exact Or.inl ⟨j, hjn, rfl⟩
    · exact Or.inr (Or.inr ((nI_ltI (by omega) hj).mpr (by omega)))
theorem keptC {G : gR} {k : Nat} (hk : k < 8) : dnX3_fromAt G (nI k) = some (G.1 4 k) ∧ dnX3_toAt G (nI k) = some (G.1 5 k) := by
  unfold dnX3_fromAt dnX3_toAt
  have h8 : ¬ (8 : Int32) ≤ nI k := fun q => absurd ((nI_leI (a := 8) (by decide) (by omega)).mp q) (by omega)
  rw [if_neg (nI_pos (by omega)), if_neg h8, ra_ok hk (by decide)]
  rw [if_neg (nI_pos (by omega)), if_neg h8, ra_ok hk (by decide)]
  exact ⟨rfl, rfl⟩
theorem keptM {F : gF} {w k : Nat} (h : MS F w) (hk : k < 8) : dnX5_keptFrom F (nI k) = some (row F w (292 + 2 * k)) ∧ dnX5_keptTo F (nI k) = some (row F w (293 + 2 * k)) := by
  unfold dnX5_keptFrom dnX5_keptTo
  rw [show (292 : Int32) = nI 292 from rfl, show (2 : Int32) = nI 2 from rfl, nI_mul, nI_add, nI_1, getr h (by omega), getr h (by omega), bp_s, bp_s, show 292 + 2 * k + 1 = 293 + 2 * k by omega]
  exact ⟨rfl, rfl⟩