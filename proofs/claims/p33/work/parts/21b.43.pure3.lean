/-! stretches; the least by the values; sums -/
theorem str_em {n : Nat} (hn : n ≤ 40) (x1 x2 : Int32) : (∃ a b : Nat, a ≤ b ∧ b < n ∧ x1 = nI a ∧ x2 = nI b) ∨ ((x1 < 0 ∨ nI n ≤ x1) ∨ ∃ a : Nat, a < n ∧ x1 = nI a ∧ (x2 < 0 ∨ nI n ≤ x2)) ∨ (∃ a b : Nat, b < a ∧ a < n ∧ x1 = nI a ∧ x2 = nI b) := by
  rcases pl_em hn x1 with ⟨a, ha, rfl⟩ | h1
  · rcases pl_em hn x2 with ⟨b, hb, rfl⟩ | h2
    · by_cases h : a ≤ b
      · exact Or.inl ⟨a, b, h, hb, rfl, rfl⟩
      · exact Or.inr (Or.inr ⟨a, b, by omega, ha, rfl, rfl⟩)
    · exact Or.inr (Or.inl (Or.inr ⟨a, ha, rfl, h2⟩))
  · exact Or.inr (Or.inl (Or.inl h1))
theorem right1w {F : gF} (h : F 0 0 = 0) (t : Int32) : dnX5_right F 1 t = some (1, F) := by
  unfold dnX5_right
  rw [if_pos h, if_neg (by decide)]
theorem strM {F : gF} {w n a b : Nat} (h : MS (wr F 0 0 0) w) (h0 : row (wr F 0 0 0) w 0 = nI n) (hn : n ≤ 40) (hab : a ≤ b) (hb : b < n) : dnX5_isStretch (wr F 0 0 0) (nI a) (nI b) = some (1, wr F 0 0 0) := by
  unfold dnX5_isStretch
  rw [placeM h h0 hn (by omega), bp_s, if_neg (by decide), placeM h h0 hn hb, bp_s, if_neg (by decide), right1, bs_s, if_neg (by decide), if_neg (nI_nlt hab (by omega)), right1, bs_s, if_neg (by decide)]
theorem strM2 {F : gF} {w n a b : Nat} (h : MS (wr F 0 0 0) w) (h0 : row (wr F 0 0 0) w 0 = nI n) (hn : n ≤ 40) (hab : b < a) (ha : a < n) : dnX5_isStretch (wr F 0 0 0) (nI a) (nI b) = some (0, wr F 0 0 2) := by
  unfold dnX5_isStretch
  rw [placeM h h0 hn ha, bp_s, if_neg (by decide), placeM h h0 hn (by omega), bp_s, if_neg (by decide), right1, bs_s, if_neg (by decide), if_pos (nI_lt hab (by omega)), right0 F (by decide), bs_s, if_pos rfl]
theorem strM1 {F : gF} {w n : Nat} {x1 x2 : Int32} (h : MS (wr F 0 0 0) w) (h0 : row (wr F 0 0 0) w 0 = nI n) (h1 : 1 ≤ n) (hn : n ≤ 40) (hx : (x1 < 0 ∨ nI n ≤ x1) ∨ ∃ a : Nat, a < n ∧ x1 = nI a ∧ (x2 < 0 ∨ nI n ≤ x2)) : dnX5_isStretch (wr F 0 0 0) x1 x2 = some (0, wr F 0 0 1) := by
  unfold dnX5_isStretch
  rcases hx with hx | ⟨a, ha, rfl, hx⟩
  · rw [placeM0 h h0 h1 hn hx, bp_s, if_pos rfl, right0 F (by decide), bs_s, if_pos rfl]
  · rw [placeM h h0 hn ha, bp_s, if_neg (by decide), placeM0 h h0 h1 hn hx, bp_s, if_pos rfl, right0 F (by decide), bs_s, if_pos rfl]
theorem strC {V : gX} {n a b : Nat} (h0 : V.2.1.1 0 3 = nI n) (hn : n ≤ 40) (hab : a ≤ b) (hb : b < n) : dnX4_demandStretch V (nI a) (nI b) = some (.inr ()) := by
  unfold dnX4_demandStretch
  rw [demC h0 hn (by omega), bx_r, demC h0 hn hb, bx_r, if_pos (nI_le hab (by omega))]
theorem strC2 {V : gX} {n a b : Nat} (h0 : V.2.1.1 0 3 = nI n) (hn : n ≤ 40) (hab : b < a) (ha : a < n) : dnX4_demandStretch V (nI a) (nI b) = some (.inl "java/lang/IllegalArgumentException") := by
  unfold dnX4_demandStretch
  rw [demC h0 hn ha, bx_r, demC h0 hn (by omega), bx_r, if_neg (nI_ge hab (by omega))]
theorem strC1 {V : gX} {n : Nat} {x1 x2 : Int32} (h0 : V.2.1.1 0 3 = nI n) (hn : n ≤ 40) (hx : (x1 < 0 ∨ nI n ≤ x1) ∨ ∃ a : Nat, a < n ∧ x1 = nI a ∧ (x2 < 0 ∨ nI n ≤ x2)) : dnX4_demandStretch V x1 x2 = some (.inl "java/lang/IndexOutOfBoundsException") := by
  unfold dnX4_demandStretch
  rcases hx with hx | ⟨a, ha, rfl, hx⟩
  · rw [demC0 h0 hx, bx_l]
  · rw [demC h0 hn ha, bx_r, demC0 h0 hx, bx_l]
theorem lm_b (g : Nat → Int32) (a : Nat) : ∀ d : Nat, a ≤ lm g a d ∧ lm g a d ≤ a + d := by
  intro d
  induction d with
  | zero => exact ⟨Nat.le_refl _, Nat.le_refl _⟩
  | succ d ih =>
    unfold lm
    split
    · exact ⟨ih.1, by omega⟩
    · exact ⟨by omega, by omega⟩
theorem leastM {F : gF} {w a b : Nat} (h : MS F w) (hab : a ≤ b) (hb : b < 40) : dnX5_leastIn F (nI a) (nI b) = some (nI (lm (row F w) a (b - a))) := by
  have K : ∀ (N d : Nat), d ≤ b - a → b - a < N + d → lpX5_leastIn_7 F (nI b) N (nI (lm (row F w) a d)) (nI (a + (d + 1))) = some (0, nI (lm (row F w) a (b - a))) := by
    intro N
    induction N with
    | zero => intro d h1 h2; omega
    | succ N ih =>
      intro d h1 h2
      have hl := lm_b (row F w) a d
      unfold lpX5_leastIn_7
      by_cases hd : d = b - a
      · rw [if_pos (nI_lt (by omega) (by omega)), ← hd]
      · rw [if_neg (nI_nlt (by omega) (by omega)), valueM h (by omega), bp_s, valueM h (by omega), bp_s]
        have e := ih (d + 1) (by omega) (by omega)
        by_cases c : row F w (12 + lm (row F w) a d) ≤ row F w (12 + (a + (d + 1)))
        · rw [if_pos c, nI_1, show a + (d + 1) + 1 = a + (d + 1 + 1) by omega]
          rw [show lm (row F w) a (d + 1) = lm (row F w) a d from by rw [lm, if_pos c]] at e
          exact e
        · rw [if_neg c, nI_1, show a + (d + 1) + 1 = a + (d + 1 + 1) by omega]
          rw [show lm (row F w) a (d + 1) = a + (d + 1) from by rw [lm, if_neg c]] at e
          exact e
  unfold dnX5_leastIn
  have e := K FU 0 (by omega) (by unfold FU; omega)
  rw [nI_1, show lpX5_leastIn_7 F (nI b) FU (nI a) (nI (a + 1)) = _ from e, bp_s]
def les (g : Nat → Int32) (c j : Nat) : Nat := if g (12 + c) = g (12 + j) then (if j < c then j else c) else if g (12 + j) ≤ g (12 + c) then j else c
theorem lesC {G : gR} {g : Nat → Int32} {n kc c j : Nat} (hR : RR G g n kc) (hn : n ≤ 40) (hc : c < n) (hj : j < n) : dnX1_lesser G (nI c) (nI j) = some (nI (les g c j)) := by
  unfold dnX1_lesser
  have e40 : ∀ k : Nat, k < n → nI k < (40 : Int32) := fun k hk => nI_lt (b := 40) (by omega) (by decide)
  rw [if_neg (nI_pos (by omega)), if_pos (e40 c hc), if_neg (nI_pos (by omega)), if_pos (e40 j hj), ra_ok (by omega) (by decide), ra_ok (by omega) (by decide), hR.2.1 c hc, hR.2.1 j hj, ra_ok (by omega) (by decide), ra_ok (by omega) (by decide), hR.2.1 c hc, hR.2.1 j hj]
  unfold les
  by_cases h1 : g (12 + c) = g (12 + j)
  · rw [if_pos h1, if_pos h1]
    by_cases h2 : j < c
    · rw [if_pos h2, if_pos (nI_lt h2 (by omega))]
    · rw [if_neg h2, if_neg (nI_nlt (by omega) (by omega))]
  · rw [if_neg h1, if_neg h1]
    by_cases h2 : g (12 + j) ≤ g (12 + c)
    · rw [if_pos h2, if_pos h2]
    · rw [if_neg h2, if_neg h2]
theorem les_lt {g : Nat → Int32} {c j : Nat} (h : c < j) : les g c j = if g (12 + c) ≤ g (12 + j) then c else j := by
  unfold les
  by_cases h1 : g (12 + c) = g (12 + j)
  · rw [if_pos h1, if_neg (by omega), if_pos (by rw [h1]; exact Int32.le_refl _)]
  · rw [if_neg h1]
    by_cases h2 : g (12 + j) ≤ g (12 + c)
    · rw [if_pos h2, if_neg (fun q => h1 (Int32.le_antisymm q h2))]
    · rw [if_neg h2, if_pos ((Int32.le_total _ _).resolve_left h2)]
theorem leastC {G : gR} {g : Nat → Int32} {n kc a b : Nat} (hR : RR G g n kc) (hn : n ≤ 40) (hab : a ≤ b) (hb : b < n) : dnX1_leastByValues G (nI a) (nI b) = some (nI (lm g a (b - a))) := by
  have K : ∀ (N d : Nat), d ≤ b - a → b - a < N + d → lpX1_leastByValues_5 G (nI b) N (nI (lm g a d)) (nI (a + (d + 1))) = some (0, nI (lm g a (b - a))) := by
    intro N
    induction N with
    | zero => intro d h1 h2; omega
    | succ N ih =>
      intro d h1 h2
      have hl := lm_b g a d
      unfold lpX1_leastByValues_5
      by_cases hd : d = b - a
      · rw [if_pos (nI_lt (by omega) (by omega)), ← hd]
      · rw [if_neg (nI_nlt (by omega) (by omega)), lesC hR hn (by omega) (by omega), bp_s, nI_1, les_lt (by omega), show a + (d + 1) + 1 = a + (d + 1 + 1) by omega]
        exact ih (d + 1) (by omega) (by omega)
  unfold dnX1_leastByValues
  have e : lpX1_leastByValues_5 G (nI b) FU (-1) (nI a) = lpX1_leastByValues_5 G (nI b) (FU - 1) (nI a) (nI (a + 1)) := by
    rw [show FU = (FU - 1) + 1 from rfl]
    conv => lhs; unfold lpX1_leastByValues_5
    rw [if_neg (nI_nlt hab (by omega))]
    unfold dnX1_lesser
    rw [if_pos (by decide), bp_s, nI_1]
    rfl
  have e2 := K (FU - 1) 0 (by omega) (by unfold FU; omega)
  rw [e, show lpX1_leastByValues_5 G (nI b) (FU - 1) (nI a) (nI (a + 1)) = _ from e2, bp_s]