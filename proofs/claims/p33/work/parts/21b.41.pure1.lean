/-! the leftmost least of a stretch; what a row of the reference holds; how a row of the class is alike -/
def lm (g : Nat → Int32) (a : Nat) : Nat → Nat
  | 0 => a
  | d + 1 => if g (12 + lm g a d) ≤ g (12 + (a + (d + 1))) then lm g a d else a + (d + 1)
def wb (x : Int64) (p : Nat) : Bool := x.toBitVec.getLsbD p
def WF (g : Nat → Int32) (n kc : Nat) : Prop :=
  (1 ≤ n ∧ n ≤ 40 ∧ g 0 = nI n) ∧ (kc ≤ 8 ∧ g 6 = nI kc) ∧ (g 1 = 0 ∨ g 1 = 1 ∨ g 1 = 2) ∧ (∃ m : Nat, 1 ≤ m ∧ m ≤ 8 ∧ g 2 = nI m) ∧
  ((∀ p : Nat, p < 40 → g (52 + p) = 0 ∨ g (52 + p) = 1) ∧ (∀ p : Nat, n ≤ p → p < 40 → g (52 + p) = 0) ∧ (g 1 = 1 → ∀ p : Nat, p < 40 → g (52 + p) = 0)) ∧
  (∀ k : Nat, k < kc → ∃ a b : Nat, g (292 + 2 * k) = nI a ∧ g (293 + 2 * k) = nI b ∧ a ≤ b ∧ b < n) ∧
  (∀ p : Nat, p < n → -999 ≤ g (12 + p) ∧ g (12 + p) ≤ 999) ∧
  (∀ l p : Nat, 1 ≤ l → l ≤ 5 → p + 2 ^ l ≤ n → ∃ c : Nat, g (92 + 40 * (l - 1) + p) = nI c ∧ p ≤ c ∧ c < p + 2 ^ l ∧ ((∀ j : Nat, p ≤ j → j < p + 2 ^ l → g (52 + j) = 0) → c = lm g p (2 ^ l - 1)))
def RR (G : gR) (g : Nat → Int32) (n kc : Nat) : Prop :=
  (G.1 0 3 = g 0 ∧ G.1 0 4 = g 1 ∧ G.1 0 5 = g 2 ∧ G.1 0 7 = g 7 ∧ G.1 0 8 = g 8 ∧ G.1 0 9 = g 9 ∧ G.1 0 10 = g 10 ∧ G.1 3 2 = g 6) ∧
  (∀ p : Nat, p < n → G.1 1 p = g (12 + p)) ∧
  (∀ l p : Nat, 1 ≤ l → l ≤ 5 → p + 2 ^ l ≤ n → G.1 2 (40 * l + p) = g (92 + 40 * (l - 1) + p)) ∧
  (∀ p : Nat, p < 64 → (wb G.2 p = true ↔ p < 40 ∧ g (52 + p) = 1)) ∧
  (∀ k : Nat, k < kc → G.1 4 k = g (292 + 2 * k) ∧ G.1 5 k = g (293 + 2 * k))
/-- the two systems are alike -/
def JJ (V : gX) (F : gF) : Prop :=
  (∃ w : Nat, MS F w ∧ (∃ n kc : Nat, WF (row F w) n kc ∧ RR V.2.1 (row F w) n kc) ∧
    (∃ u x : Nat, u ≤ 8 ∧ x < 8 ∧ F 0 5 = nI u ∧ V.2.2.2.1 0 2 = nI u ∧ V.2.2.2.1 0 1 = nI x ∧ ∀ j : Nat, j < u → ∃ n kc : Nat, WF (row F ((w + 8 - j) % 9)) n kc ∧ RR (V.2.2.2.2 ((x + 7 - j) % 8)) (row F ((w + 8 - j) % 9)) n kc)) ∧
  V.1 0 3 = F 0 11 ∧ (∃ f : Nat, f ≤ 500 ∧ F 0 7 = nI f ∧ V.2.2.1.1 0 1 = nI f ∧ ∀ j : Nat, j < f → V.2.2.1.1 1 j = F 4 j ∧ 0 ≤ F 4 j)
theorem row_w0 (F : gF) (w k : Nat) (v : Int32) : row (wr F 0 k v) w = row F w := by
  funext j; simp [row, wr]
theorem wr_o {F : gF} {k j : Nat} {v : Int32} (h : j ≠ k) : (wr F 0 k v) 0 j = F 0 j := by simp [wr, upd, h]
theorem wr_b {F : gF} {a k : Nat} {v : Int32} (h : a ≠ 0) : (wr F 0 k v) a = F a := by simp [wr, h]
theorem JJ.t {V : gX} {F : gF} (t : Int32) (h : JJ V F) : JJ V (wr F 0 0 t) := by
  obtain ⟨⟨w, h1, h2, u, x, q1, q2, q3, q4, q5, q6⟩, h3, f, f1, f2, f3, f4⟩ := h
  refine ⟨⟨w, h1.w0 (by decide), ?_, u, x, q1, q2, ?_, q4, q5, ?_⟩, ?_, f, f1, ?_, f3, ?_⟩
  · rw [row_w0]; exact h2
  · rw [wr_o (by decide)]; exact q3
  · intro j hj; rw [row_w0]; exact q6 j hj
  · rw [wr_o (by decide)]; exact h3
  · rw [wr_o (by decide)]; exact f2
  · intro j hj; rw [wr_b (by decide)]; exact f4 j hj
theorem wr_wr (F : gF) (a k : Nat) (v v' : Int32) : wr (wr F a k v) a k v' = wr F a k v' := by
  funext i j
  unfold wr
  by_cases h : i = a
  · simp only [h, if_true, upd]
    by_cases hj : j = k
    · simp [hj]
    · simp [hj]
  · simp [h]
theorem wr_i (F : gF) (a k : Nat) (v : Int32) : (wr F a k v) a k = v := by simp [wr, upd]
theorem right0 (F : gF) {t : Int32} (ht : t ≠ 0) : dnX5_right (wr F 0 0 0) 0 t = some (0, wr F 0 0 t) := by
  unfold dnX5_right
  rw [if_pos (wr_i ..), if_pos rfl, bw_s, wr_wr, wr_i, if_neg ht]
theorem right1 (F : gF) (t : Int32) : dnX5_right (wr F 0 0 0) 1 t = some (1, wr F 0 0 0) := by
  unfold dnX5_right
  rw [if_pos (wr_i ..), if_neg (by decide)]
theorem pl_em {n : Nat} (hn : n ≤ 40) (x : Int32) : (∃ p : Nat, p < n ∧ x = nI p) ∨ (x < 0 ∨ nI n ≤ x) := by
  by_cases h0 : x < 0
  · exact Or.inr (Or.inl h0)
  · obtain ⟨j, hj, rfl⟩ := nI_of h0
    by_cases hjn : j < n
    · exact Or.inl ⟨j, hjn, rfl⟩
    · exact Or.inr (Or.inr ((nI_leI (by omega) hj).mpr (by omega)))
theorem isAmong_ (x : Int64) {p : Nat} (hp : p < 64) : dnX4_isAmong x (nI p) = some (if wb x p = true then 1 else 0) := by
  have e : ((nI p).toInt64.toUInt64 &&& Int64.toUInt64 63) = UInt64.ofNat p := by
    have hq : ∀ p : Nat, p < 64 → ((nI p).toInt64.toUInt64 &&& Int64.toUInt64 63) = UInt64.ofNat p := by decide
    exact hq p hp
  unfold dnX4_isAmong
  rw [e]
  have hb : (((x.toUInt64 >>> UInt64.ofNat p).toInt64 &&& 1) = 0) ↔ ¬ wb x p = true := by
    rw [← Int64.toBitVec_inj]
    have e2 : ((x.toUInt64 >>> UInt64.ofNat p).toInt64 &&& 1).toBitVec = (x.toBitVec >>> p) &&& 1#64 := by
      show (x.toBitVec >>> (UInt64.ofNat p % 64).toBitVec.toNat) &&& 1#64 = _
      have : (UInt64.ofNat p % 64).toBitVec.toNat = p := by
        have hq : ∀ p : Nat, p < 64 → (UInt64.ofNat p % 64).toBitVec.toNat = p := by decide
        exact hq p hp
      rw [this]
    rw [e2]
    constructor
    · intro h hw
      have := congrArg (fun b => b.getLsbD 0) h
      simp [wb] at this hw
      rw [hw] at this; cases this
    · intro h
      apply BitVec.eq_of_getLsbD_eq
      intro i hi
      simp only [BitVec.getLsbD_and, BitVec.getLsbD_ushiftRight]
      by_cases h0 : i = 0
      · subst h0; simp [wb] at h; simp [h]
      · simp [BitVec.getLsbD_one, h0]
  have hc : ∀ a : Int64, (lg_cmp a 0 = 0) ↔ a = 0 := by
    intro a
    unfold lg_cmp
    by_cases h1 : a > 0
    · rw [if_pos h1]
      constructor
      · intro h; exact absurd h (by decide)
      · intro h; subst h; exact absurd h1 (by decide)
    · rw [if_neg h1]
      by_cases h2 : a = 0
      · simp [h2]
      · simp [h2]
  by_cases hw : wb x p = true
  · rw [if_pos hw, if_neg (fun h => (hb.mp ((hc _).mp h)) hw)]
  · rw [if_neg hw, if_pos ((hc _).mpr (hb.mpr hw))]
