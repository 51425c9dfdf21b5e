/-! levels, how many cells, whether any waits -/
def lgl (r : Nat) : Nat := if r < 2 then 0 else if r < 4 then 1 else if r < 8 then 2 else if r < 16 then 3 else if r < 32 then 4 else 5
theorem lgl_b : ∀ r : Nat, r < 41 → 1 ≤ r → lgl r < 6 ∧ 2 ^ lgl r ≤ r ∧ r < 2 ^ (lgl r + 1) := by decide
theorem lv_any (F F' : gF) (x : Int32) : ∀ (N : Nat) (k : Int32), lpX5_levelOf_2 F x N k = lpX5_levelOf_2 F' x N k := by
  intro N
  induction N with
  | zero => intro k; rfl
  | succ N ih =>
    intro k
    unfold lpX5_levelOf_2
    rw [ih]
theorem lvM (F : gF) : ∀ r : Nat, r < 41 → 1 ≤ r → dnX5_levelOf F (nI r) = some (nI (lgl r)) := by
  have h0 : ∀ r : Nat, r < 41 → 1 ≤ r → dnX5_levelOf (fun _ _ => 0) (nI r) = some (nI (lgl r)) := by decide +kernel
  intro r h1 h2
  rw [← h0 r h1 h2]
  unfold dnX5_levelOf
  rw [lv_any F (fun _ _ => 0)]
theorem lvC : ∀ r : Nat, r < 41 → 1 ≤ r → dnX4_greatestLevel (nI r) = some (nI (lgl r)) := by decide +kernel
theorem levelsM {F : gF} {w n : Nat} (h : MS F w) (h0 : row F w 0 = nI n) (h1 : 1 ≤ n) (hn : n ≤ 40) : dnX5_levels F = some (nI (lgl n + 1)) := by
  obtain ⟨l6, lo, hi⟩ := lgl_b n (by omega) h1
  have K : ∀ (N l : Nat), 1 ≤ l → l ≤ lgl n + 1 → lgl n + 1 < N + l → lpX5_levels_2 F N (nI l) = some (0, nI (lgl n + 1)) := by
    intro N
    induction N with
    | zero => intro l q0 q1 q2; omega
    | succ N ih =>
      intro l q0 q1 q2
      unfold lpX5_levels_2
      by_cases h5 : 5 < l
      · rw [if_pos (show (5 : Int32) < nI l from nI_lt (a := 5) h5 (by omega)), show l = lgl n + 1 by omega]
      · rw [if_neg (show ¬ (5 : Int32) < nI l from nI_nlt (b := l) (a := 5) (by omega) (by omega)), cellsM h h0 hn (by omega), bp_s]
        by_cases hl : l = lgl n + 1
        · have e : n + 1 - 2 ^ l = 0 := by rw [hl]; omega
          rw [e, if_pos (show nI 0 ≤ 0 from Int32.le_refl _), hl]
        · have hp2 := pw (show l < 6 by omega)
          have e : 2 ^ l ≤ n := Nat.le_trans (Nat.pow_le_pow_right (by decide) (show l ≤ lgl n by omega)) lo
          rw [if_neg (show ¬ nI (n + 1 - 2 ^ l) ≤ 0 from nI_nle (by omega) (by omega)), nI_1]
          exact ih (l + 1) (by omega) (by omega) (by omega)
  unfold dnX5_levels
  rw [show lpX5_levels_2 F FU 1 = _ from K FU 1 (by decide) (by omega) (by unfold FU; omega), bp_s]
theorem allcells_b {V : gX} {F : gF} {w n kc : Nat} (hM : MS F w) (hW : WF (row F w) n kc) (hR : RR V.2.1 (row F w) n kc) : ∃ r : Nat, r ≤ 200 ∧ dnX1_cellCount V.2.1 = some (nI r) ∧ dnX5_allCells F = some (nI r) := by
  have n40 := hW.1.2.1
  have hn3 : V.2.1.1 0 3 = nI n := hR.1.1.trans hW.1.2.2
  have K : ∀ (N l x : Nat), 1 ≤ l → l ≤ 6 → 6 < N + l → x ≤ 40 * (l - 1) → ∃ r : Nat, r ≤ 200 ∧ lpX1_cellCount_4 V.2.1 N (nI x) (nI l) = some (0, nI r) ∧ lpX5_allCells_4 F N (nI x) (nI l) = some (0, nI r) := by
    intro N
    induction N with
    | zero => intro l x q0 q1 q2; omega
    | succ N ih =>
      intro l x q0 q1 q2 q3
      unfold lpX1_cellCount_4 lpX5_allCells_4
      by_cases h6 : 6 ≤ l
      · rw [if_pos (show (6 : Int32) ≤ nI l from nI_le (a := 6) h6 (by omega)), if_pos (show (5 : Int32) < nI l from nI_lt (a := 5) (by omega) (by omega))]
        exact ⟨x, by omega, rfl, rfl⟩
      · have hp := pw (show l < 6 by omega)
        rw [if_neg (show ¬ (6 : Int32) ≤ nI l from nI_ge (b := 6) (by omega) (by omega)), if_neg (show ¬ (5 : Int32) < nI l from nI_nlt (b := l) (a := 5) (by omega) (by omega)), cellsC hn3 n40 (by omega), cellsM hM hW.1.2.2 n40 (by omega), bp_s, bp_s, nI_add, nI_1]
        exact ih (l + 1) _ (by omega) (by omega) (by omega) (by omega)
  obtain ⟨r, hr, e1, e2⟩ := K FU 1 0 (by omega) (by omega) (by unfold FU; omega) (by omega)
  refine ⟨r, hr, ?_, ?_⟩
  · unfold dnX1_cellCount
    rw [show lpX1_cellCount_4 V.2.1 FU 0 1 = _ from e1, bp_s]
  · unfold dnX5_allCells
    rw [show lpX5_allCells_4 F FU 0 1 = _ from e2, bp_s]
theorem lg_cmp0 (a : Int64) : (lg_cmp a 0 = 0) ↔ a = 0 := by
  unfold lg_cmp
  by_cases h1 : a > 0
  · rw [if_pos h1]
    constructor
    · intro h; exact absurd h (by decide)
    · intro h; subst h; exact absurd h1 (by decide)
  · rw [if_neg h1]
    by_cases h2 : a = 0
    · simp [h2]
    · simp [h2]
theorem none_w {G : gR} {g : Nat → Int32} {n kc : Nat} (hW : WF g n kc) (hR : RR G g n kc) : G.2 = 0 ↔ wc g n = 0 := by
  have n40 := hW.1.2.1
  constructor
  · intro h
    refine wc_0 n (fun p hp => ?_)
    rcases hW.2.2.2.2.1.1 p (by omega) with e | e
    · exact e
    · have := (hR.2.2.2.1 p (by omega)).mpr ⟨by omega, e⟩
      rw [h] at this
      simp [wb] at this
  · intro h
    apply Int64.toBitVec_inj.mp
    apply BitVec.eq_of_getLsbD_eq
    intro p hp
    have hb : wb G.2 p = false := by
      cases hq : wb G.2 p with
      | false => rfl
      | true =>
        obtain ⟨p40, e⟩ := (hR.2.2.2.1 p hp).mp hq
        by_cases hpn : p < n
        · have := wc_p n p hpn e; omega
        · rw [hW.2.2.2.2.1.2.1 p (by omega) p40] at e; cases e
    show wb G.2 p = (0#64).getLsbD p
    rw [hb]; simp