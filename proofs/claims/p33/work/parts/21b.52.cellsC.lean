/-! the class writes cells -/
def CJ (G G' : gR) (g : Nat → Int32) (n c : Nat) (P : Nat → Nat → Prop) : Prop :=
  (∀ k : Nat, k ≠ 8 → G'.1 0 k = G.1 0 k) ∧ G'.1 0 8 = G.1 0 8 + nI c ∧ (∀ b : Nat, b ≠ 0 → b ≠ 2 → G'.1 b = G.1 b) ∧ G'.2 = G.2 ∧
  (∀ l p : Nat, 1 ≤ l → l ≤ 5 → p + 2 ^ l ≤ n → P l p → G'.1 2 (40 * l + p) = nI (lm g p (2 ^ l - 1)))
theorem CJ.mono {G G' : gR} {g : Nat → Int32} {n c : Nat} {P P' : Nat → Nat → Prop} (h : CJ G G' g n c P) (hp : ∀ l p : Nat, 1 ≤ l → l ≤ 5 → p + 2 ^ l ≤ n → P' l p → P l p) : CJ G G' g n c P' :=
  ⟨h.1, h.2.1, h.2.2.1, h.2.2.2.1, fun l p h1 h2 h3 h4 => h.2.2.2.2 l p h1 h2 h3 (hp l p h1 h2 h3 h4)⟩
theorem CJ.w {G G' : gR} {g : Nat → Int32} {n c l p : Nat} {P : Nat → Nat → Prop} (h : CJ G G' g n c P) (hn : n ≤ 40) (h1 : 1 ≤ l) (h5 : l ≤ 5) (hp : p + 2 ^ l ≤ n) : CJ G (wR (wR G' 2 (40 * l + p) (nI (lm g p (2 ^ l - 1)))) 0 8 ((wR G' 2 (40 * l + p) (nI (lm g p (2 ^ l - 1)))).1 0 8 + 1)) g n (c + 1) (fun l' p' => (l' = l ∧ p' = p) ∨ P l' p') := by
  have hw := pw (show l < 6 by omega)
  refine ⟨fun k hk => ?_, ?_, fun b hb1 hb2 => ?_, h.2.2.2.1, fun l' p' q1 q2 q3 q4 => ?_⟩
  · simp only [wR, wr, upd, if_true]
    rw [if_neg hk, if_neg (by omega)]
    exact h.1 k hk
  · simp only [wR, wr, upd, if_true]
    rw [if_neg (by omega), h.2.1, Int32.add_assoc, nI_1]
  · simp only [wR, wr]
    rw [if_neg hb1, if_neg hb2]
    exact h.2.2.1 b hb1 hb2
  · have hw' := pw (show l' < 6 by omega)
    simp only [wR, wr, upd]
    rw [if_neg (by omega), if_pos trivial]
    by_cases e : l' = l ∧ p' = p
    · obtain ⟨rfl, rfl⟩ := e
      simp only [upd, if_true]
    · simp only [upd]
      rw [if_neg (by omega)]
      exact h.2.2.2.2 l' p' q1 q2 q3 (q4.resolve_left e)
theorem cellE {G : gR} {g : Nat → Int32} {n l p : Nat} (hn : n ≤ 40) (hl : l < 6) (hp : p + 2 ^ l ≤ n) (hE : 1 ≤ l → G.1 2 (40 * l + p) = nI (lm g p (2 ^ l - 1))) : dnX1_cellAt G (nI l) (nI p) = some (nI (lm g p (2 ^ l - 1))) := by
  have hw := pw hl
  rw [cellC hl (by omega)]
  by_cases h0 : l = 0
  · subst h0; rw [if_pos rfl]; rfl
  · rw [if_neg h0, hE (by omega)]
theorem wc30 {G : gR} {g : Nat → Int32} {n l a b h : Nat} {x1 x2 : Int32} (h0 : G.1 0 3 = nI n) (hn : n ≤ 40) (h1 : 1 ≤ l) (h5 : l ≤ 5) (hV : ∀ p : Nat, p < n → G.1 1 p = g (12 + p)) (hh : h + 2 ^ l ≤ n) (hb : ∀ p' : Nat, p' + 2 ^ l ≤ n → p' ≤ b → p' ≤ h) : ∀ (N p c : Nat) (G' : gR), p ≤ h + 1 → h + 1 < N + p → CJ G G' g n c (fun l' p' => l' < l ∨ (l' = l ∧ p' < p) ∨ (p' + 2 ^ l' ≤ a ∨ b < p')) → ∃ G'' : gR, lpX1_writeCellsOver_30 x1 x2 (nI l) (nI (2 ^ (l - 1))) (nI h) N (nI p) G' = some (0, G'') ∧ CJ G G'' g n (c + (h + 1 - p)) (fun l' p' => l' < l + 1 ∨ (p' + 2 ^ l' ≤ a ∨ b < p')) := by
  have hw := pw (show l < 6 by omega)
  have hw2 := pw (show l - 1 < 6 by omega)
  have e2 : 2 ^ l = 2 ^ (l - 1) + 2 ^ (l - 1) := by
    rw [show l = l - 1 + 1 by omega, Nat.pow_succ, Nat.add_sub_cancel]; omega
  intro N
  induction N with
  | zero => intro p c G' q1 q2; omega
  | succ N ih =>
    intro p c G' q1 q2 hC
    unfold lpX1_writeCellsOver_30
    by_cases hp : h < p
    · rw [if_pos (nI_lt hp (by omega))]
      refine ⟨G', rfl, ?_⟩
      rw [show c + (h + 1 - p) = c by omega]
      exact hC.mono (fun l' p' k1 k2 k3 k4 => by
        rcases k4 with k | k
        · by_cases e : l' = l
          · subst e
            by_cases hpb : p' ≤ b
            · exact Or.inr (Or.inl ⟨rfl, by have := hb p' k3 hpb; omega⟩)
            · exact Or.inr (Or.inr (Or.inr (by omega)))
          · exact Or.inl (by omega)
        · exact Or.inr (Or.inr k))
    · have hV' : ∀ q : Nat, q < n → G'.1 1 q = g (12 + q) := fun q hq => by rw [hC.2.2.1 1 (by decide) (by decide)]; exact hV q hq
      have hE : ∀ q : Nat, q + 2 ^ (l - 1) ≤ n → 1 ≤ l - 1 → G'.1 2 (40 * (l - 1) + q) = nI (lm g q (2 ^ (l - 1) - 1)) := fun q k1 k2 => hC.2.2.2.2 (l - 1) q k2 (by omega) k1 (Or.inl (by omega))
      have b1 := lm_b g p (2 ^ (l - 1) - 1)
      have b2 := lm_b g (p + 2 ^ (l - 1)) (2 ^ (l - 1) - 1)
      rw [if_neg (nI_nlt (by omega) (by omega)), show (40 : Int32) = nI 40 from rfl, nI_mul, nI_add, if_neg (nI_pos (by omega)), if_neg (show ¬ (240 : Int32) ≤ nI (l * 40 + p) from nI_ge (b := 240) (by omega) (by decide)), show nI l - 1 = nI (l - 1) from nI_sub (b := 1) h1, cellE hn (by omega) (by omega) (hE p (by omega)), bp_s, nI_add, cellE hn (by omega) (by omega) (hE (p + 2 ^ (l - 1)) (by omega)), bp_s, lesC' hV' hn (by omega) (by omega), lm_half h1 (by omega), bp_s, wi_ok (by omega) (by decide), bw_s, bw_s, nI_1, show l * 40 + p = 40 * l + p by omega]
      obtain ⟨G'', e, hC2⟩ := ih (p + 1) (c + 1) _ (by omega) (by omega) ((hC.w hn h1 h5 (p := p) (by omega)).mono (fun l' p' k1 k2 k3 k4 => by
        rcases k4 with k | ⟨k, k'⟩ | k
        · exact Or.inr (Or.inl k)
        · by_cases e : p' = p
          · exact Or.inl ⟨k, e⟩
          · exact Or.inr (Or.inr (Or.inl ⟨k, by omega⟩))
        · exact Or.inr (Or.inr (Or.inr k))))
      refine ⟨G'', e, ?_⟩
      rw [show c + (h + 1 - p) = c + 1 + (h + 1 - (p + 1)) by omega]
      exact hC2
/-- how many cells on level l tell of some place from a to b -/
def ov (n a b l : Nat) : Nat := min (b + 1) (n + 1 - 2 ^ l) - (a + 1 - 2 ^ l)
theorem sub_neg2 {a b : Nat} (h : a < b) (hb : b < 1000) : nI a - nI b < 0 := by
  rw [Int32.lt_iff_toInt_lt, Int32.toInt_sub, nI_toInt (by omega), nI_toInt (by omega), show (0 : Int32).toInt = 0 from by decide, Int.bmod_def]
  split <;> omega
theorem firstC {l a : Nat} (hl : l < 6) (ha : a < 41) : dnX4_firstCellOver (nI l) (nI a) = some (nI (a + 1 - 2 ^ l)) := by
  have hw := pw hl
  unfold dnX4_firstCellOver
  rw [sh1 hl, cnt_ (by omega) (by omega)]
theorem lastC {G : gR} {n l b : Nat} (h0 : G.1 0 3 = nI n) (hn : n ≤ 40) (hl : l < 6) (hb : b < 41) : dnX1_lastCellOver G (nI l) (nI b) = some (if 2 ^ l ≤ n then nI (min b (n - 2 ^ l)) else nI n - nI (2 ^ l)) := by
  have hw := pw hl
  unfold dnX1_lastCellOver
  rw [h0, sh1 hl]
  by_cases h : 2 ^ l ≤ n
  · rw [if_pos h, nI_sub h]
    by_cases h2 : n - 2 ^ l < b
    · rw [if_pos (nI_lt h2 (by omega)), Nat.min_eq_right (by omega)]
    · rw [if_neg (nI_nlt (by omega) (by omega)), Nat.min_eq_left (by omega)]
  · rw [if_neg h, if_pos (Int32.lt_of_lt_of_le (sub_neg2 (by omega) (by omega)) (nI_pos' (by omega)))]
theorem wc2 {G : gR} {g : Nat → Int32} {n a b : Nat} (h0 : G.1 0 3 = nI n) (hn : n ≤ 40) (hV : ∀ p : Nat, p < n → G.1 1 p = g (12 + p)) (hab : a ≤ b) (hb : b < n) : ∀ (N l c : Nat) (G' : gR), 1 ≤ l → l ≤ 6 → 6 < N + l → CJ G G' g n c (fun l' p' => l' < l ∨ (p' + 2 ^ l' ≤ a ∨ b < p')) → ∃ G'' : gR, lpX1_writeCellsOver_2 (nI a) (nI b) N (nI l) G' = some (0, G'') ∧ CJ G G'' g n (c + cs (ov n a b) (6 - l)) (fun _ _ => True) := by
  intro N
  induction N with
  | zero => intro l c G' q0 q1 q2; omega
  | succ N ih =>
    intro l c G' q0 q1 q2 hC
    unfold lpX1_writeCellsOver_2
    by_cases hl : 6 ≤ l
    · rw [if_pos (show (6 : Int32) ≤ nI l from nI_le (a := 6) (by omega) (by omega))]
      refine ⟨G', rfl, ?_⟩
      rw [show 6 - l = 0 by omega]
      exact hC.mono (fun l' p' k1 k2 k3 k4 => Or.inl (by omega))
    · have hw := pw (show l < 6 by omega)
      have h0' : G'.1 0 3 = nI n := by rw [hC.1 3 (by decide)]; exact h0
      rw [if_neg (show ¬ (6 : Int32) ≤ nI l from nI_ge (b := 6) (by omega) (by omega)), lastC h0' hn (by omega) (by omega), bp_s, firstC (by omega) (by omega), bp_s, show nI l - 1 = nI (l - 1) from nI_sub (b := 1) q0, sh1 (show l - 1 < 6 by omega)]
      have K : ∃ G1 : gR, lpX1_writeCellsOver_30 (nI a) (nI b) (nI l) (nI (2 ^ (l - 1))) (if 2 ^ l ≤ n then nI (min b (n - 2 ^ l)) else nI n - nI (2 ^ l)) FU (nI (a + 1 - 2 ^ l)) G' = some (0, G1) ∧ CJ G G1 g n (c + ov n a b l) (fun l' p' => l' < l + 1 ∨ (p' + 2 ^ l' ≤ a ∨ b < p')) := by
        by_cases h : 2 ^ l ≤ n
        · rw [if_pos h]
          obtain ⟨G1, e1, hC1⟩ := wc30 (x1 := nI a) (x2 := nI b) (h := min b (n - 2 ^ l)) (a := a) (b := b) h0 hn q0 (show l ≤ 5 by omega) hV (by omega) (fun p' k1 k2 => by omega) FU (a + 1 - 2 ^ l) c G' (by omega) (by unfold FU; omega) (hC.mono (fun l' p' k1 k2 k3 k4 => by
            rcases k4 with k | ⟨k, k'⟩ | k
            · exact Or.inl k
            · subst k; exact Or.inr (Or.inl (by omega))
            · exact Or.inr k))
          refine ⟨G1, e1, ?_⟩
          unfold ov
          rw [show min (b + 1) (n + 1 - 2 ^ l) - (a + 1 - 2 ^ l) = min b (n - 2 ^ l) + 1 - (a + 1 - 2 ^ l) by omega]
          exact hC1
        · rw [if_neg h, show FU = (FU - 1) + 1 from rfl]
          unfold lpX1_writeCellsOver_30
          rw [if_pos (Int32.lt_of_lt_of_le (sub_neg2 (by omega) (by omega)) (nI_pos' (by omega)))]
          refine ⟨G', rfl, ?_⟩
          unfold ov
          rw [show c + (min (b + 1) (n + 1 - 2 ^ l) - (a + 1 - 2 ^ l)) = c by omega]
          exact hC.mono (fun l' p' k1 k2 k3 k4 => by
            rcases k4 with k | k
            · by_cases e : l' = l
              · subst e; omega
              · exact Or.inl (by omega)
            · exact Or.inr k)
      obtain ⟨G1, e1, hC1⟩ := K
      rw [e1, bp_s, nI_1]
      obtain ⟨G2, e2, hC2⟩ := ih (l + 1) _ G1 (by omega) (by omega) (by omega) hC1
      refine ⟨G2, e2, ?_⟩
      rw [show 6 - l = (6 - (l + 1)) + 1 by omega, cs, show 5 - (6 - (l + 1)) = l by omega, ← Nat.add_assoc]
      exact hC2
theorem writeCellsC {G : gR} {g : Nat → Int32} {n a b : Nat} (h0 : G.1 0 3 = nI n) (hn : n ≤ 40) (hV : ∀ p : Nat, p < n → G.1 1 p = g (12 + p)) (hab : a ≤ b) (hb : b < n) (hR : ∀ l p : Nat, 1 ≤ l → l ≤ 5 → p + 2 ^ l ≤ n → (p + 2 ^ l ≤ a ∨ b < p) → G.1 2 (40 * l + p) = nI (lm g p (2 ^ l - 1))) : ∃ G' : gR, dnX1_writeCellsOver G (nI a) (nI b) = some G' ∧ CJ G G' g n (cs (ov n a b) 5) (fun _ _ => True) := by
  obtain ⟨G', e, hC⟩ := wc2 h0 hn hV hab hb FU 1 0 G (by decide) (by decide) (by unfold FU; omega) ⟨fun k _ => rfl, by rw [show nI 0 = 0 from rfl, Int32.add_zero], fun b _ _ => rfl, rfl, fun l p k1 k2 k3 k4 => hR l p k1 k2 k3 (k4.resolve_left (by omega))⟩
  refine ⟨G', ?_, ?_⟩
  · unfold dnX1_writeCellsOver
    rw [show lpX1_writeCellsOver_2 (nI a) (nI b) FU 1 G = _ from e, bp_s]
  · rw [Nat.zero_add] at hC
    exact hC
/-- what buildAll does to a row -/
def BC (G G' : gR) (g : Nat → Int32) (n : Nat) : Prop :=
  (∀ k : Nat, k ≠ 8 → k ≠ 10 → G'.1 0 k = G.1 0 k) ∧ G'.1 0 8 = G.1 0 8 + nI (cs (fun l => n + 1 - 2 ^ l) 5) ∧ G'.1 0 10 = G.1 0 10 + 1 ∧ (∀ b : Nat, b ≠ 0 → b ≠ 2 → G'.1 b = G.1 b) ∧ G'.2 = 0 ∧
  (∀ l p : Nat, 1 ≤ l → l ≤ 5 → p + 2 ^ l ≤ n → G'.1 2 (40 * l + p) = nI (lm g p (2 ^ l - 1)))
theorem buildAllC {G : gR} {g : Nat → Int32} {n : Nat} (h0 : G.1 0 3 = nI n) (h1 : 1 ≤ n) (hn : n ≤ 40) (hV : ∀ p : Nat, p < n → G.1 1 p = g (12 + p)) : ∃ G' : gR, dnX1_buildAll G = some G' ∧ BC G G' g n := by
  obtain ⟨G1, e, hC⟩ := writeCellsC (a := 0) (b := n - 1) h0 hn hV (by omega) (by omega) (fun l p k1 k2 k3 k4 => by have := pw (show l < 6 by omega); omega)
  refine ⟨wR (wL G1 0) 0 10 ((wL G1 0).1 0 10 + 1), ?_, ?_⟩
  · unfold dnX1_buildAll
    rw [h0, show nI n - 1 = nI (n - 1) from nI_sub (b := 1) h1, show (0 : Int32) = nI 0 from rfl, e, bp_s, bw_s, bw_s]
  · refine ⟨fun k k1 k2 => ?_, ?_, ?_, fun b k1 k2 => ?_, rfl, fun l p k1 k2 k3 => ?_⟩
    · simp only [wR, wL, wr, upd, if_true]
      rw [if_neg k2]
      exact hC.1 k k1
    · simp only [wR, wL, wr, upd, if_true]
      rw [if_neg (by decide), hC.2.1, cs_cg (f' := fun l => n + 1 - 2 ^ l) (fun l q1 q2 => by have := pw (show l < 6 by omega); unfold ov; omega) 5 (by decide)]
    · simp only [wR, wL, wr, upd, if_true]
      rw [hC.1 10 (by decide)]
    · simp only [wR, wL, wr]
      rw [if_neg k1]
      exact hC.2.2.1 b k1 k2
    · simp only [wR, wL, wr]
      rw [if_neg (by decide)]
      exact hC.2.2.2.2 l p k1 k2 k3 trivial
