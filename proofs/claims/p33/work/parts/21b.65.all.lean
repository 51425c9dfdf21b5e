/-! sweep; what is read of all -/
theorem JJ.cg {V : gX} {F F' : gF} (h : JJ V F) (e : ∀ a : Nat, a ≠ 5 → F' a = F a) : JJ V F' := by
  obtain ⟨⟨w, h1, ⟨n, kc, h2, h3⟩, u, x, q1, q2, q3, q4, q5, q6⟩, h4, f, f1, f2, f3, f4⟩ := h
  have er : ∀ w : Nat, row F' w = row F w := fun w => by funext k; unfold row; rw [e 1 (by decide)]
  refine ⟨⟨w, ⟨by rw [e 0 (by decide)]; exact h1.1, h1.2⟩, ⟨n, kc, by rw [er]; exact h2, by rw [er]; exact h3⟩, u, x, q1, q2, by rw [e 0 (by decide)]; exact q3, q4, q5, fun j hj => ?_⟩, by rw [e 0 (by decide)]; exact h4, f, f1, by rw [e 0 (by decide)]; exact f2, f3, fun j hj => by rw [e 4 (by decide)]; exact f4 j hj⟩
  obtain ⟨n1, kc1, p1, p2⟩ := q6 j hj
  exact ⟨n1, kc1, by rw [er]; exact p1, by rw [er]; exact p2⟩
theorem told_b {V : gX} {F : gF} {w n kc : Nat} (hM : MS F w) (hW : WF (row F w) n kc) (hR : RR V.2.1 (row F w) n kc) (m : Nat) (hm : m ≤ 10) : ∃ r : Int32, dnX4_numberOfState V (nI m) = some r ∧ dnX5_toldOf F (nI m) = some r := by
  obtain ⟨⟨n1, n40, hn⟩, -⟩ := id hW
  have hc : V.2.1.1 0 3 = nI n := hR.1.1.trans hn
  match m, hm with
  | 0, _ =>
    refine ⟨row F w 0, ?_, ?_⟩
    · unfold dnX4_numberOfState
      rw [if_pos (show nI 0 = 0 from rfl), hR.1.1]
    · unfold dnX5_toldOf
      rw [if_neg (show ¬ nI 0 = 3 by decide), if_neg (show ¬ nI 0 = 4 by decide), if_neg (show ¬ nI 0 = 5 by decide), getr hM (by decide), bp_s]
  | 1, _ =>
    refine ⟨row F w 1, ?_, ?_⟩
    · unfold dnX4_numberOfState
      rw [if_neg (show ¬ nI 1 = 0 by decide), if_pos (show nI 1 = 1 from rfl), hR.1.2.1]
    · unfold dnX5_toldOf
      rw [if_neg (show ¬ nI 1 = 3 by decide), if_neg (show ¬ nI 1 = 4 by decide), if_neg (show ¬ nI 1 = 5 by decide), getr hM (by decide), bp_s]
  | 2, _ =>
    refine ⟨row F w 2, ?_, ?_⟩
    · unfold dnX4_numberOfState
      rw [if_neg (show ¬ nI 2 = 0 by decide), if_neg (show ¬ nI 2 = 1 by decide), if_pos (show nI 2 = 2 from rfl), hR.1.2.2.1]
    · unfold dnX5_toldOf
      rw [if_neg (show ¬ nI 2 = 3 by decide), if_neg (show ¬ nI 2 = 4 by decide), if_neg (show ¬ nI 2 = 5 by decide), getr hM (by decide), bp_s]
  | 3, _ =>
    refine ⟨nI (lgl n + 1), ?_, ?_⟩
    · unfold dnX4_numberOfState
      rw [if_neg (show ¬ nI 3 = 0 by decide), if_neg (show ¬ nI 3 = 1 by decide), if_neg (show ¬ nI 3 = 2 by decide), if_pos (show nI 3 = 3 from rfl), hc, lvC n (by omega) n1, bp_s, nI_1]
    · unfold dnX5_toldOf
      rw [if_pos (show nI 3 = 3 from rfl), levelsM hM hn n1 n40, bp_s]
  | 4, _ =>
    obtain ⟨r, -, e4, e5⟩ := allcells_b hM hW hR
    refine ⟨nI r, ?_, ?_⟩
    · unfold dnX4_numberOfState
      rw [if_neg (show ¬ nI 4 = 0 by decide), if_neg (show ¬ nI 4 = 1 by decide), if_neg (show ¬ nI 4 = 2 by decide), if_neg (show ¬ nI 4 = 3 by decide), if_pos (show nI 4 = 4 from rfl), e4, bp_s]
    · unfold dnX5_toldOf
      rw [if_neg (show ¬ nI 4 = 3 by decide), if_pos (show nI 4 = 4 from rfl), e5, bp_s]
  | 5, _ =>
    refine ⟨nI (wc (row F w) n), ?_, ?_⟩
    · unfold dnX4_numberOfState
      rw [if_neg (show ¬ nI 5 = 0 by decide), if_neg (show ¬ nI 5 = 1 by decide), if_neg (show ¬ nI 5 = 2 by decide), if_neg (show ¬ nI 5 = 3 by decide), if_neg (show ¬ nI 5 = 4 by decide), if_pos (show nI 5 = 5 from rfl), bitW n40 hR.2.2.2.1 (fun p k1 k2 => by rw [hW.2.2.2.2.1.2.1 p k1 k2]; decide), bp_s]
    · unfold dnX5_toldOf
      rw [if_neg (show ¬ nI 5 = 3 by decide), if_neg (show ¬ nI 5 = 4 by decide), if_pos (show nI 5 = 5 from rfl), waitingM hM hW, bp_s]
  | 6, _ =>
    refine ⟨row F w 6, ?_, ?_⟩
    · unfold dnX4_numberOfState
      rw [if_neg (show ¬ nI 6 = 0 by decide), if_neg (show ¬ nI 6 = 1 by decide), if_neg (show ¬ nI 6 = 2 by decide), if_neg (show ¬ nI 6 = 3 by decide), if_neg (show ¬ nI 6 = 4 by decide), if_neg (show ¬ nI 6 = 5 by decide), if_pos (show nI 6 = 6 from rfl), hR.1.2.2.2.2.2.2.2]
    · unfold dnX5_toldOf
      rw [if_neg (show ¬ nI 6 = 3 by decide), if_neg (show ¬ nI 6 = 4 by decide), if_neg (show ¬ nI 6 = 5 by decide), getr hM (by decide), bp_s]
  | 7, _ =>
    refine ⟨row F w 7, ?_, ?_⟩
    · unfold dnX4_numberOfState
      rw [if_neg (show ¬ nI 7 = 0 by decide), if_neg (show ¬ nI 7 = 1 by decide), if_neg (show ¬ nI 7 = 2 by decide), if_neg (show ¬ nI 7 = 3 by decide), if_neg (show ¬ nI 7 = 4 by decide), if_neg (show ¬ nI 7 = 5 by decide), if_neg (show ¬ nI 7 = 6 by decide), if_pos (show nI 7 = 7 from rfl), hR.1.2.2.2.1]
    · unfold dnX5_toldOf
      rw [if_neg (show ¬ nI 7 = 3 by decide), if_neg (show ¬ nI 7 = 4 by decide), if_neg (show ¬ nI 7 = 5 by decide), getr hM (by decide), bp_s]
  | 8, _ =>
    refine ⟨row F w 8, ?_, ?_⟩
    · unfold dnX4_numberOfState
      rw [if_neg (show ¬ nI 8 = 0 by decide), if_neg (show ¬ nI 8 = 1 by decide), if_neg (show ¬ nI 8 = 2 by decide), if_neg (show ¬ nI 8 = 3 by decide), if_neg (show ¬ nI 8 = 4 by decide), if_neg (show ¬ nI 8 = 5 by decide), if_neg (show ¬ nI 8 = 6 by decide), if_neg (show ¬ nI 8 = 7 by decide), if_pos (show nI 8 = 8 from rfl), hR.1.2.2.2.2.1]
    · unfold dnX5_toldOf
      rw [if_neg (show ¬ nI 8 = 3 by decide), if_neg (show ¬ nI 8 = 4 by decide), if_neg (show ¬ nI 8 = 5 by decide), getr hM (by decide), bp_s]
  | 9, _ =>
    refine ⟨row F w 9, ?_, ?_⟩
    · unfold dnX4_numberOfState
      rw [if_neg (show ¬ nI 9 = 0 by decide), if_neg (show ¬ nI 9 = 1 by decide), if_neg (show ¬ nI 9 = 2 by decide), if_neg (show ¬ nI 9 = 3 by decide), if_neg (show ¬ nI 9 = 4 by decide), if_neg (show ¬ nI 9 = 5 by decide), if_neg (show ¬ nI 9 = 6 by decide), if_neg (show ¬ nI 9 = 7 by decide), if_neg (show ¬ nI 9 = 8 by decide), if_pos (show nI 9 = 9 from rfl), hR.1.2.2.2.2.2.1]
    · unfold dnX5_toldOf
      rw [if_neg (show ¬ nI 9 = 3 by decide), if_neg (show ¬ nI 9 = 4 by decide), if_neg (show ¬ nI 9 = 5 by decide), getr hM (by decide), bp_s]
  | 10, _ =>
    refine ⟨row F w 10, ?_, ?_⟩
    · unfold dnX4_numberOfState
      rw [if_neg (show ¬ nI 10 = 0 by decide), if_neg (show ¬ nI 10 = 1 by decide), if_neg (show ¬ nI 10 = 2 by decide), if_neg (show ¬ nI 10 = 3 by decide), if_neg (show ¬ nI 10 = 4 by decide), if_neg (show ¬ nI 10 = 5 by decide), if_neg (show ¬ nI 10 = 6 by decide), if_neg (show ¬ nI 10 = 7 by decide), if_neg (show ¬ nI 10 = 8 by decide), if_neg (show ¬ nI 10 = 9 by decide), hR.1.2.2.2.2.2.2.1]
    · unfold dnX5_toldOf
      rw [if_neg (show ¬ nI 10 = 3 by decide), if_neg (show ¬ nI 10 = 4 by decide), if_neg (show ¬ nI 10 = 5 by decide), getr hM (by decide), bp_s]
/-! how many cells tell of a place -/
theorem max_ov {n p l : Nat} (hn : n ≤ 40) (hp : p < n) (hl : l < 6) : (if 0 < ((if 2 ^ l ≤ n then nI (min p (n - 2 ^ l)) else nI n - nI (2 ^ l)) - nI (p + 1 - 2 ^ l)) + 1 then ((if 2 ^ l ≤ n then nI (min p (n - 2 ^ l)) else nI n - nI (2 ^ l)) - nI (p + 1 - 2 ^ l)) + 1 else 0) = nI (ov n p p l) := by
  have hw := pw hl
  unfold ov
  by_cases h : 2 ^ l ≤ n
  · rw [if_pos h, cnt_ (by omega) (by omega)]
    congr 1
    omega
  · have h1 : ¬ (0 : Int32) < ((nI n - nI (2 ^ l)) - nI (p + 1 - 2 ^ l)) + 1 := by
      rw [show p + 1 - 2 ^ l = 0 by omega, show (nI 0 : Int32) = 0 from rfl, Int32.sub_zero, Int32.lt_iff_toInt_lt, Int32.toInt_add, Int32.toInt_sub, nI_toInt (by omega), nI_toInt (by omega), show (0 : Int32).toInt = 0 from by decide, show (1 : Int32).toInt = 1 from by decide, Int.bmod_def, Int.bmod_def]
      split <;> split <;> omega
    rw [if_neg h, if_neg h1, show min (p + 1) (n + 1 - 2 ^ l) - (p + 1 - 2 ^ l) = 0 by omega]
    rfl
theorem overM12 {F : gF} {w n l x : Nat} (h : MS F w) (h0 : row F w 0 = nI n) (hn : n ≤ 40) (h1 : 1 ≤ l) (h5 : l ≤ 5) (hx : x < n) : ∀ (N p t : Nat), p ≤ n + 1 - 2 ^ l → n + 1 - 2 ^ l < N + p → lpX5_cellsOf_12 F (nI x) (nI l) N (nI t) (nI p) = some (0, nI (t + (min (x + 1) (n + 1 - 2 ^ l) - max p (x + 1 - 2 ^ l)))) := by
  have hw := pw (show l < 6 by omega)
  intro N
  induction N with
  | zero => intro p t q1 q2; omega
  | succ N ih =>
    intro p t q1 q2
    unfold lpX5_cellsOf_12
    rw [cellsM h h0 hn (by omega), bp_s]
    by_cases hp : n + 1 - 2 ^ l ≤ p
    · rw [if_pos (nI_le hp (by omega)), show t + (min (x + 1) (n + 1 - 2 ^ l) - max p (x + 1 - 2 ^ l)) = t by omega]
    · rw [if_neg (nI_ge (by omega) (by omega)), tellsM (by omega) (by omega) (by omega), bp_s]
      by_cases ho : p ≤ x ∧ x < p + 2 ^ l
      · rw [if_pos ho, if_neg (by decide), nI_1, nI_1, ih (p + 1) (t + 1) (by omega) (by omega), show t + 1 + (min (x + 1) (n + 1 - 2 ^ l) - max (p + 1) (x + 1 - 2 ^ l)) = t + (min (x + 1) (n + 1 - 2 ^ l) - max p (x + 1 - 2 ^ l)) by omega]
      · rw [if_neg ho, if_pos rfl, Int32.add_zero, nI_1, ih (p + 1) t (by omega) (by omega), show t + (min (x + 1) (n + 1 - 2 ^ l) - max (p + 1) (x + 1 - 2 ^ l)) = t + (min (x + 1) (n + 1 - 2 ^ l) - max p (x + 1 - 2 ^ l)) by omega]
theorem overM {F : gF} {w n x : Nat} (h : MS F w) (h0 : row F w 0 = nI n) (hn : n ≤ 40) (hx : x < n) : dnX5_cellsOf F (nI x) = some (nI (cs (ov n x x) 5)) := by
  have K : ∀ (N l t : Nat), 1 ≤ l → l ≤ 6 → 6 < N + l → lpX5_cellsOf_4 F (nI x) N (nI t) (nI l) = some (0, nI (t + cs (ov n x x) (6 - l))) := by
    intro N
    induction N with
    | zero => intro l t q0 q1 q2; omega
    | succ N ih =>
      intro l t q0 q1 q2
      unfold lpX5_cellsOf_4
      by_cases hl : 6 ≤ l
      · rw [if_pos (show (5 : Int32) < nI l from nI_lt (a := 5) (by omega) (by omega)), show 6 - l = 0 by omega]; rfl
      · have hw := pw (show l < 6 by omega)
        rw [if_neg (show ¬ (5 : Int32) < nI l from nI_nlt (b := l) (a := 5) (by omega) (by omega)), show lpX5_cellsOf_12 F (nI x) (nI l) FU (nI t) 0 = _ from overM12 h h0 hn q0 (by omega) hx FU 0 t (by omega) (by unfold FU; omega), bp_s, nI_1, ih (l + 1) _ (by omega) (by omega) (by omega), show 6 - l = (6 - (l + 1)) + 1 by omega, cs, show 5 - (6 - (l + 1)) = l by omega]
        rw [show t + (min (x + 1) (n + 1 - 2 ^ l) - max 0 (x + 1 - 2 ^ l)) + cs (ov n x x) (6 - (l + 1)) = t + (ov n x x l + cs (ov n x x) (6 - (l + 1))) by unfold ov; omega]
  unfold dnX5_cellsOf
  rw [show lpX5_cellsOf_4 F (nI x) FU 0 1 = _ from K FU 1 0 (by decide) (by decide) (by unfold FU; omega), bp_s, Nat.zero_add]