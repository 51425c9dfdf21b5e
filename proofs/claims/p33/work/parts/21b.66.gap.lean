/-! gap; the checksum -/
theorem mask_b : ∀ l : Nat, l < 6 → ∀ p : Nat, p < 40 → ∀ d : Nat, d < 32 → d < 2 ^ l → p + d < 64 → wb ((((1 : Int64) <<< (((1 : Int32) <<< (nI l &&& 31)).toInt64 &&& 63)) - 1) <<< ((nI p).toInt64 &&& 63)) (p + d) = true := by decide +kernel
theorem wb_and (a b : Int64) (q : Nat) : wb (a &&& b) q = (wb a q && wb b q) := by
  unfold wb
  rw [Int64.toBitVec_and, BitVec.getLsbD_and]
theorem wrongC {G : gR} {g : Nat → Int32} {n kc l p : Nat} (hW : WF g n kc) (hR : RR G g n kc) (h1 : 1 ≤ l) (h5 : l ≤ 5) (hp : p + 2 ^ l ≤ n) : dnX1_isCellWrong G (nI l) (nI p) = some 0 := by
  have hw := pw (show l < 6 by omega)
  have n40 := hW.1.2.1
  unfold dnX1_isCellWrong
  by_cases hz : lg_cmp (G.2 &&& ((((1 : Int64) <<< (((1 : Int32) <<< (nI l &&& 31)).toInt64 &&& 63)) - 1) <<< ((nI p).toInt64 &&& 63))) 0 = 0
  · have hz2 := (lg_cmp0 _).mp hz
    have hnw : ∀ j : Nat, p ≤ j → j < p + 2 ^ l → ¬ wb G.2 j = true := fun j j1 j2 hj => by
      have hm := mask_b l (by omega) p (by omega) (j - p) (by omega) (by omega) (by omega)
      rw [show p + (j - p) = j by omega] at hm
      have h := wb_and G.2 ((((1 : Int64) <<< (((1 : Int32) <<< (nI l &&& 31)).toInt64 &&& 63)) - 1) <<< ((nI p).toInt64 &&& 63)) j
      rw [hz2, hj, hm] at h
      exact wb0 j h
    rw [if_pos hz, cellC (by omega) (by omega), if_neg (by omega), hW.ce hR l p h1 h5 hp hnw, bp_s, sh1 (by omega), nI_add, show nI (p + 2 ^ l) - 1 = nI (p + 2 ^ l - 1) from nI_sub (b := 1) (by omega), leastC hR n40 (by omega) (by omega), bp_s, show p + 2 ^ l - 1 - p = 2 ^ l - 1 by omega, if_pos rfl]
  · rw [if_neg hz]
theorem gapC {V : gX} {g : Nat → Int32} {n kc : Nat} (hW : WF g n kc) (hR : RR V.2.1 g n kc) : dnX4_gap V = some 0 := by
  have n40 := hW.1.2.1
  have hc : V.2.1.1 0 3 = nI n := hR.1.1.trans hW.1.2.2
  have k8 := hW.2.1.1
  have hc3 : V.2.1.1 3 2 = nI kc := hR.1.2.2.2.2.2.2.2.trans hW.2.1.2
  have K : ∀ (l : Nat), 1 ≤ l → l ≤ 5 → ∀ (N p : Nat) (t : Int32), p ≤ n + 1 - 2 ^ l → n + 1 - 2 ^ l < N + p → lpX4_gap_22 V (nI l) (nI (n + 1 - 2 ^ l)) N t (nI p) = some (0, t) := by
    intro l h1 h5 N
    have hw := pw (show l < 6 by omega)
    induction N with
    | zero => intro p t q1 q2; omega
    | succ N ih =>
      intro p t q1 q2
      unfold lpX4_gap_22
      by_cases hp : n + 1 - 2 ^ l ≤ p
      · rw [if_pos (nI_le hp (by omega))]
      · rw [if_neg (nI_ge (by omega) (by omega)), wrongC hW hR h1 h5 (by omega), bp_s, if_pos rfl, Int32.add_zero, nI_1]
        exact ih (p + 1) t (by omega) (by omega)
  have K4 : ∀ (N l : Nat) (t : Int32), 1 ≤ l → l ≤ 6 → 6 < N + l → lpX4_gap_4 V N t (nI l) = some (0, t) := by
    intro N
    induction N with
    | zero => intro l t q0 q1 q2; omega
    | succ N ih =>
      intro l t q0 q1 q2
      unfold lpX4_gap_4
      by_cases hl : 6 ≤ l
      · rw [if_pos (show (6 : Int32) ≤ nI l from nI_le (a := 6) hl (by omega))]
      · have hw := pw (show l < 6 by omega)
        rw [if_neg (show ¬ (6 : Int32) ≤ nI l from nI_ge (b := 6) (by omega) (by omega)), cellsC hc n40 (by omega), bp_s, show lpX4_gap_22 V (nI l) (nI (n + 1 - 2 ^ l)) FU t 0 = _ from K l q0 (by omega) FU 0 t (by omega) (by unfold FU; omega), bp_s, nI_1]
        exact ih (l + 1) t (by omega) (by omega) (by omega)
  have K6 : ∀ (N k : Nat) (t : Int32), k ≤ kc → kc < N + k → lpX4_gap_63 V N t (nI k) = some (0, t) := by
    intro N
    induction N with
    | zero => intro k t q1 q2; omega
    | succ N ih =>
      intro k t q1 q2
      unfold lpX4_gap_63
      rw [hc3]
      by_cases hk : kc ≤ k
      · rw [if_pos (nI_le hk (by omega))]
      · obtain ⟨a, b, ea, eb, hab, hb⟩ := hW.2.2.2.2.2.1 k (by omega)
        obtain ⟨c1, c2⟩ := keptC (G := V.2.1) (show k < 8 by omega)
        have hkk := hR.2.2.2.2 k (by omega)
        rw [if_neg (nI_ge (by omega) (by omega)), c1, bp_s, c2, bp_s, hkk.1, hkk.2, ea, eb]
        unfold dnX1_hasStretch
        rw [placeC hc n40 (show a < n by omega), bp_s, if_neg (by decide), placeC hc n40 hb, bp_s, if_neg (by decide), if_neg (nI_nlt hab (by omega)), bp_s, if_neg (by decide), Int32.add_zero, nI_1]
        exact ih (k + 1) t (by omega) (by omega)
  unfold dnX4_gap
  rw [show lpX4_gap_4 V FU 0 1 = _ from K4 FU 1 0 (by decide) (by decide) (by unfold FU; omega), bp_s, show lpX4_gap_63 V FU 0 0 = _ from K6 FU 0 0 (by omega) (by unfold FU; omega), bp_s]
theorem gapM {F : gF} {w n kc : Nat} (hM : MS F w) (hW : WF (row F w) n kc) : lpX5_gap_9 F FU 0 1 = some (0, 0) ∧ lpX5_gap_80 F FU 0 0 = some (0, 0) := by
  have n40 := hW.1.2.1
  have h0 := hW.1.2.2
  have k8 := hW.2.1.1
  have Kh : ∀ (l p : Nat), 1 ≤ l → l ≤ 5 → p + 2 ^ l ≤ n → ∀ (N j : Nat), p ≤ j → j ≤ p + 2 ^ l → p + 2 ^ l < N + j → ∃ z : Nat, lpX5_hasWaiting_2 F (nI l) (nI p) N (nI j) = some z ∧ (z = 0 ∨ (z = 1 ∧ ∀ k : Nat, j ≤ k → k < p + 2 ^ l → row F w (52 + k) = 0)) := by
    intro l p h1 h5 hp N
    have hw := pw (show l < 6 by omega)
    induction N with
    | zero => intro j q0 q1 q2; omega
    | succ N ih =>
      intro j q0 q1 q2
      unfold lpX5_hasWaiting_2
      rw [sh1 (by omega), nI_add]
      by_cases hj : p + 2 ^ l ≤ j
      · rw [if_pos (nI_le hj (by omega))]
        exact ⟨1, rfl, Or.inr ⟨rfl, fun k k1 k2 => by omega⟩⟩
      · rw [if_neg (nI_ge (by omega) (by omega)), waitM hM hW (by omega), bp_s]
        rcases hW.2.2.2.2.1.1 j (by omega) with e | e
        · rw [e, if_pos rfl, nI_1]
          obtain ⟨z, z1, z2⟩ := ih (j + 1) (by omega) (by omega) (by omega)
          refine ⟨z, z1, z2.imp id (fun q => ⟨q.1, fun k k1 k2 => ?_⟩)⟩
          by_cases ek : k = j
          · rw [ek]; exact e
          · exact q.2 k (by omega) k2
        · rw [e, if_neg (by decide)]
          exact ⟨0, rfl, Or.inl rfl⟩
  have K : ∀ (l : Nat), 1 ≤ l → l ≤ 5 → ∀ (N p : Nat) (t : Int32), p ≤ n + 1 - 2 ^ l → n + 1 - 2 ^ l < N + p → lpX5_gap_16 F (nI l) N t (nI p) = some (0, t) := by
    intro l h1 h5 N
    have hw := pw (show l < 6 by omega)
    induction N with
    | zero => intro p t q1 q2; omega
    | succ N ih =>
      intro p t q1 q2
      unfold lpX5_gap_16
      rw [cellsM hM h0 n40 (by omega), bp_s]
      by_cases hp : n + 1 - 2 ^ l ≤ p
      · rw [if_pos (nI_le hp (by omega))]
      · obtain ⟨z, z1, z2⟩ := Kh l p h1 h5 (by omega) FU p (Nat.le_refl _) (by omega) (by unfold FU; omega)
        unfold dnX5_hasWaiting
        rw [if_neg (nI_ge (by omega) (by omega)), z1, bp_s]
        rcases z2 with rfl | ⟨rfl, z3⟩
        · rw [if_pos rfl, bp_s, if_neg (by decide), Int32.add_zero, nI_1]
          exact ih (p + 1) t (by omega) (by omega)
        · obtain ⟨c, c1, c2, c3, c4⟩ := hW.2.2.2.2.2.2.2 l p h1 h5 (by omega)
          unfold dnX5_cellAt
          rw [if_neg (by decide), bp_s, if_pos rfl, bp_s, cellIx h1, getr hM (by omega), bp_s, sh1 (by omega), nI_add, show nI (p + 2 ^ l) - 1 = nI (p + 2 ^ l - 1) from nI_sub (b := 1) (by omega), leastM hM (by omega) (by omega), bp_s, c1, c4 z3, show p + 2 ^ l - 1 - p = 2 ^ l - 1 by omega, if_pos rfl, Int32.add_zero, nI_1]
          exact ih (p + 1) t (by omega) (by omega)
  have K4 : ∀ (N l : Nat) (t : Int32), 1 ≤ l → l ≤ 6 → 6 < N + l → lpX5_gap_9 F N t (nI l) = some (0, t) := by
    intro N
    induction N with
    | zero => intro l t q0 q1 q2; omega
    | succ N ih =>
      intro l t q0 q1 q2
      unfold lpX5_gap_9
      by_cases hl : 6 ≤ l
      · rw [if_pos (show (5 : Int32) < nI l from nI_lt (a := 5) (by omega) (by omega))]
      · have hw := pw (show l < 6 by omega)
        rw [if_neg (show ¬ (5 : Int32) < nI l from nI_nlt (b := l) (a := 5) (by omega) (by omega)), show lpX5_gap_16 F (nI l) FU t 0 = _ from K l q0 (by omega) FU 0 t (by omega) (by unfold FU; omega), bp_s, nI_1]
        exact ih (l + 1) t (by omega) (by omega) (by omega)
  have K6 : ∀ (N k : Nat) (t : Int32), k ≤ kc → kc < N + k → lpX5_gap_80 F N t (nI k) = some (0, t) := by
    intro N
    induction N with
    | zero => intro k t q1 q2; omega
    | succ N ih =>
      intro k t q1 q2
      unfold lpX5_gap_80
      rw [show (6 : Int32) = nI 6 from rfl, getr hM (by decide), hW.2.1.2, bp_s]
      by_cases hk : kc ≤ k
      · rw [if_pos (nI_le hk (by omega))]
      · obtain ⟨a, b, ea, eb, hab, hb⟩ := hW.2.2.2.2.2.1 k (by omega)
        obtain ⟨m1, m2⟩ := keptM hM (show k < 8 by omega)
        rw [if_neg (nI_ge (by omega) (by omega)), m1, ea, bp_s, if_neg (nI_pos (by omega)), m2, eb, bp_s, size_ hM h0, bp_s, if_neg (nI_ge hb (by omega)), bp_s, bp_s, if_pos (nI_le hab (by omega)), Int32.add_zero, nI_1]
        exact ih (k + 1) t (by omega) (by omega)
  exact ⟨K4 FU 1 0 (by decide) (by decide) (by unfold FU; omega), K6 FU 0 0 (by omega) (by unfold FU; omega)⟩