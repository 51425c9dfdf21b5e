/-! a question of the class heeds no kept stretches -/
def rep (B : gF) (G : gR) : gR := (fun b => if b = 3 ∨ b = 4 ∨ b = 5 then B b else G.1 b, G.2)
def mp {α : Type} (B : gF) (o : Option (α × gR)) : Option (α × gR) := o.map (fun z => (z.1, rep B z.2))
theorem rep_w (B : gF) (G : gR) {b k : Nat} {v : Int32} (h : ¬ (b = 3 ∨ b = 4 ∨ b = 5)) : wR (rep B G) b k v = rep B (wR G b k v) := by
  apply Prod.ext
  · funext i
    simp only [wR, wr, rep]
    by_cases e : i = b
    · subst e; rw [if_pos rfl, if_neg h, if_neg h, if_pos rfl]
    · rw [if_neg e, if_neg e]
  · rfl
theorem rep_8 (B : gF) (G : gR) (x2 : Int32) : ∀ (N : Nat) (x3 x4 x5 : Int32), lpX1_leastByLooks_8 (rep B G) x2 N x3 x4 x5 = lpX1_leastByLooks_8 G x2 N x3 x4 x5 := by
  intro N
  induction N with
  | zero => intro x3 x4 x5; rfl
  | succ N ih =>
    intro x3 x4 x5
    simp only [lpX1_leastByLooks_8, ih]
    rfl
theorem rep_by (B : gF) (G : gR) (x1 x2 : Int32) : dnX1_leastByLooks (rep B G) x1 x2 = dnX1_leastByLooks G x1 x2 := by
  unfold dnX1_leastByLooks
  rw [rep_8]
  rfl
theorem rep_30 (B : gF) (x1 x2 x3 x4 x5 : Int32) : ∀ (N : Nat) (x6 : Int32) (G : gR), lpX1_writeCellsOver_30 x1 x2 x3 x4 x5 N x6 (rep B G) = mp B (lpX1_writeCellsOver_30 x1 x2 x3 x4 x5 N x6 G) := by
  intro N
  induction N with
  | zero => intro x6 G; rfl
  | succ N ih =>
    intro x6 G
    unfold lpX1_writeCellsOver_30
    split
    · rfl
    · split
      · exact ih _ G
      · split
        · exact ih _ G
        · rw [show dnX1_cellAt (rep B G) (x3 - 1) x6 = dnX1_cellAt G (x3 - 1) x6 from rfl, show dnX1_cellAt (rep B G) (x3 - 1) (x6 + x4) = dnX1_cellAt G (x3 - 1) (x6 + x4) from rfl]
          cases dnX1_cellAt G (x3 - 1) x6 with
          | none => rfl
          | some r5 =>
            cases dnX1_cellAt G (x3 - 1) (x6 + x4) with
            | none => rfl
            | some r7 =>
              rw [bp_s, bp_s, bp_s, bp_s, show dnX1_lesser (rep B G) r5 r7 = dnX1_lesser G r5 r7 from rfl]
              cases dnX1_lesser G r5 r7 with
              | none => rfl
              | some r9 =>
                rw [bp_s, bp_s]
                unfold wi
                split
                · rfl
                · generalize (x3 * 40 + x6).toNatClampNeg = k
                  show lpX1_writeCellsOver_30 x1 x2 x3 x4 x5 N (x6 + 1) (wR (wR (rep B G) 2 k r9) 0 8 ((wR (rep B G) 2 k r9).1 0 8 + 1)) = mp B (lpX1_writeCellsOver_30 x1 x2 x3 x4 x5 N (x6 + 1) (wR (wR G 2 k r9) 0 8 ((wR G 2 k r9).1 0 8 + 1)))
                  rw [rep_w B G (by decide), show (rep B (wR G 2 k r9)).1 0 8 = (wR G 2 k r9).1 0 8 from rfl, rep_w B _ (by decide)]
                  exact ih _ _
theorem rep_2 (B : gF) (x1 x2 : Int32) : ∀ (N : Nat) (x3 : Int32) (G : gR), lpX1_writeCellsOver_2 x1 x2 N x3 (rep B G) = mp B (lpX1_writeCellsOver_2 x1 x2 N x3 G) := by
  intro N
  induction N with
  | zero => intro x3 G; rfl
  | succ N ih =>
    intro x3 G
    unfold lpX1_writeCellsOver_2
    split
    · rfl
    · rw [show dnX1_lastCellOver (rep B G) x3 x2 = dnX1_lastCellOver G x3 x2 from rfl]
      cases dnX1_lastCellOver G x3 x2 with
      | none => rfl
      | some r16 =>
        cases dnX4_firstCellOver x3 x1 with
        | none => rfl
        | some r18 =>
          rw [bp_s, bp_s, bp_s, bp_s, rep_30]
          cases lpX1_writeCellsOver_30 x1 x2 x3 ((1 : Int32) <<< ((x3 - 1) &&& 31)) r16 FU r18 G with
          | none => rfl
          | some z => exact ih _ z.2
theorem rep_build (B : gF) (G : gR) : dnX1_buildAll (rep B G) = (dnX1_buildAll G).map (rep B) := by
  unfold dnX1_buildAll dnX1_writeCellsOver
  rw [rep_2, show (rep B G).1 0 3 = G.1 0 3 from rfl]
  cases lpX1_writeCellsOver_2 0 (G.1 0 3 - 1) FU 1 G with
  | none => rfl
  | some z =>
    show some (wR (wL (rep B z.2) 0) 0 10 ((wL (rep B z.2) 0).1 0 10 + 1)) = some (rep B (wR (wL z.2 0) 0 10 ((wL z.2 0).1 0 10 + 1)))
    rw [show wL (rep B z.2) 0 = rep B (wL z.2 0) from rfl, rep_w B _ (by decide)]
    rfl
theorem rep_q (B : gF) (G : gR) (x1 x2 : Int32) : dnX1_question (rep B G) x1 x2 = mp B (dnX1_question G x1 x2) := by
  have K : ∀ G : gR, bw (wR (rep B G) 0 9 (((rep B G).1 0 9) + 1)) (fun G4 => bp (dnX4_looksFor x1 x2 G4.2) (fun r6 => bw (wR G4 0 7 ((G4.1 0 7) + r6)) (fun G7 => bp (dnX1_leastByLooks G7 x1 x2) (fun r9 => some (r9, G7))))) = mp B (bw (wR G 0 9 ((G.1 0 9) + 1)) (fun G4 => bp (dnX4_looksFor x1 x2 G4.2) (fun r6 => bw (wR G4 0 7 ((G4.1 0 7) + r6)) (fun G7 => bp (dnX1_leastByLooks G7 x1 x2) (fun r9 => some (r9, G7)))))) := by
    intro G
    rw [bw_s, bw_s, rep_w B G (by decide), show (rep B G).1 0 9 = G.1 0 9 from rfl, show (rep B (wR G 0 9 (G.1 0 9 + 1))).2 = (wR G 0 9 (G.1 0 9 + 1)).2 from rfl]
    cases dnX4_looksFor x1 x2 (wR G 0 9 (G.1 0 9 + 1)).2 with
    | none => rfl
    | some r6 =>
      rw [bp_s, bp_s, bw_s, bw_s, rep_w B _ (by decide), rep_by, show (rep B (wR G 0 9 (G.1 0 9 + 1))).1 0 7 = (wR G 0 9 (G.1 0 9 + 1)).1 0 7 from rfl]
      cases dnX1_leastByLooks (wR (wR G 0 9 (G.1 0 9 + 1)) 0 7 ((wR G 0 9 (G.1 0 9 + 1)).1 0 7 + r6)) x1 x2 with
      | none => rfl
      | some r9 => rfl
  unfold dnX1_question
  rw [show dnX1_isBuiltByQuestion (rep B G) = dnX1_isBuiltByQuestion G from rfl]
  cases dnX1_isBuiltByQuestion G with
  | none => rfl
  | some r2 =>
    rw [bp_s, bp_s]
    by_cases h : r2 = 0
    · rw [if_pos h, if_pos h]; exact K G
    · rw [if_neg h, if_neg h, rep_build]
      cases dnX1_buildAll G with
      | none => rfl
      | some G1 => exact K G1
theorem rep_eq {G H : gR} (h : ∀ b : Nat, b ≠ 3 → b ≠ 4 → b ≠ 5 → G.1 b = H.1 b) (hw : G.2 = H.2) : G = rep G.1 H := by
  apply Prod.ext
  · funext b
    simp only [rep]
    by_cases c : b = 3 ∨ b = 4 ∨ b = 5
    · rw [if_pos c]
    · rw [if_neg c]; exact h b (by omega) (by omega) (by omega)
  · exact hw
