/-! the two systems are alike from the start on, and stay so -/
theorem start_b : ∃ (G1 G2 G3 : gR) (F1 F2 F3 : gF), dnX1_start G0 0 2 = some G1 ∧ dnX1_addAtEnd G1 0 = some G2 ∧ dnX1_buildAll G2 = some G3 ∧ dnX5_put0 m0F 0 1 = some F1 ∧ dnX5_put0 F1 2 2 = some F2 ∧ dnX5_builds F2 = some F3 ∧ JJ (X0g G3) F3 := by
  have hM : MS m0F 0 := ⟨rfl, by decide⟩
  have er : row m0F 0 = fun _ => 0 := by
    funext k
    show m0F 1 (310 * 0 + k) = 0
    unfold m0F
    rw [if_neg (by omega)]
  have e0 : st m0F 0 (fun _ => 0) = m0F := by rw [← er]; exact st_row m0F 0
  have f1 : dnX5_put0 m0F 0 1 = some (st m0F 0 (upd (fun _ => 0) 0 1)) := by
    have := put_ (k := 0) (g := fun _ => 0) (v := 1) hM (by decide)
    rw [e0] at this; exact this
  have f2 : dnX5_put0 (st m0F 0 (upd (fun _ => 0) 0 1)) 2 2 = some (st m0F 0 (upd (upd (fun _ => 0) 0 1) 2 2)) := put_ (k := 2) (v := 2) hM (by decide)
  have g1 : dnX1_start G0 0 2 = some (wR (wR (wR (wR (wR (wL (wR (wR (wR G0 0 3 0) 0 4 0) 0 5 2) 0) 0 7 0) 0 8 0) 0 9 0) 0 10 0) 3 2 0) := rfl
  generalize eG : (wR (wR (wR (wR (wR (wL (wR (wR (wR G0 0 3 0) 0 4 0) 0 5 2) 0) 0 7 0) 0 8 0) 0 9 0) 0 10 0) 3 2 0) = G1 at g1
  have hG : G1.1 0 3 = nI 0 ∧ G1.1 0 4 = 0 ∧ G1.1 0 5 = 2 ∧ G1.1 0 7 = 0 ∧ G1.1 0 8 = 0 ∧ G1.1 0 9 = 0 ∧ G1.1 0 10 = 0 ∧ G1.1 3 2 = 0 := by
    rw [← eG]
    refine ⟨?_, ?_, ?_, ?_, ?_, ?_, ?_, ?_⟩ <;> simp [wR, wL, wr, upd] <;> rfl
  obtain ⟨t3, t4, t5, t7, t8, t9, t10, t6⟩ := hG
  have g2 : dnX1_addAtEnd G1 0 = some (wR (wR G1 1 0 0) 0 3 (nI 1)) := by
    unfold dnX1_addAtEnd
    rw [t3, storeC (by decide), bp_s, show (wR G1 1 0 0).1 0 3 = nI 0 from t3, nI_1, bw_s]
  have hW : W0 (upd (upd (fun _ => 0) 0 1) 2 2) 1 0 := by
    refine ⟨⟨by decide, by decide, by simp [upd]; rfl⟩, ⟨by decide, by simp [upd]; rfl⟩, Or.inl (by simp [upd]), ⟨2, by decide, by decide, by simp [upd]; rfl⟩, fun k hk => by omega, fun p hp => ?_⟩
    rw [show p = 0 by omega]
    simp only [upd]
    decide
  have hR : R0 (wR (wR G1 1 0 0) 0 3 (nI 1)) (upd (upd (fun _ => 0) 0 1) 2 2) 1 0 := by
    refine ⟨⟨by simp [wR, wr, upd]; rfl, ?_, ?_, ?_, ?_, ?_, ?_, ?_⟩, fun p hp => ?_, fun k hk => by omega⟩
    · show G1.1 0 4 = _; rw [t4]; simp [upd]
    · show G1.1 0 5 = _; rw [t5]; simp [upd]
    · show G1.1 0 7 = _; rw [t7]; simp [upd]
    · show G1.1 0 8 = _; rw [t8]; simp [upd]
    · show G1.1 0 9 = _; rw [t9]; simp [upd]
    · show G1.1 0 10 = _; rw [t10]; simp [upd]
    · show G1.1 3 2 = _; rw [t6]; simp [upd]
    · rw [show p = 0 by omega]
      simp [wR, wr, upd]
  obtain ⟨G3, g3, e4, e5, hW3, hR3, -, -⟩ := builds_b hM hW hR
  refine ⟨G1, _, G3, _, _, st m0F 0 g3, g1, g2, e4, f1, f2, e5, ⟨0, hM.s g3, ⟨1, 0, WRst (F := m0F) (w := 0) hW3 hR3 (fun k hk => row_st hk)⟩, 0, 0, by decide, by decide, by rw [st_0]; rfl, rfl, rfl, fun j hj => by omega⟩, by rw [st_0]; rfl, 0, by decide, by rw [st_0]; rfl, rfl, fun j hj => by omega⟩
theorem step_b (n : Nat) (x1 x2 x3 x4 x5 : Int32) (V : gX) (F : gF) (fo : Nat → Int64) (h : JJ V F) : ∃ V' F' fo', LR n x1 x2 x3 x4 x5 V F fo V' F' fo' ∧ JJ V' F' := by
  match n with
  | 0 => exact s_append x1 x2 x3 x4 x5 V F fo h
  | 1 => exact s_load x1 x2 x3 x4 x5 V F fo h
  | 2 => exact s_errorOffset x1 x2 x3 x4 x5 V F fo h
  | 3 => exact s_state x1 x2 x3 x4 x5 V F fo h
  | 4 => exact s_value x1 x2 x3 x4 x5 V F fo h
  | 5 => exact s_cell x1 x2 x3 x4 x5 V F fo h
  | 6 => exact s_waits x1 x2 x3 x4 x5 V F fo h
  | 7 => exact s_least x1 x2 x3 x4 x5 V F fo h
  | 8 => exact s_looks x1 x2 x3 x4 x5 V F fo h
  | 9 => exact s_writes x1 x2 x3 x4 x5 V F fo h
  | 10 => exact s_above x1 x2 x3 x4 x5 V F fo h
  | 11 => exact s_lessBehind x1 x2 x3 x4 x5 V F fo h
  | 12 => exact s_rules x1 x2 x3 x4 x5 V F fo h
  | 13 => exact s_sum x1 x2 x3 x4 x5 V F fo h
  | 14 => exact s_kept x1 x2 x3 x4 x5 V F fo h
  | 15 => exact s_looksOfKept x1 x2 x3 x4 x5 V F fo h
  | 16 => exact s_bestRule x1 x2 x3 x4 x5 V F fo h
  | 17 => exact s_ranked x1 x2 x3 x4 x5 V F fo h
  | 18 => exact s_gap x1 x2 x3 x4 x5 V F fo h
  | 19 => exact s_cost x1 x2 x3 x4 x5 V F fo h
  | 20 => exact s_set x1 x2 x3 x4 x5 V F fo h
  | 21 => exact s_ask x1 x2 x3 x4 x5 V F fo h
  | 22 => exact s_keep x1 x2 x3 x4 x5 V F fo h
  | 23 => exact s_forget x1 x2 x3 x4 x5 V F fo h
  | 24 => exact s_sweep x1 x2 x3 x4 x5 V F fo h
  | 25 => exact s_put x1 x2 x3 x4 x5 V F fo h
  | 26 => exact s_take x1 x2 x3 x4 x5 V F fo h
  | 27 => exact s_rule x1 x2 x3 x4 x5 V F fo h
  | 28 => exact s_undo x1 x2 x3 x4 x5 V F fo h
  | 29 => exact s_checksum x1 x2 x3 x4 x5 V F fo h
  | k + 30 => exact ⟨V, F, fo, ⟨rfl, rfl, rfl⟩, h⟩
theorem alike : ∃ J : gX → gF → Prop, (∀ (w x1 x2 x3 x4 x5 : Int32) (V : gX) (F : gF) (fo : Nat → Int64), J V F → ∃ (V' : gX) (F' : gF) (fo' : Nat → Int64), LR (cst w) x1 x2 x3 x4 x5 V F fo V' F' fo' ∧ J V' F') ∧ ∃ (G1 G2 G3 : gR) (F1 F2 F3 : gF), dnX1_start G0 0 2 = some G1 ∧ dnX1_addAtEnd G1 0 = some G2 ∧ dnX1_buildAll G2 = some G3 ∧ dnX5_put0 m0F 0 1 = some F1 ∧ dnX5_put0 F1 2 2 = some F2 ∧ dnX5_builds F2 = some F3 ∧ J (X0g G3) F3 :=
  ⟨JJ, fun w x1 x2 x3 x4 x5 V F fo h => step_b (cst w) x1 x2 x3 x4 x5 V F fo h, start_b⟩
