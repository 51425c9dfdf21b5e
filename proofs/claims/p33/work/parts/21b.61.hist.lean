/-! what can be undone -/
theorem WRst {F : gF} {w n kc : Nat} {G : gR} {g : Nat → Int32} {f : Nat → Int32} (hW : WF g n kc) (hR : RR G g n kc) (e : ∀ k : Nat, k < 310 → f k = g k) : WF f n kc ∧ RR G f n kc :=
  ⟨hW.cg (fun k hk _ _ _ _ => e k hk), hR.cg hW.1.2.1 hW.2.1.1 (fun k hk _ _ _ _ => e k hk) (fun _ _ _ _ _ => rfl) (fun _ _ => rfl) rfl (by rw [e 7 (by decide)]; exact hR.1.2.2.2.1) (by rw [e 8 (by decide)]; exact hR.1.2.2.2.2.1) (by rw [e 9 (by decide)]; exact hR.1.2.2.2.2.2.1) (by rw [e 10 (by decide)]; exact hR.1.2.2.2.2.2.2.1)⟩
def cpM (f g : Nat → Int32) (j : Nat) : Nat → Int32 := fun k => if k < j then f k else g k
theorem cpM_u (f g : Nat → Int32) (j : Nat) : upd (cpM f g j) j (f j) = cpM f g (j + 1) := by
  funext k
  simp only [upd, cpM]
  by_cases e : k = j
  · rw [if_pos e, if_pos (by omega), e]
  · rw [if_neg e]
    by_cases h : k < j
    · rw [if_pos h, if_pos (by omega)]
    · rw [if_neg h, if_neg (by omega)]
theorem change12 {F : gF} {w w' : Nat} (hM : MS F w) (hw' : w' < 9) (hne : w ≠ w') : ∀ (N j : Nat), j ≤ 310 → 310 < N + j → lpX5_change_12 (nI w') N (nI j) (st F w' (cpM (row F w) (row F w') j)) = some (0, st F w' (cpM (row F w) (row F w') 310)) := by
  intro N
  induction N with
  | zero => intro j q1 q2; omega
  | succ N ih =>
    intro j q1 q2
    unfold lpX5_change_12
    by_cases hj : 310 ≤ j
    · rw [if_pos (show (310 : Int32) ≤ nI j from nI_le (a := 310) hj (by omega)), show j = 310 by omega]
    · have hw := hM.2
      have hM2 : MS (st F w' (cpM (row F w) (row F w') j)) w := ⟨by rw [st_0]; exact hM.1, hw⟩
      rw [if_neg (show ¬ (310 : Int32) ≤ nI j from nI_ge (b := 310) (by omega) (by omega)), getr hM2 (by omega), bp_s, show row (st F w' (cpM (row F w) (row F w') j)) w j = row F w j from st_o (by omega) hne, show (310 : Int32) = nI 310 from rfl, nI_mul, nI_add, wi_ok (by omega) (by decide), bw_s, st_w (by omega), cpM_u, nI_1]
      exact ih (j + 1) (by omega) (by omega)
theorem mod9 : ∀ w : Nat, w < 9 → (nI w + 1) - (nI w + 1) / 9 * 9 = nI ((w + 1) % 9) := by decide
theorem mod8 : ∀ x : Nat, x < 8 → (nI x + 1) - (nI x + 1) / 8 * 8 = nI ((x + 1) % 8) := by decide
theorem st_ext {F : gF} {w : Nat} {g g' : Nat → Int32} (h : ∀ k : Nat, k < 310 → g k = g' k) : st F w g = st F w g' := by
  funext a j
  unfold st
  by_cases c : a = 1 ∧ 310 * w ≤ j ∧ j < 310 * w + 310
  · rw [if_pos c, if_pos c]; exact h _ (by omega)
  · rw [if_neg c, if_neg c]
theorem changeM {F : gF} {w u : Nat} (hM : MS F w) (hu : u ≤ 8) (h5 : F 0 5 = nI u) : dnX5_change F = some (st (wr (wr F 0 4 (nI ((w + 1) % 9))) 0 5 (nI (min 8 (u + 1)))) ((w + 1) % 9) (row F w)) := by
  have hw := hM.2
  have e0 : cpM (row F w) (row F ((w + 1) % 9)) 0 = row F ((w + 1) % 9) := by funext k; simp [cpM]
  have e := change12 hM (show (w + 1) % 9 < 9 by omega) (by omega) FU 0 (by omega) (by unfold FU; omega)
  rw [e0, st_row] at e
  unfold dnX5_change
  rw [hM.1, mod9 w hw, show lpX5_change_12 (nI ((w + 1) % 9)) FU 0 F = _ from e, bp_s, st_w0, bw_s, st_0, wr_o (by decide), h5, st_w0, st_w0]
  rw [st_ext (g := cpM (row F w) (row F ((w + 1) % 9)) 310) (g' := row F w) (fun k hk => by simp [cpM, hk])]
  by_cases h8 : 8 ≤ u
  · rw [if_pos (show (8 : Int32) ≤ nI u from nI_le (a := 8) h8 (by omega)), bw_s, show min 8 (u + 1) = u by omega]
  · rw [if_neg (show ¬ (8 : Int32) ≤ nI u from nI_ge (b := 8) (by omega) (by omega)), nI_1, bw_s, st_ext (g := cpM (row F w) (row F ((w + 1) % 9)) 310) (g' := row F w) (fun k hk => by simp [cpM, hk]), show min 8 (u + 1) = u + 1 by omega]
/-- what the calls that change begin with -/
theorem JJ.c {V : gX} {F : gF} (h : JJ V F) : ∃ (w n kc : Nat) (F2 : gF) (w' x : Nat), MS (wr F 0 0 0) w ∧ WF (row (wr F 0 0 0) w) n kc ∧ RR V.2.1 (row (wr F 0 0 0) w) n kc ∧ MS F2 w' ∧ dnX5_change (wr F 0 0 0) = some (st F2 w' (row (wr F 0 0 0) w)) ∧ x < 8 ∧ V.2.2.2.1 0 1 = nI x ∧ (∀ (G' : gR) (g' : Nat → Int32) (n' kc' : Nat), WF g' n' kc' → RR G' g' n' kc' → JJ (V.1, G', V.2.2.1, (hSave V.2.2.2.1, va_up V.2.2.2.2 x V.2.1)) (st F2 w' g') ∧ (st F2 w' g') 0 0 = 0) := by
  obtain ⟨⟨w, h1, ⟨n, kc, h2, h3⟩, u, x, q1, q2, q3, q4, q5, q6⟩, h4, f, f1, f2, f3, f4⟩ := h
  have hw := h1.2
  refine ⟨w, n, kc, wr (wr (wr F 0 0 0) 0 4 (nI ((w + 1) % 9))) 0 5 (nI (min 8 (u + 1))), (w + 1) % 9, x, h1.t 0, by rw [row_w0]; exact h2, by rw [row_w0]; exact h3, ⟨by rw [wr_o (by decide), wr_i], by omega⟩, changeM (h1.t 0) q1 (by rw [wr_o (by decide)]; exact q3), q2, q5, fun G' g' n' kc' hW' hR' => ⟨⟨⟨(w + 1) % 9, ⟨by rw [st_0, wr_o (by decide), wr_i], by omega⟩, ⟨n', kc', WRst (F := F) (w := w) hW' hR' (fun k hk => row_st hk)⟩, min 8 (u + 1), (x + 1) % 8, by omega, by omega, by rw [st_0, wr_i], ?_, ?_, fun j hj => ?_⟩, ?_, f, f1, ?_, f3, fun j hj => ?_⟩, ?_⟩⟩
  · show hSave V.2.2.2.1 0 2 = _
    unfold hSave
    simp only [wr, if_true, upd]
    rw [q4, nI_1]
    by_cases h8 : 8 < u + 1
    · rw [if_pos (show (8 : Int32) < nI (u + 1) from nI_lt (a := 8) h8 (by omega)), show min 8 (u + 1) = 8 by omega]; rfl
    · rw [if_neg (show ¬ (8 : Int32) < nI (u + 1) from nI_nlt (b := u + 1) (a := 8) (by omega) (by omega)), show min 8 (u + 1) = u + 1 by omega]
  · show hSave V.2.2.2.1 0 1 = _
    unfold hSave
    simp only [wr, if_true, upd]
    rw [if_neg (by decide), q5, mod8 x q2]
  · show ∃ n kc : Nat, WF _ n kc ∧ RR (va_up V.2.2.2.2 x V.2.1 (((x + 1) % 8 + 7 - j) % 8)) _ n kc
    by_cases h0 : j = 0
    · subst h0
      rw [show ((w + 1) % 9 + 8 - 0) % 9 = w by omega, show ((x + 1) % 8 + 7 - 0) % 8 = x by omega, show va_up V.2.2.2.2 x V.2.1 x = V.2.1 from by simp [va_up]]
      exact ⟨n, kc, WRst (F := F) (w := w) h2 h3 (fun k hk => by
        show (st _ _ _) 1 (310 * w + k) = _
        rw [st_o hk (by omega), wr_b (by decide), wr_b (by decide), wr_b (by decide)]; rfl)⟩
    · obtain ⟨n1, kc1, p1, p2⟩ := q6 (j - 1) (by omega)
      rw [show ((w + 1) % 9 + 8 - j) % 9 = (w + 8 - (j - 1)) % 9 by omega, show ((x + 1) % 8 + 7 - j) % 8 = (x + 7 - (j - 1)) % 8 by omega, show va_up V.2.2.2.2 x V.2.1 ((x + 7 - (j - 1)) % 8) = V.2.2.2.2 ((x + 7 - (j - 1)) % 8) from by unfold va_up; rw [if_neg (by omega)]]
      exact ⟨n1, kc1, WRst (F := F) (w := w) p1 p2 (fun k hk => by
        show (st _ _ _) 1 (310 * ((w + 8 - (j - 1)) % 9) + k) = _
        rw [st_o hk (by omega), wr_b (by decide), wr_b (by decide), wr_b (by decide)]; rfl)⟩
  · rw [st_0, wr_o (by decide), wr_o (by decide), wr_o (by decide)]; exact h4
  · rw [st_0, wr_o (by decide), wr_o (by decide), wr_o (by decide)]; exact f2
  · rw [st_b (by decide), wr_b (by decide), wr_b (by decide), wr_b (by decide)]; exact f4 j hj
  · rw [st_0, wr_o (by decide), wr_o (by decide), wr_i]
theorem val_em (v : Int32) : (-999 ≤ v ∧ v ≤ 999) ∨ (v < -999 ∨ 999 < v) := by
  by_cases h1 : -999 ≤ v
  · by_cases h2 : v ≤ 999
    · exact Or.inl ⟨h1, h2⟩
    · exact Or.inr (Or.inr (Int32.not_le.mp h2))
  · exact Or.inr (Or.inl (Int32.not_le.mp h1))
theorem valM {v : Int32} (h : -999 ≤ v ∧ v ≤ 999) : dnX5_isValue v = some 1 := by
  unfold dnX5_isValue dnX5_isIn
  rw [if_neg (Int32.not_lt.mpr h.1), if_neg (Int32.not_lt.mpr h.2), bp_s]; rfl
theorem valM0 {v : Int32} (h : v < -999 ∨ 999 < v) : dnX5_isValue v = some 0 := by
  unfold dnX5_isValue dnX5_isIn
  by_cases c : v < -999
  · rw [if_pos c, bp_s]; rfl
  · rw [if_neg c, if_pos (h.resolve_left c), bp_s]; rfl
theorem demV {V : gX} {v : Int32} (h : -999 ≤ v ∧ v ≤ 999) : dnX4_demandValue V v = some (.inr ()) := by
  unfold dnX4_demandValue
  rw [if_neg (Int32.not_lt.mpr h.1), if_pos h.2]
theorem demV0 {V : gX} {v : Int32} (h : v < -999 ∨ 999 < v) : dnX4_demandValue V v = some (.inl "java/lang/IllegalArgumentException") := by
  unfold dnX4_demandValue
  by_cases c : v < -999
  · rw [if_pos c]
  · rw [if_neg c, if_neg (Int32.not_le.mpr (h.resolve_left c))]