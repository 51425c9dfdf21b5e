/-! looks, both sides -/
theorem rl_M {F : gF} {r : Nat} (h : r < 41) (h1 : 1 ≤ r) : dnX5_looksOfRun F (nI r) = some (nI (rl r)) := by
  have hb := lgl_b r h h1
  unfold dnX5_looksOfRun rl
  rw [lvM F r h h1, bp_s, sh1 hb.1, if_neg (show ¬ r = 0 by omega)]
  by_cases e : r = 2 ^ lgl r
  · rw [if_pos e, if_pos (congrArg nI e).symm]; rfl
  · rw [if_neg e, if_neg (fun q => e ((nI_eq (by omega) (by omega)).mp q).symm)]; rfl
theorem cl_le (W : Nat → Bool) : ∀ m j r : Nat, cl W m j r ≤ 3 * m + 2 := by
  intro m
  induction m with
  | zero => intro j r; have := rl_le r; unfold cl; omega
  | succ m ih =>
    intro j r
    have h1 := rl_le r
    have h2 := ih (j + 1) 0
    have h3 := ih (j + 1) (r + 1)
    unfold cl
    split <;> omega
theorem cl_M {F : gF} {w b : Nat} {x : Int64} (h : MS F w) (hB : ∀ p : Nat, p < 40 → row F w (52 + p) = 0 ∨ row F w (52 + p) = 1) (hx : ∀ p : Nat, p < 40 → (wb x p = true ↔ row F w (52 + p) = 1)) (hb : b < 40) : ∀ (N j t : Nat), j ≤ b + 1 → b + 1 < N + j → lpX5_looksIn_5 F (nI b) N (nI t) (nI j) = some (0, nI (t + cl (wb x) (b + 1 - j) j 0)) := by
  intro N
  induction N with
  | zero => intro j t h1 h2; omega
  | succ N ih =>
    intro j t h1 h2
    unfold lpX5_looksIn_5
    by_cases hj : b < j
    · rw [if_pos (nI_lt hj (by omega)), show b + 1 - j = 0 by omega]; rfl
    · rw [if_neg (nI_nlt (by omega) (by omega)), waitM2 h hB hx (by omega), bp_s]
      by_cases hw : wb x j = true
      · rw [if_pos hw, if_neg (by decide), nI_sub (Nat.le_refl j), Nat.sub_self, nI_1, lvM F (0 + 1) (by omega) (by omega), bp_s, sh1 (by decide), if_pos (by decide), nI_1, nI_1, ih (j + 1) (t + 1) (by omega) (by omega)]
        rw [show b + 1 - j = (b - j) + 1 by omega, cl, if_pos hw, show b + 1 - (j + 1) = b - j by omega, show rl 0 = 0 from rfl]
        congr 3
        omega
      · obtain ⟨e, e1, e2, e3, e4, e5⟩ := runEndM h hB hx hb FU j (by omega) (by unfold FU; omega)
        have hr : e - j + 1 < 41 := by omega
        have hlb := lgl_b (e - j + 1) hr (by omega)
        rw [if_neg hw, if_pos rfl]
        unfold dnX5_runEnd
        rw [e3, bp_s, bp_s, nI_sub e1, nI_1, lvM F (e - j + 1) hr (by omega), bp_s, sh1 hlb.1]
        have hnw : ∀ k : Nat, j ≤ k → k < j + (e - j + 1) → ¬ wb x k = true := by
          intro k q1 q2
          by_cases hk : k = j
          · rw [hk]; exact hw
          · exact e4 k (by omega) (by omega)
        have hcl : cl (wb x) (b + 1 - j) j 0 = rl (e - j + 1) + cl (wb x) (b + 1 - (e + 1)) (e + 1) 0 := by
          rw [show b + 1 - j = (e - j + 1) + (b + 1 - (e + 1)) by omega, cl_run _ _ _ _ hnw, show j + (e - j + 1) = e + 1 by omega, Nat.zero_add]
          exact cl_w (e5.imp (fun q => by omega) id)
        rw [hcl]
        unfold rl
        rw [if_neg (show ¬ e - j + 1 = 0 by omega)]
        by_cases hq : e - j + 1 = 2 ^ lgl (e - j + 1)
        · rw [if_pos hq, if_pos (congrArg nI hq).symm, nI_1, nI_1, ih (e + 1) (t + 1) (by omega) (by omega)]
          congr 3
          omega
        · rw [if_neg hq, if_neg (fun q => hq ((nI_eq (by omega) (by omega)).mp q).symm), show (2 : Int32) = nI 2 from rfl, nI_add, nI_1, ih (e + 1) (t + 2) (by omega) (by omega)]
          congr 3
          omega
theorem looksM {F : gF} {w a b : Nat} {x : Int64} (h : MS F w) (hB : ∀ p : Nat, p < 40 → row F w (52 + p) = 0 ∨ row F w (52 + p) = 1) (hx : ∀ p : Nat, p < 40 → (wb x p = true ↔ row F w (52 + p) = 1)) (hab : a ≤ b) (hb : b < 40) : dnX5_looksIn F (nI a) (nI b) = some (nI (cl (wb x) (b + 1 - a) a 0)) := by
  unfold dnX5_looksIn
  rw [show lpX5_looksIn_5 F (nI b) FU 0 (nI a) = _ from cl_M h hB hx hb FU a 0 (by omega) (by unfold FU; omega), bp_s, Nat.zero_add]
/-- the looks that a question of a..b would take now -/
theorem now_b {V : gX} {F : gF} {w n kc : Nat} (hM : MS F w) (hW : WF (row F w) n kc) (hR : RR V.2.1 (row F w) n kc) : ∃ x : Int64, dnX1_waitingAtQuestion V.2.1 = some x ∧ ∀ a b : Nat, a ≤ b → b < n → ∃ r : Int32, dnX4_looksFor (nI a) (nI b) x = some r ∧ dnX5_looksNow F (nI a) (nI b) = some r := by
  have n40 := hW.1.2.1
  have hg : dnX5_get F 1 = some (row F w 1) := by rw [show (1 : Int32) = nI 1 from rfl, getr hM (by decide)]
  by_cases h0 : row F w 1 = 0
  · refine ⟨0, ?_, fun a b hab hb => ?_⟩
    · unfold dnX1_waitingAtQuestion
      rw [hR.1.2.1, if_pos h0]
    · have e0 : cl (wb 0) (b + 1 - a) a 0 = rl (b - a + 1) := by
        rw [cl_0 _ _ _ (fun k _ _ => by simp [wb]), Nat.zero_add, show b + 1 - a = b - a + 1 by omega]
      refine ⟨_, looksC hab (by omega), ?_⟩
      unfold dnX5_looksNow
      rw [hg, bp_s, if_pos h0, nI_sub hab, nI_1, rl_M (by omega) (by omega), bp_s, e0]
  · refine ⟨V.2.1.2, ?_, fun a b hab hb => ?_⟩
    · unfold dnX1_waitingAtQuestion
      rw [hR.1.2.1, if_neg h0]
    · refine ⟨_, looksC hab (by omega), ?_⟩
      have hx : ∀ p : Nat, p < 40 → (wb V.2.1.2 p = true ↔ row F w (52 + p) = 1) := fun p hp => (hR.2.2.2.1 p (by omega)).trans ⟨fun q => q.2, fun q => ⟨hp, q⟩⟩
      unfold dnX5_looksNow
      rw [hg, bp_s, if_neg h0, looksM hM hW.2.2.2.2.1.1 hx hab (by omega), bp_s]
theorem s_looks (x1 x2 x3 x4 x5 : Int32) (V : gX) (F : gF) (fo : Nat → Int64) (h : JJ V F) : ∃ V' F' fo', LR 8 x1 x2 x3 x4 x5 V F fo V' F' fo' ∧ JJ V' F' := by
  refine s_str (x1 := x1) (x2 := x2) h (fun w n kc a b hM hW hR hab hb e1 e2 => ?_)
  subst e1; subst e2
  obtain ⟨x, hx, hq⟩ := now_b hM hW hR
  obtain ⟨r, e4, e5⟩ := hq a b hab hb
  exact ⟨r, by rw [hx, bp_s, e4, bp_s], by rw [e5, bp_s]⟩
theorem keptL_b {V : gX} {F : gF} {w n kc : Nat} {x : Int64} (hM : MS F w) (hW : WF (row F w) n kc) (hR : RR V.2.1 (row F w) n kc) (hq : ∀ a b : Nat, a ≤ b → b < n → ∃ r : Int32, dnX4_looksFor (nI a) (nI b) x = some r ∧ dnX5_looksNow F (nI a) (nI b) = some r) : ∀ (N k : Nat) (t : Int32), k ≤ kc → kc < N + k → ∃ r : Int32, lpX4_looksForKept_5 V x N t (nI k) = some (0, r) ∧ lpX5_keptLooks_4 F N t (nI k) = some (0, r) := by
  obtain ⟨k8, h6⟩ := hW.2.1
  have hc : V.2.1.1 3 2 = nI kc := hR.1.2.2.2.2.2.2.2.trans h6
  have hg : dnX5_get F 6 = some (nI kc) := by rw [show (6 : Int32) = nI 6 from rfl, getr hM (by decide), h6]
  intro N
  induction N with
  | zero => intro k t h1 h2; omega
  | succ N ih =>
    intro k t h1 h2
    unfold lpX4_looksForKept_5 lpX5_keptLooks_4
    rw [hg, bp_s, hc]
    by_cases hk : kc ≤ k
    · rw [if_pos (nI_le hk (by omega)), if_pos (nI_le hk (by omega))]; exact ⟨_, rfl, rfl⟩
    · obtain ⟨a, b, ea, eb, hab, hb⟩ := hW.2.2.2.2.2.1 k (by omega)
      obtain ⟨m1, m2⟩ := keptM hM (show k < 8 by omega)
      obtain ⟨c1, c2⟩ := keptC (G := V.2.1) (show k < 8 by omega)
      have hkk := hR.2.2.2.2 k (by omega)
      obtain ⟨r, e4, e5⟩ := hq a b hab hb
      rw [if_neg (nI_ge (by omega) (by omega)), if_neg (nI_ge (by omega) (by omega)), m1, m2, c1, c2, bp_s, bp_s, bp_s, bp_s, hkk.1, hkk.2, ea, eb, e4, e5, bp_s, bp_s, nI_1]
      exact ih (k + 1) _ (by omega) (by omega)
theorem s_looksOfKept (x1 x2 x3 x4 x5 : Int32) (V : gX) (F : gF) (fo : Nat → Int64) (h : JJ V F) : ∃ V' F' fo', LR 15 x1 x2 x3 x4 x5 V F fo V' F' fo' ∧ JJ V' F' := by
  obtain ⟨w, n, kc, hM, hW, hR⟩ := h.r
  obtain ⟨x, hx, hq⟩ := now_b hM hW hR
  have k8 := hW.2.1.1
  obtain ⟨r, e4, e5⟩ := keptL_b hM hW hR hq FU 0 0 (by omega) (by unfold FU; omega)
  refine ⟨V, wr F 0 0 0, fo, ⟨r, ?_, ?_, rfl, rfl⟩, h.t 0⟩
  · unfold dnX4_looksOfKept dnX4_looksForKept
    rw [hx, bp_s, show lpX4_looksForKept_5 V x FU 0 0 = _ from e4, bp_s, bp_s]
  · unfold dnX5_looksOfKept dnX5_keptLooks
    rw [bw_s, show lpX5_keptLooks_4 (wr F 0 0 0) FU 0 0 = _ from e5, bp_s, bp_s]
