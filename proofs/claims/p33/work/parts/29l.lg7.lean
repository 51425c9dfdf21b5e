/-! a value taken: the reference's take step by step; lists side by side -/
theorem takesB {F : gF} {w n x : Nat} {g : Nat → Int32} {L : kL} (hM : MS F w) (h0 : g 0 = nI n) (h2 : 2 ≤ n) (n40 : n ≤ 40) (hx : x < n) (hL : RKL g L) (hv : KLv n L) : ∃ g2 g' : Nat → Int32, dnX5_takesOut (st F w g) (nI x) = some (g (12 + x), st F w g') ∧ BI g2 g' (n - 1) ∧ g2 0 = nI (n - 1) ∧ (∀ p : Nat, p < n - 1 → g2 (12 + p) = if p < x then g (12 + p) else g (12 + (p + 1))) ∧ (∀ k : Nat, k ≠ 0 → k ≠ 6 → k < 292 → ¬ (12 ≤ k ∧ k < 52) → g2 k = g k) ∧ RKL g2 (L.filterMap (tkP x)) := by
  have h8 := hL.1
  have m0 : remM g x x = g := by funext i; unfold remM; rw [if_neg (by omega)]
  have e5 := takes8 (g := g) (v := g (12 + x)) hM h0 (by omega) n40 FU x (Nat.le_refl _) (by omega) (by unfold FU; omega)
  rw [m0] at e5
  have k1 : remM g x (n - 1) 0 + (-1) = nI (n - 1) := by simp only [remM]; rw [if_neg (by omega), h0, nI_m1 (by omega)]
  have hL1 : RKL (upd (remM g x (n - 1)) 0 (nI (n - 1))) L := by
    refine ⟨h8, by simp only [upd, remM]; rw [if_neg (by omega), if_neg (by omega)]; exact hL.2.1, fun i a b q => ?_⟩
    obtain ⟨f1, f2⟩ := hL.2.2 i a b q
    constructor
    · simp only [upd, remM]; rw [if_neg (by omega), if_neg (by omega)]; exact f1
    · simp only [upd, remM]; rw [if_neg (by omega), if_neg (by omega)]; exact f2
  obtain ⟨g2, e52, hL2, hf2⟩ := closeB (x2 := g (12 + x)) hM n40 hx FU L.length _ L (Nat.le_refl _) (by unfold FU; omega) hL1 (fun i a b _ q => hv i a b q)
  rw [List.take_length, List.drop_length, List.append_nil] at hL2
  have g20 : g2 0 = nI (n - 1) := by rw [hf2 0 (by omega) (by decide)]; simp [upd]
  obtain ⟨g', b5, hI⟩ := buildsM (F := F) (w := w) (g := g2) hM g20 (by omega)
  refine ⟨g2, g', ?_, hI, g20, fun p hp => ?_, fun k q1 q2 q3 q4 => ?_, hL2⟩
  · unfold dnX5_takesOut
    rw [valueM (hM.s g) (by omega), row_st (by omega), bp_s, e5, bp_s, show (0 : Int32) = nI 0 from rfl, adds_ hM (by decide), bp_s, k1, show (6 : Int32) = nI 6 from rfl, get_ hM (by decide), bp_s, hL1.2.1, e52, bp_s, if_neg (show ¬ (1 : Nat) = 0 by decide), b5, bp_s]
  · rw [hf2 _ (by omega) (by omega)]
    simp only [upd, remM]
    rw [if_neg (by omega)]
    by_cases e2 : p < x
    · rw [if_pos e2, if_neg (by omega)]
    · rw [if_neg e2, if_pos (by omega), show 12 + p + 1 = 12 + (p + 1) by omega]
  · rw [hf2 k q3 q2]; simp only [upd, remM]; rw [if_neg q1, if_neg (by omega)]
/-- two lists side by side, some left out of both -/
theorem side {α β γ : Type} {R : α → β → Prop} {dr : α → Bool} {tk : β → Option γ} (hd : ∀ y z, R y z → (dr y = true ↔ tk z = none)) : ∀ (ks : List α) (Pk : List β), Pk.length = ks.length → (∀ (k : Nat) (y : α), ks[k]? = some y → ∃ z : β, Pk[k]? = some z ∧ R y z) → (Pk.filterMap tk).length = (ks.filter (fun y => !dr y)).length ∧ ∀ (k : Nat) (y : α), (ks.filter (fun y => !dr y))[k]? = some y → ∃ (z : β) (c : γ), R y z ∧ tk z = some c ∧ (Pk.filterMap tk)[k]? = some c := by
  intro ks
  induction ks with
  | nil =>
    intro Pk hl _
    obtain rfl : Pk = [] := List.length_eq_zero_iff.mp hl
    exact ⟨rfl, fun k y q => by simp at q⟩
  | cons y0 ks ih =>
    intro Pk hl h
    match Pk, hl with
    | z0 :: Pk, hl =>
      obtain ⟨z, e1, r0⟩ := h 0 y0 rfl
      obtain rfl : z0 = z := Option.some.inj e1
      obtain ⟨i1, i2⟩ := ih Pk (by simpa using hl) (fun k y q => h (k + 1) y q)
      by_cases c : dr y0 = true
      · have hn := (hd y0 z0 r0).mp c
        rw [List.filterMap_cons_none hn, List.filter_cons_of_neg (by simp [c])]
        exact ⟨i1, i2⟩
      · cases hz : tk z0 with
        | none => exact absurd ((hd y0 z0 r0).mpr hz) c
        | some c0 =>
          rw [List.filterMap_cons_some hz, List.filter_cons_of_pos (by simpa using c)]
          refine ⟨by rw [List.length_cons, List.length_cons, i1], fun k y q => ?_⟩
          match k, q with
          | 0, q =>
            obtain rfl : y0 = y := Option.some.inj q
            exact ⟨z0, c0, r0, hz, rfl⟩
          | k + 1, q => exact i2 k y q
