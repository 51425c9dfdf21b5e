/-! a value taken: which stretches come out -/
def tkP (x : Nat) (z : Nat × Nat) : Option (Nat × Nat) := if z.1 = x ∧ z.2 = x then none else some (if x < z.1 then z.1 - 1 else z.1, if x ≤ z.2 then z.2 - 1 else z.2)
theorem tk_take {L : kL} {x j : Nat} {z : Nat × Nat} (h : L[j]? = some z) : (L.take (j + 1)).filterMap (tkP x) = (L.take j).filterMap (tkP x) ++ (match tkP x z with | some y => [y] | none => []) := by
  rw [take_s h, List.filterMap_append]
  congr 1
  cases hz : tkP x z <;> simp [hz]
theorem closeB {F : gF} {w n x : Nat} {x2 : Int32} (hM : MS F w) (hn : n ≤ 40) (hx : x < n) : ∀ (N k : Nat) (g : Nat → Int32) (L : kL), k ≤ L.length → k < N → RKL g L → (∀ i a b : Nat, i < k → L[i]? = some (a, b) → a ≤ b ∧ b < n) → ∃ g' : Nat → Int32, lpX5_takesOut_54 (nI x) x2 N (nI k - 1) (st F w g) = some (1, st F w g') ∧ RKL g' ((L.take k).filterMap (tkP x) ++ L.drop k) ∧ (∀ i : Nat, i < 292 → i ≠ 6 → g' i = g i) := by
  intro N
  induction N with
  | zero => intro k g L h1 h2; omega
  | succ N ih =>
    intro k g L h1 h2 hR hv
    unfold lpX5_takesOut_54
    by_cases hk : k = 0
    · subst hk
      rw [if_pos (by decide)]
      exact ⟨g, rfl, by rw [List.take_zero, List.drop_zero]; exact hR, fun i _ _ => rfl⟩
    · obtain ⟨j, rfl⟩ : ∃ j : Nat, k = j + 1 := ⟨k - 1, by omega⟩
      have h8 := hR.1
      have hj : j < L.length := by omega
      obtain ⟨a, b, q⟩ := kl_get hj
      obtain ⟨v1, v2⟩ := hv j a b (by omega) q
      obtain ⟨f1, f2⟩ := hR.2.2 j a b q
      obtain ⟨m1, m2⟩ := keptM (hM.s g) (show j < 8 by omega)
      rw [row_st (by omega), f1] at m1
      rw [row_st (by omega), f2] at m2
      rw [show nI (j + 1) - 1 = nI j from nI_sub (a := j + 1) (b := 1) (by omega), if_neg (nI_pos (by omega)), m2, bp_s, ← Int32.sub_eq_add_neg (nI j) 1]
      have go : ∀ (a' b' : Nat) (g1 : Nat → Int32), tkP x (a, b) = some (a', b') → g1 6 = g 6 → (∀ i : Nat, i ≠ j → g1 (292 + 2 * i) = g (292 + 2 * i) ∧ g1 (293 + 2 * i) = g (293 + 2 * i)) → g1 (292 + 2 * j) = nI a' → g1 (293 + 2 * j) = nI b' → (∀ i : Nat, i < 292 → g1 i = g i) → ∃ g' : Nat → Int32, lpX5_takesOut_54 (nI x) x2 N (nI j - 1) (st F w g1) = some (1, st F w g') ∧ RKL g' ((L.take (j + 1)).filterMap (tkP x) ++ L.drop (j + 1)) ∧ (∀ i : Nat, i < 292 → i ≠ 6 → g' i = g i) := by
        intro a' b' g1 k1 k3 k4 k5 k6 k7
        obtain ⟨g', e1, e3, e6⟩ := ih j g1 (L.set j (a', b')) (by rw [List.length_set]; omega) (by omega) (hR.set hj k3 k4 k5 k6) (fun i p1 p2 hi hq => by
          rw [List.getElem?_set, if_neg (by omega)] at hq
          exact hv i p1 p2 (by omega) hq)
        refine ⟨g', e1, ?_, fun i i1 i2 => by rw [e6 i i1 i2, k7 i i1]⟩
        have d : (L.set j (a', b')).drop j = (a', b') :: L.drop (j + 1) := by
          have hs : (L.set j (a', b'))[j]? = some (a', b') := by rw [List.getElem?_set, if_pos rfl, if_pos hj]
          rw [drop_s hs, List.drop_set_of_lt (by omega)]
        rw [List.take_set_of_le (Nat.le_refl _), d] at e3
        rw [tk_take q, k1, List.append_assoc]
        exact e3
      have ix1 : ∀ g1 : Nat → Int32, dnX5_adds (st F w g1) (292 + (2 * nI j)) (-1) = some (st F w (upd g1 (292 + 2 * j) (g1 (292 + 2 * j) + (-1)))) := fun g1 => by
        rw [show (2 : Int32) = nI 2 from rfl, nI_mul, show (292 : Int32) = nI 292 from rfl, nI_add, adds_ hM (by omega)]
      have ix2 : ∀ g1 : Nat → Int32, dnX5_adds (st F w g1) ((292 + (2 * nI j)) + 1) (-1) = some (st F w (upd g1 (293 + 2 * j) (g1 (293 + 2 * j) + (-1)))) := fun g1 => by
        rw [show (2 : Int32) = nI 2 from rfl, nI_mul, show (292 : Int32) = nI 292 from rfl, nI_add, nI_1, show 292 + 2 * j + 1 = 293 + 2 * j by omega, adds_ hM (by omega)]
      have kf : ∀ g1 : Nat → Int32, dnX5_keptFrom (st F w g1) (nI j) = some (g1 (292 + 2 * j)) ∧ dnX5_keptTo (st F w g1) (nI j) = some (g1 (293 + 2 * j)) := fun g1 => by
        have h := keptM (hM.s g1) (show j < 8 by omega)
        rw [row_st (by omega), row_st (by omega)] at h
        exact h
      by_cases hb : x ≤ b
      · rw [if_pos (nI_le hb (by omega)), m1, bp_s]
        by_cases ha : a ≤ x
        · rw [if_pos (nI_le ha (by omega)), ix2, bp_s, (kf _).1, (kf _).2, bp_s, bp_s]
          by_cases hxx : a = x ∧ b = x
          · obtain ⟨rfl, rfl⟩ := hxx
            have hX : RKX (upd g (293 + 2 * j) (g (293 + 2 * j) + (-1))) L j := ⟨h8, by simp only [upd]; rw [if_neg (by omega)]; exact hR.2.1, fun i p1 p2 i1 i2 => by
              obtain ⟨z1, z2⟩ := hR.2.2 i p1 p2 i2
              simp only [upd]
              rw [if_neg (by omega), if_neg (by omega)]
              exact ⟨z1, z2⟩⟩
            obtain ⟨g1, r1, r2, r3⟩ := forgetsM hM hX hj
            obtain ⟨g', e1, e3, e6⟩ := ih j g1 (L.eraseIdx j) (by rw [List.length_eraseIdx_of_lt hj]; omega) (by omega) r2 (fun i p1 p2 hi hq => by
              rw [List.getElem?_eraseIdx, if_pos hi] at hq
              exact hv i p1 p2 (by omega) hq)
            refine ⟨g', ?_, ?_, fun i i1 i2 => ?_⟩
            · rw [if_neg (by
                simp only [upd, if_true]
                rw [if_neg (by omega), f1, f2]
                exact nI_xm (by omega)), r1, bs_s, if_pos (nI_pos' (by omega))]
              exact e1
            · have d1 : (L.eraseIdx j).take j = L.take j := by
                rw [List.eraseIdx_eq_take_drop_succ, List.take_append_of_le_length (by rw [List.length_take]; omega), List.take_take, Nat.min_self]
              have d2 : (L.eraseIdx j).drop j = L.drop (j + 1) := by
                rw [List.eraseIdx_eq_take_drop_succ, List.drop_append_of_le_length (by rw [List.length_take]; omega), List.drop_eq_nil_of_le (by rw [List.length_take]; omega), List.nil_append]
              rw [d1, d2] at e3
              rw [tk_take q, show tkP b (b, b) = none from if_pos ⟨rfl, rfl⟩, List.append_nil]
              exact e3
            · rw [e6 i i1 i2, r3 i i1 i2]; simp only [upd]; rw [if_neg (by omega)]
          · obtain ⟨g', e1, e3⟩ := go a (b - 1) (upd g (293 + 2 * j) (g (293 + 2 * j) + (-1))) (by unfold tkP; rw [if_neg hxx, if_neg (by omega), if_pos hb]) (by simp only [upd]; rw [if_neg (by omega)]) (fun i hi => by simp only [upd]; rw [if_neg (by omega), if_neg (by omega)]; exact ⟨rfl, rfl⟩) (by simp only [upd]; rw [if_neg (by omega)]; exact f1) (by simp only [upd, if_true]; rw [f2, nI_m1 (by omega)]) (fun i hi => by simp only [upd]; rw [if_neg (by omega)])
            refine ⟨g', ?_, e3⟩
            rw [if_pos (by
                simp only [upd, if_true]
                rw [if_neg (by omega), f1, f2, nI_m1 (by omega)]
                exact nI_le (by omega) (by omega))]
            exact e1
        · obtain ⟨g', e1, e3⟩ := go (a - 1) (b - 1) (upd (upd g (292 + 2 * j) (g (292 + 2 * j) + (-1))) (293 + 2 * j) (upd g (292 + 2 * j) (g (292 + 2 * j) + (-1)) (293 + 2 * j) + (-1))) (by unfold tkP; rw [if_neg (by omega), if_pos (by omega), if_pos hb]) (by simp only [upd]; rw [if_neg (by omega), if_neg (by omega)]) (fun i hi => by simp only [upd]; rw [if_neg (by omega), if_neg (by omega), if_neg (by omega), if_neg (by omega)]; exact ⟨rfl, rfl⟩) (by simp only [upd, if_true]; rw [if_neg (by omega), f1, nI_m1 (by omega)]) (by simp only [upd, if_true]; rw [if_neg (by omega), f2, nI_m1 (by omega)]) (fun i hi => by simp only [upd]; rw [if_neg (by omega), if_neg (by omega)])
          refine ⟨g', ?_, e3⟩
          rw [if_neg (nI_ge (by omega) (by omega)), ix1, bp_s, ix2, bp_s, (kf _).1, (kf _).2, bp_s, bp_s, if_pos (by
              simp only [upd, if_true]
              rw [if_neg (by omega), if_neg (by omega), f1, f2, nI_m1 (by omega), nI_m1 (by omega)]
              exact nI_le (by omega) (by omega))]
          exact e1
      · obtain ⟨g', e1, e3⟩ := go a b g (by unfold tkP; rw [if_neg (by omega), if_neg (by omega), if_neg hb]) rfl (fun i _ => ⟨rfl, rfl⟩) f1 f2 (fun i _ => rfl)
        refine ⟨g', ?_, e3⟩
        rw [if_neg (nI_ge (by omega) (by omega))]
        exact e1
