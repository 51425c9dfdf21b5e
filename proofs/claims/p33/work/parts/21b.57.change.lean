/-! a value is set, both sides -/
theorem shl_b : ∀ p : Nat, p < 64 → ∀ q : Nat, q < 64 → (wb ((1 : Int64) <<< ((nI p).toInt64 &&& 63)) q = true ↔ q = p) := by decide +kernel
theorem wb_or (a b : Int64) (q : Nat) : wb (a ||| b) q = (wb a q || wb b q) := by
  unfold wb
  rw [Int64.toBitVec_or, BitVec.getLsbD_or]
theorem storeC {G : gR} {x : Nat} {v : Int32} (hx : x < 40) : dnX1_store G (nI x) v = some (wR G 1 x v) := by
  unfold dnX1_store
  rw [if_neg (nI_pos (by omega)), if_neg (show ¬ (40 : Int32) ≤ nI x from nI_ge (b := 40) (by omega) (by decide)), wi_ok hx (by decide), bw_s]
theorem change_b {F : gF} {w n kc x : Nat} {v : Int32} {G : gR} {g : Nat → Int32} (hM : MS F w) (hW : WF g n kc) (hR : RR G g n kc) (hx : x < n) (hv1 : -999 ≤ v) (hv2 : v ≤ 999) : ∃ (G' : gR) (g' : Nat → Int32), dnX1_change G (nI x) v = some (g (12 + x), G') ∧ dnX5_sets (st F w g) (nI x) v = some (g (12 + x), st F w g') ∧ WF g' n kc ∧ RR G' g' n kc := by
  obtain ⟨⟨n1, n40, hn⟩, ⟨k8, hk⟩, hr, ⟨m, m1, m8, hm⟩, ⟨w1, w2, w3⟩, hK, hv, hc⟩ := id hW
  obtain ⟨⟨s0, s1, s2, s7, s8, s9, s10, s6⟩, hV, hCC, hw, hKK⟩ := id hR
  have e0 : dnX1_valueAt G (nI x) = some (g (12 + x)) := by rw [valueC (by omega), hV x hx]
  by_cases h1 : g 1 = 1
  · -- rule 1
    have hz : ∀ p : Nat, p < 40 → g (52 + p) = 0 := w3 h1
    have hQ : ∀ l p : Nat, 1 ≤ l → l ≤ 5 → p + 2 ^ l ≤ n → (p + 2 ^ l ≤ x ∨ x < p) → g (92 + 40 * (l - 1) + p) = nI (lm (upd g (12 + x) v) p (2 ^ l - 1)) := by
      intro l p k1 k2 k3 k4
      have hp := pw (show l < 6 by omega)
      obtain ⟨c, c1, c2, c3, c4⟩ := hc l p k1 k2 k3
      rw [c1, c4 (fun j _ j2 => hz j (by omega))]
      congr 1
      exact lm_cg _ (fun j j1 j2 => by simp only [upd]; rw [if_neg (by omega)])
    obtain ⟨g', e5, hC, -⟩ := setsM1 (Q := fun l p => p + 2 ^ l ≤ x ∨ x < p) hM hn n40 hx h1 hQ
    have ek : ∀ k : Nat, k ≠ 8 → k ≠ 12 + x → (k < 92 ∨ 292 ≤ k) → g' k = g k := fun k k1 k2 k3 => by
      rw [hC.1 k k1 k3]; simp only [upd]; rw [if_neg k2]
    have hE : ∀ l p : Nat, 1 ≤ l → l ≤ 5 → p + 2 ^ l ≤ n → g' (92 + 40 * (l - 1) + p) = nI (lm (upd g (12 + x) v) p (2 ^ l - 1)) := fun l p k1 k2 k3 => hC.2.2 l p k1 k2 k3 (by omega)
    have hV' : ∀ p : Nat, p < n → (wR G 1 x v).1 1 p = upd g (12 + x) v (12 + p) := fun p hp => by
      simp only [wR, wr, if_true, upd]
      by_cases e : p = x
      · rw [if_pos e, if_pos (by omega)]
      · rw [if_neg e, if_neg (by omega)]; exact hV p hp
    obtain ⟨G', e4, hJ⟩ := writeCellsC (G := wR G 1 x v) (g := upd g (12 + x) v) (a := x) (b := x) (show G.1 0 3 = nI n from s0.trans hn) n40 hV' (Nat.le_refl _) hx (fun l p k1 k2 k3 k4 => by
      have : (wR G 1 x v).1 2 (40 * l + p) = G.1 2 (40 * l + p) := rfl
      rw [this, hCC l p k1 k2 k3]; exact hQ l p k1 k2 k3 k4)
    obtain ⟨j0, j8, jb, jw, jc⟩ := hJ
    have jk : ∀ k : Nat, k ≠ 8 → G'.1 0 k = G.1 0 k := fun k hk => j0 k hk
    refine ⟨G', g', ?_, e5, ?_, ?_⟩
    · unfold dnX1_change
      rw [e0, bp_s, storeC (by omega), bp_s, if_pos (show (wR G 1 x v).1 0 4 = 1 from s1.trans h1), e4, bp_s, if_neg (by rw [jk 4 (by decide), s1, h1]; decide)]
    · refine ⟨⟨n1, n40, by rw [ek 0 (by decide) (by omega) (by decide)]; exact hn⟩, ⟨k8, by rw [ek 6 (by decide) (by omega) (by decide)]; exact hk⟩, by rw [ek 1 (by decide) (by omega) (by decide)]; exact hr, ⟨m, m1, m8, by rw [ek 2 (by decide) (by omega) (by decide)]; exact hm⟩, ⟨fun p hp => Or.inl ?_, fun p _ hp => ?_, fun _ p hp => ?_⟩, fun k hk2 => ?_, fun p hp => ?_, fun l p k1 k2 k3 => ?_⟩
      · rw [ek _ (by omega) (by omega) (by omega)]; exact hz p hp
      · rw [ek _ (by omega) (by omega) (by omega)]; exact hz p hp
      · rw [ek _ (by omega) (by omega) (by omega)]; exact hz p hp
      · rw [ek _ (by omega) (by omega) (by omega), ek _ (by omega) (by omega) (by omega)]; exact hK k hk2
      · rw [hC.1 (12 + p) (by omega) (by omega)]
        simp only [upd]
        by_cases e : 12 + p = 12 + x
        · rw [if_pos e]; exact ⟨hv1, hv2⟩
        · rw [if_neg e]; exact hv p hp
      · have hp := pw (show l < 6 by omega)
        have hb := lm_b (upd g (12 + x) v) p (2 ^ l - 1)
        exact ⟨_, hE l p k1 k2 k3, hb.1, by omega, fun _ => lm_cg _ (fun j j1 j2 => (hC.1 _ (by omega) (by omega)).symm)⟩
    · refine ⟨⟨?_, ?_, ?_, ?_, ?_, ?_, ?_, ?_⟩, fun p hp => ?_, fun l p k1 k2 k3 => ?_, fun p hp => ?_, fun k hk2 => ?_⟩
      · rw [jk 3 (by decide), ek 0 (by decide) (by omega) (by decide)]; exact s0
      · rw [jk 4 (by decide), ek 1 (by decide) (by omega) (by decide)]; exact s1
      · rw [jk 5 (by decide), ek 2 (by decide) (by omega) (by decide)]; exact s2
      · rw [jk 7 (by decide), ek 7 (by decide) (by omega) (by decide)]; exact s7
      · rw [j8, hC.2.1]
        simp only [upd]
        rw [if_neg (by omega)]
        show G.1 0 8 + _ = _
        rw [s8]
      · rw [jk 9 (by decide), ek 9 (by decide) (by omega) (by decide)]; exact s9
      · rw [jk 10 (by decide), ek 10 (by decide) (by omega) (by decide)]; exact s10
      · rw [jb 3 (by decide) (by decide), ek 6 (by decide) (by omega) (by decide)]; exact s6
      · rw [jb 1 (by decide) (by decide), hV' p hp, hC.1 (12 + p) (by omega) (by omega)]
      · rw [jc l p k1 k2 k3 trivial, hE l p k1 k2 k3]
      · rw [jw]
        show wb G.2 p = true ↔ _
        constructor
        · intro q
          have := (hw p hp).mp q
          rw [hz p this.1] at this
          exact absurd this.2 (by decide)
        · intro q
          have := q.2
          have q1 := q.1
          rw [ek _ (by omega) (by omega) (by omega), hz p q1] at this
          exact absurd this (by decide)
      · rw [jb 4 (by decide) (by decide), jb 5 (by decide) (by decide), ek _ (by omega) (by omega) (by omega), ek _ (by omega) (by omega) (by omega)]
        exact hKK k hk2
  · -- rule 0 or 2
    have ek : ∀ k : Nat, k ≠ 12 + x → k ≠ 52 + x → upd (upd g (12 + x) v) (52 + x) 1 k = g k := fun k k1 k2 => by simp only [upd]; rw [if_neg k2, if_neg k1]
    have ev : ∀ p : Nat, p < 40 → upd (upd g (12 + x) v) (52 + x) 1 (12 + p) = if p = x then v else g (12 + p) := fun p hp => by
      simp only [upd]
      rw [if_neg (by omega)]
      by_cases e : p = x
      · rw [if_pos e, if_pos (by omega)]
      · rw [if_neg e, if_neg (by omega)]
    have ew : ∀ p : Nat, p < 40 → upd (upd g (12 + x) v) (52 + x) 1 (52 + p) = if p = x then 1 else g (52 + p) := fun p hp => by
      simp only [upd]
      by_cases e : p = x
      · rw [if_pos e, if_pos (by omega)]
      · rw [if_neg e, if_neg (by omega), if_neg (by omega)]
    have eB : ∀ p : Nat, p < 40 → upd (upd g (12 + x) v) (52 + x) 1 (52 + p) = 0 ∨ upd (upd g (12 + x) v) (52 + x) 1 (52 + p) = 1 := fun p hp => by
      rw [ew p hp]
      by_cases e : p = x
      · rw [if_pos e]; exact Or.inr rfl
      · rw [if_neg e]; exact w1 p hp
    have eZ : ∀ p : Nat, n ≤ p → p < 40 → upd (upd g (12 + x) v) (52 + x) 1 (52 + p) = 0 := fun p hp hp2 => by
      rw [ew p hp2, if_neg (by omega)]; exact w2 p hp hp2
    have hW2 : WF (upd (upd g (12 + x) v) (52 + x) 1) n kc := by
      refine ⟨⟨n1, n40, by rw [ek 0 (by omega) (by omega)]; exact hn⟩, ⟨k8, by rw [ek 6 (by omega) (by omega)]; exact hk⟩, by rw [ek 1 (by omega) (by omega)]; exact hr, ⟨m, m1, m8, by rw [ek 2 (by omega) (by omega)]; exact hm⟩, ⟨eB, eZ, fun q => absurd (by rw [ek 1 (by omega) (by omega)] at q; exact q) h1⟩, fun k hk2 => ?_, fun p hp => ?_, fun l p k1 k2 k3 => ?_⟩
      · rw [ek _ (by omega) (by omega), ek _ (by omega) (by omega)]; exact hK k hk2
      · rw [ev p (by omega)]
        by_cases e : p = x
        · rw [if_pos e]; exact ⟨hv1, hv2⟩
        · rw [if_neg e]; exact hv p hp
      · have hp := pw (show l < 6 by omega)
        obtain ⟨c, c1, c2, c3, c4⟩ := hc l p k1 k2 k3
        refine ⟨c, by rw [ek _ (by omega) (by omega)]; exact c1, c2, c3, fun q => ?_⟩
        have hnx : ∀ j : Nat, p ≤ j → j < p + 2 ^ l → j ≠ x := fun j j1 j2 e => by
          have := q j j1 j2
          rw [ew j (by omega), if_pos e] at this
          exact absurd this (by decide)
        rw [c4 (fun j j1 j2 => by have := q j j1 j2; rw [ew j (by omega), if_neg (hnx j j1 j2)] at this; exact this)]
        exact lm_cg _ (fun j j1 j2 => by rw [ev j (by omega), if_neg (hnx j j1 (by omega))])
    have hR2 : RR (wL (wR G 1 x v) ((wR G 1 x v).2 ||| ((1 : Int64) <<< ((nI x).toInt64 &&& 63)))) (upd (upd g (12 + x) v) (52 + x) 1) n kc := by
      refine ⟨⟨?_, ?_, ?_, ?_, ?_, ?_, ?_, ?_⟩, fun p hp => ?_, fun l p k1 k2 k3 => ?_, fun p hp => ?_, fun k hk2 => ?_⟩
      · rw [ek 0 (by omega) (by omega)]; exact s0
      · rw [ek 1 (by omega) (by omega)]; exact s1
      · rw [ek 2 (by omega) (by omega)]; exact s2
      · rw [ek 7 (by omega) (by omega)]; exact s7
      · rw [ek 8 (by omega) (by omega)]; exact s8
      · rw [ek 9 (by omega) (by omega)]; exact s9
      · rw [ek 10 (by omega) (by omega)]; exact s10
      · rw [ek 6 (by omega) (by omega)]; exact s6
      · rw [ev p (by omega)]
        simp only [wL, wR, wr, if_true, upd]
        by_cases e : p = x
        · rw [if_pos e, if_pos e]
        · rw [if_neg e, if_neg e]; exact hV p hp
      · have hp := pw (show l < 6 by omega)
        rw [ek _ (by omega) (by omega)]
        exact hCC l p k1 k2 k3
      · show wb (G.2 ||| ((1 : Int64) <<< ((nI x).toInt64 &&& 63))) p = true ↔ _
        rw [wb_or, Bool.or_eq_true, hw p hp, shl_b x (by omega) p hp]
        by_cases e : p = x
        · subst e
          rw [ew p (by omega), if_pos rfl]
          exact ⟨fun _ => ⟨by omega, rfl⟩, fun _ => Or.inr rfl⟩
        · constructor
          · intro q
            have q := q.resolve_right e
            exact ⟨q.1, by rw [ew p q.1, if_neg e]; exact q.2⟩
          · intro q
            have q1 := q.1
            have q2 := q.2
            rw [ew p q1, if_neg e] at q2
            exact Or.inl ⟨q1, q2⟩
      · rw [ek _ (by omega) (by omega), ek _ (by omega) (by omega)]
        exact hKK k hk2
    have hbit : dnJ13_bitCount_95d88 (wL (wR G 1 x v) ((wR G 1 x v).2 ||| ((1 : Int64) <<< ((nI x).toInt64 &&& 63)))).2 = some (nI (wc (upd (upd g (12 + x) v) (52 + x) 1) n)) := bitW n40 hR2.2.2.2.1 (fun p k1 k2 => by rw [eZ p k1 k2]; decide)
    have e4 : ∀ o : Option (Int32 × gR), (if g 1 = 2 then bp (dnJ13_bitCount_95d88 (wL (wR G 1 x v) ((wR G 1 x v).2 ||| ((1 : Int64) <<< ((nI x).toInt64 &&& 63)))).2) (fun r9 => if r9 ≤ g 2 then some (g (12 + x), (wL (wR G 1 x v) ((wR G 1 x v).2 ||| ((1 : Int64) <<< ((nI x).toInt64 &&& 63))))) else bp (dnX1_buildAll (wL (wR G 1 x v) ((wR G 1 x v).2 ||| ((1 : Int64) <<< ((nI x).toInt64 &&& 63))))) (fun G12 => some (g (12 + x), G12))) else some (g (12 + x), (wL (wR G 1 x v) ((wR G 1 x v).2 ||| ((1 : Int64) <<< ((nI x).toInt64 &&& 63)))))) = o → dnX1_change G (nI x) v = o := by
      intro o ho
      unfold dnX1_change
      rw [e0, bp_s, storeC (by omega), bp_s, if_neg (show ¬ (wR G 1 x v).1 0 4 = 1 from fun q => h1 (s1.symm.trans q)), bw_s]
      rw [show (wL (wR G 1 x v) ((wR G 1 x v).2 ||| ((1 : Int64) <<< ((nI x).toInt64 &&& 63)))).1 0 4 = g 1 from s1, show (wL (wR G 1 x v) ((wR G 1 x v).2 ||| ((1 : Int64) <<< ((nI x).toInt64 &&& 63)))).1 0 5 = g 2 from s2]
      exact ho
    by_cases h2 : g 1 = 2
    · by_cases hle : nI (wc (upd (upd g (12 + x) v) (52 + x) 1) n) ≤ g 2
      · refine ⟨_, _, e4 _ ?_, setsM0 hM hn n40 hx w1 h1 (Or.inr hle), hW2, hR2⟩
        rw [if_pos h2, hbit, bp_s, if_pos hle]
      · obtain ⟨G', g', f4, f5, hW3, hR3, -, -⟩ := builds_b hM hW2.w0 hR2.r0
        refine ⟨G', g', e4 _ ?_, setsM2 hM hn n40 hx w1 h2 hle f5, hW3, hR3⟩
        rw [if_pos h2, hbit, bp_s, if_neg hle, f4, bp_s]
    · refine ⟨_, _, e4 _ ?_, setsM0 hM hn n40 hx w1 h1 (Or.inl h2), hW2, hR2⟩
      rw [if_neg h2]
