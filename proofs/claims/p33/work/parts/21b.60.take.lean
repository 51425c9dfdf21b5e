/-! a value is taken out -/
def remM (g : Nat → Int32) (x j : Nat) : Nat → Int32 := fun i => if 12 + x ≤ i ∧ i < 12 + j then g (i + 1) else g i
theorem remM_u (g : Nat → Int32) {x j : Nat} (hj : x ≤ j) : upd (remM g x j) (12 + j) (remM g x j (12 + (j + 1))) = remM g x (j + 1) := by
  funext i
  simp only [upd, remM]
  by_cases e : i = 12 + j
  · subst e; rw [if_pos rfl, if_neg (by omega), if_pos (by omega), show 12 + (j + 1) = 12 + j + 1 by omega]
  · rw [if_neg e]
    by_cases h : 12 + x ≤ i ∧ i < 12 + j
    · rw [if_pos h, if_pos (by omega)]
    · rw [if_neg h, if_neg (by omega)]
theorem takes8 {F : gF} {w n x : Nat} {v : Int32} {g : Nat → Int32} (hM : MS F w) (h0 : g 0 = nI n) (h1 : 1 ≤ n) (hn : n ≤ 40) : ∀ (N j : Nat), x ≤ j → j ≤ n - 1 → n - 1 < N + j → lpX5_takesOut_8 (nI x) v N (nI j) (st F w (remM g x j)) = some (0, st F w (remM g x (n - 1))) := by
  intro N
  induction N with
  | zero => intro j q1 q2 q3; omega
  | succ N ih =>
    intro j q1 q2 q3
    unfold lpX5_takesOut_8
    rw [show dnX5_size (st F w (remM g x j)) = some (nI n) from size_ (hM.s _) (by rw [row_st (by decide)]; simp only [remM]; rw [if_neg (by omega)]; exact h0), bp_s, show nI n - 1 = nI (n - 1) from nI_sub (b := 1) h1]
    by_cases hj : n - 1 ≤ j
    · rw [if_pos (nI_le hj (by omega)), show j = n - 1 by omega]
    · rw [if_neg (nI_ge (by omega) (by omega)), nI_1, valueM (hM.s _) (by omega), row_st (by omega), bp_s, show (12 : Int32) = nI 12 from rfl, nI_add, put_ hM (by omega), bp_s, remM_u g q1]
      exact ih (j + 1) (by omega) (by omega) (by omega)
def remC (G : gR) (x j : Nat) : gR := (fun b => if b = 1 then (fun i => if x ≤ i ∧ i < j then G.1 1 (i + 1) else G.1 1 i) else G.1 b, G.2)
theorem remC_u (G : gR) {x j : Nat} (hj : x ≤ j) : wR (remC G x j) 1 j ((remC G x j).1 1 (j + 1)) = remC G x (j + 1) := by
  apply Prod.ext
  · funext b i
    simp only [wR, wr, remC]
    by_cases h1 : b = 1
    · rw [if_pos h1, if_pos h1]
      simp only [if_true, upd, h1]
      by_cases e : i = j
      · rw [if_pos e, if_neg (by omega), if_pos (by omega), e]
      · rw [if_neg e]
        by_cases h : x ≤ i ∧ i < j
        · rw [if_pos h, if_pos (by omega)]
        · rw [if_neg h, if_neg (by omega)]
    · rw [if_neg h1, if_neg h1, if_neg h1]
  · rfl
theorem rem8 {n x : Nat} {v : Int32} {G : gR} (h0 : G.1 0 3 = nI n) (h1 : 1 ≤ n) (hn : n ≤ 40) : ∀ (N j : Nat), x ≤ j → j ≤ n - 1 → n - 1 < N + j → lpX1_remove_8 (nI x) v N (nI j) (remC G x j) = some (0, remC G x (n - 1)) := by
  intro N
  induction N with
  | zero => intro j q1 q2 q3; omega
  | succ N ih =>
    intro j q1 q2 q3
    unfold lpX1_remove_8
    rw [show (remC G x j).1 0 3 = nI n from h0, show nI n - 1 = nI (n - 1) from nI_sub (b := 1) h1]
    by_cases hj : n - 1 ≤ j
    · rw [if_pos (nI_le hj (by omega)), show j = n - 1 by omega]
    · rw [if_neg (nI_ge (by omega) (by omega)), nI_1, valueC (by omega), bp_s, storeC (by omega), bp_s, remC_u G q1]
      exact ih (j + 1) (by omega) (by omega) (by omega)
theorem RKL.set {g g' : Nat → Int32} {L : kL} {j a b : Nat} (h : RKL g L) (hj : j < L.length) (h6 : g' 6 = g 6) (ho : ∀ i : Nat, i ≠ j → g' (292 + 2 * i) = g (292 + 2 * i) ∧ g' (293 + 2 * i) = g (293 + 2 * i)) (h1 : g' (292 + 2 * j) = nI a) (h2 : g' (293 + 2 * j) = nI b) : RKL g' (L.set j (a, b)) := by
  refine ⟨by rw [List.length_set]; exact h.1, by rw [List.length_set, h6]; exact h.2.1, fun i a' b' q => ?_⟩
  rw [List.getElem?_set] at q
  by_cases e : j = i
  · subst e
    rw [if_pos rfl, if_pos hj] at q
    obtain ⟨rfl, rfl⟩ := Prod.mk.inj (Option.some.inj q)
    exact ⟨h1, h2⟩
  · rw [if_neg e] at q
    obtain ⟨o1, o2⟩ := ho i (fun z => e z.symm)
    rw [o1, o2]
    exact h.2.2 i a' b' q
theorem CKL.set {G : gR} {L : kL} {j a b : Nat} (h : CKL G L) (hj : j < L.length) : CKL (wR (wR G 4 j (nI a)) 5 j (nI b)) (L.set j (a, b)) := by
  refine ⟨by rw [List.length_set]; exact h.1, by rw [List.length_set]; exact h.2.1, fun i a' b' q => ?_⟩
  rw [List.getElem?_set] at q
  by_cases e : j = i
  · subst e
    rw [if_pos rfl, if_pos hj] at q
    obtain ⟨rfl, rfl⟩ := Prod.mk.inj (Option.some.inj q)
    simp [wR, wr, upd]
  · rw [if_neg e] at q
    have e' : ¬ i = j := fun z => e z.symm
    obtain ⟨f1, f2⟩ := h.2.2 i a' b' q
    simp [wR, wr, upd, e', f1, f2]
theorem nI_xm {x : Nat} (h : x < 100) : ¬ nI x ≤ nI x + (-1) := by
  by_cases h0 : x = 0
  · subst h0; decide
  · rw [nI_m1 (by omega)]; exact nI_ge (by omega) (by omega)
theorem close_b {F : gF} {w n x : Nat} {x2 : Int32} (hM : MS F w) (hn : n ≤ 40) (hx : x < n) : ∀ (N k : Nat) (g : Nat → Int32) (G : gR) (L : kL), k ≤ L.length → k < N → RKL g L → CKL G L → (∀ i a b : Nat, L[i]? = some (a, b) → a ≤ b ∧ b < n ∧ (k ≤ i → b < n - 1)) → ∃ (g' : Nat → Int32) (G' : gR) (L' : kL), lpX5_takesOut_54 (nI x) x2 N (nI k - 1) (st F w g) = some (1, st F w g') ∧ lpX3_closeRoomAt_7 (nI x) N (nI k - 1) G = some (0, G') ∧ RKL g' L' ∧ CKL G' L' ∧ KLv (n - 1) L' ∧ (∀ i : Nat, i < 292 → i ≠ 6 → g' i = g i) ∧ (∀ b : Nat, b ≠ 3 → b ≠ 4 → b ≠ 5 → G'.1 b = G.1 b) ∧ G'.2 = G.2 := by
  intro N
  induction N with
  | zero => intro k g G L h1 h2; omega
  | succ N ih =>
    intro k g G L h1 h2 hR hC hv
    unfold lpX5_takesOut_54 lpX3_closeRoomAt_7
    by_cases hk : k = 0
    · subst hk
      rw [if_pos (by decide), if_pos (by decide)]
      exact ⟨g, G, L, rfl, rfl, hR, hC, fun i a b q => ⟨(hv i a b q).1, (hv i a b q).2.2 (Nat.zero_le _)⟩, fun i _ _ => rfl, fun b _ _ _ => rfl, rfl⟩
    · obtain ⟨j, rfl⟩ : ∃ j : Nat, k = j + 1 := ⟨k - 1, by omega⟩
      have h8 := hR.1
      have hj : j < L.length := by omega
      obtain ⟨a, b, q⟩ := kl_get hj
      obtain ⟨v1, v2, -⟩ := hv j a b q
      obtain ⟨f1, f2⟩ := hR.2.2 j a b q
      obtain ⟨d1, d2⟩ := hC.2.2 j a b q
      obtain ⟨m1, m2⟩ := keptM (hM.s g) (show j < 8 by omega)
      rw [row_st (by omega), f1] at m1
      rw [row_st (by omega), f2] at m2
      obtain ⟨c1, c2⟩ := keptC (G := G) (show j < 8 by omega)
      rw [d1] at c1
      rw [d2] at c2
      rw [show nI (j + 1) - 1 = nI j from nI_sub (a := j + 1) (b := 1) (by omega), if_neg (nI_pos (by omega)), if_neg (nI_pos (by omega)), m2, c1, c2, bp_s, bp_s, bp_s, ← Int32.sub_eq_add_neg (nI j) 1]
      have go : ∀ (a' b' : Nat) (g1 : Nat → Int32), a' ≤ b' → b' < n - 1 → g1 6 = g 6 → (∀ i : Nat, i ≠ j → g1 (292 + 2 * i) = g (292 + 2 * i) ∧ g1 (293 + 2 * i) = g (293 + 2 * i)) → g1 (292 + 2 * j) = nI a' → g1 (293 + 2 * j) = nI b' → (∀ i : Nat, i < 292 → g1 i = g i) → ∃ (g' : Nat → Int32) (G' : gR) (L' : kL), lpX5_takesOut_54 (nI x) x2 N (nI j - 1) (st F w g1) = some (1, st F w g') ∧ lpX3_closeRoomAt_7 (nI x) N (nI j - 1) (wR (wR G 4 j (nI a')) 5 j (nI b')) = some (0, G') ∧ RKL g' L' ∧ CKL G' L' ∧ KLv (n - 1) L' ∧ (∀ i : Nat, i < 292 → i ≠ 6 → g' i = g i) ∧ (∀ b : Nat, b ≠ 3 → b ≠ 4 → b ≠ 5 → G'.1 b = G.1 b) ∧ G'.2 = G.2 := by
        intro a' b' g1 k1 k2 k3 k4 k5 k6 k7
        obtain ⟨g', G', L', e1, e2, e3, e4, e5, e6, e7, e8⟩ := ih j g1 (wR (wR G 4 j (nI a')) 5 j (nI b')) (L.set j (a', b')) (by rw [List.length_set]; omega) (by omega) (hR.set hj k3 k4 k5 k6) (hC.set hj) (fun i p1 p2 hq => by
          rw [List.getElem?_set] at hq
          by_cases e : j = i
          · rw [if_pos e, if_pos hj] at hq
            obtain ⟨rfl, rfl⟩ := Prod.mk.inj (Option.some.inj hq)
            exact ⟨k1, by omega, fun _ => k2⟩
          · rw [if_neg e] at hq
            obtain ⟨z1, z2, z3⟩ := hv i p1 p2 hq
            exact ⟨z1, z2, fun z => z3 (by omega)⟩)
        exact ⟨g', G', L', e1, e2, e3, e4, e5, fun i i1 i2 => by rw [e6 i i1 i2, k7 i i1], fun b b1 b2 b3 => by rw [e7 b b1 b2 b3]; simp only [wR, wr]; rw [if_neg b3, if_neg b2], e8⟩
      have ix1 : ∀ g1 : Nat → Int32, dnX5_adds (st F w g1) (292 + (2 * nI j)) (-1) = some (st F w (upd g1 (292 + 2 * j) (g1 (292 + 2 * j) + (-1)))) := fun g1 => by
        rw [show (2 : Int32) = nI 2 from rfl, nI_mul, show (292 : Int32) = nI 292 from rfl, nI_add, adds_ hM (by omega)]
      have ix2 : ∀ g1 : Nat → Int32, dnX5_adds (st F w g1) ((292 + (2 * nI j)) + 1) (-1) = some (st F w (upd g1 (293 + 2 * j) (g1 (293 + 2 * j) + (-1)))) := fun g1 => by
        rw [show (2 : Int32) = nI 2 from rfl, nI_mul, show (292 : Int32) = nI 292 from rfl, nI_add, nI_1, show 292 + 2 * j + 1 = 293 + 2 * j by omega, adds_ hM (by omega)]
      have kf : ∀ g1 : Nat → Int32, dnX5_keptFrom (st F w g1) (nI j) = some (g1 (292 + 2 * j)) ∧ dnX5_keptTo (st F w g1) (nI j) = some (g1 (293 + 2 * j)) := fun g1 => by
        have h := keptM (hM.s g1) (show j < 8 by omega)
        rw [row_st (by omega), row_st (by omega)] at h
        exact h
      by_cases hb : x ≤ b
      · rw [if_pos (nI_le hb (by omega)), m1, bp_s]
        by_cases ha : a ≤ x
        · rw [if_pos (nI_le ha (by omega)), ix2, bp_s, (kf _).1, (kf _).2, bp_s, bp_s]
          by_cases hxx : a = x ∧ b = x
          · obtain ⟨rfl, rfl⟩ := hxx
            have hX : RKX (upd g (293 + 2 * j) (g (293 + 2 * j) + (-1))) L j := ⟨h8, by simp only [upd]; rw [if_neg (by omega)]; exact hR.2.1, fun i p1 p2 i1 i2 => by
              obtain ⟨z1, z2⟩ := hR.2.2 i p1 p2 i2
              simp only [upd]
              rw [if_neg (by omega), if_neg (by omega)]
              exact ⟨z1, z2⟩⟩
            obtain ⟨g1, r1, r2, r3⟩ := forgetsM hM hX hj
            obtain ⟨G1, t1, t2, t3, t4⟩ := removeC hC hj
            obtain ⟨g', G', L', e1, e2, e3, e4, e5, e6, e7, e8⟩ := ih j g1 G1 (L.eraseIdx j) (by rw [List.length_eraseIdx_of_lt hj]; omega) (by omega) r2 t2 (fun i p1 p2 hq => by
              rw [List.getElem?_eraseIdx] at hq
              by_cases e : i < j
              · rw [if_pos e] at hq
                obtain ⟨z1, z2, z3⟩ := hv i p1 p2 hq
                exact ⟨z1, z2, fun z => by omega⟩
              · rw [if_neg e] at hq
                obtain ⟨z1, z2, z3⟩ := hv (i + 1) p1 p2 hq
                exact ⟨z1, z2, fun z => z3 (by omega)⟩)
            refine ⟨g', G', L', ?_, ?_, e3, e4, e5, fun i i1 i2 => ?_, fun b b1 b2 b3 => by rw [e7 b b1 b2 b3, t3 b b1 b2 b3], e8.trans t4⟩
            · rw [if_neg (by
                simp only [upd, if_true]
                rw [if_neg (by omega), f1, f2]
                exact nI_xm (by omega)), r1, bs_s, if_pos (nI_pos' (by omega))]
              exact e1
            · rw [if_pos rfl, if_pos rfl, t1, bp_s]
              exact e2
            · rw [e6 i i1 i2, r3 i i1 i2]; simp only [upd]; rw [if_neg (by omega)]
          · obtain ⟨g', G', L', e1, e2, e3⟩ := go a (b - 1) (upd g (293 + 2 * j) (g (293 + 2 * j) + (-1))) (by omega) (by omega) (by simp only [upd]; rw [if_neg (by omega)]) (fun i hi => by simp only [upd]; rw [if_neg (by omega), if_neg (by omega)]; exact ⟨rfl, rfl⟩) (by simp only [upd]; rw [if_neg (by omega)]; exact f1) (by simp only [upd, if_true]; rw [f2, nI_m1 (by omega)]) (fun i hi => by simp only [upd]; rw [if_neg (by omega)])
            refine ⟨g', G', L', ?_, ?_, e3⟩
            · rw [if_pos (by
                simp only [upd, if_true]
                rw [if_neg (by omega), f1, f2, nI_m1 (by omega)]
                exact nI_le (by omega) (by omega))]
              exact e1
            · have eb : nI b - 1 = nI (b - 1) := nI_sub (b := 1) (by omega)
              by_cases hax : a = x
              · subst hax
                rw [if_pos rfl, if_neg (fun z => by have := (nI_eq (by omega) (by omega)).mp z; omega), if_pos (Int32.le_refl _), if_neg (nI_nlt (by omega) (by omega)), eb, store3C (by omega), bp_s]
                exact e2
              · rw [if_neg (fun z => hax ((nI_eq (by omega) (by omega)).mp z)), if_pos (nI_le ha (by omega)), if_neg (nI_nlt (by omega) (by omega)), eb, store3C (by omega), bp_s]
                exact e2
        · obtain ⟨g', G', L', e1, e2, e3⟩ := go (a - 1) (b - 1) (upd (upd g (292 + 2 * j) (g (292 + 2 * j) + (-1))) (293 + 2 * j) (upd g (292 + 2 * j) (g (292 + 2 * j) + (-1)) (293 + 2 * j) + (-1))) (by omega) (by omega) (by simp only [upd]; rw [if_neg (by omega), if_neg (by omega)]) (fun i hi => by simp only [upd]; rw [if_neg (by omega), if_neg (by omega), if_neg (by omega), if_neg (by omega)]; exact ⟨rfl, rfl⟩) (by simp only [upd, if_true]; rw [if_neg (by omega), f1, nI_m1 (by omega)]) (by simp only [upd, if_true]; rw [if_neg (by omega), f2, nI_m1 (by omega)]) (fun i hi => by simp only [upd]; rw [if_neg (by omega), if_neg (by omega)])
          refine ⟨g', G', L', ?_, ?_, e3⟩
          · rw [if_neg (nI_ge (by omega) (by omega)), ix1, bp_s, ix2, bp_s, (kf _).1, (kf _).2, bp_s, bp_s, if_pos (by
              simp only [upd, if_true]
              rw [if_neg (by omega), if_neg (by omega), f1, f2, nI_m1 (by omega), nI_m1 (by omega)]
              exact nI_le (by omega) (by omega))]
            exact e1
          · rw [if_neg (fun z => by have := (nI_eq (by omega) (by omega)).mp z; omega), if_neg (nI_ge (by omega) (by omega)), if_neg (nI_nlt (by omega) (by omega)), show nI a - 1 = nI (a - 1) from nI_sub (b := 1) (by omega), show nI b - 1 = nI (b - 1) from nI_sub (b := 1) (by omega), store3C (by omega), bp_s]
            exact e2
      · obtain ⟨g', G', L', e1, e2, e3⟩ := go a b g v1 (by omega) rfl (fun i _ => ⟨rfl, rfl⟩) f1 f2 (fun i _ => rfl)
        refine ⟨g', G', L', ?_, ?_, e3⟩
        · rw [if_neg (nI_ge (by omega) (by omega))]
          exact e1
        · rw [if_neg (fun z => by have := (nI_eq (by omega) (by omega)).mp z; omega), if_pos (nI_le (by omega) (by omega)), if_pos (nI_lt (by omega) (by omega)), store3C (by omega), bp_s]
          exact e2
theorem remove_b {F : gF} {w n kc x : Nat} {G : gR} {g : Nat → Int32} (hM : MS F w) (hW : WF g n kc) (hR : RR G g n kc) (h2 : 2 ≤ n) (hx : x < n) : ∃ (G' : gR) (g' : Nat → Int32) (kc' : Nat), dnX1_remove G (nI x) = some (g (12 + x), G') ∧ dnX5_takesOut (st F w g) (nI x) = some (g (12 + x), st F w g') ∧ WF g' (n - 1) kc' ∧ RR G' g' (n - 1) kc' := by
  obtain ⟨L, hl, hL, hC, hv⟩ := kl_of hW hR
  have h0 := hW.1.2.2
  have n40 := hW.1.2.1
  have hc0 : G.1 0 3 = nI n := hR.1.1.trans h0
  have hvv := hW.2.2.2.2.2.2.1
  have h8 := hL.1
  have m0 : remM g x x = g := by funext i; unfold remM; rw [if_neg (by omega)]
  have c0 : remC G x x = G := by
    apply Prod.ext
    · funext b i
      simp only [remC]
      by_cases h1 : b = 1
      · rw [if_pos h1, if_neg (by omega), h1]
      · rw [if_neg h1]
    · rfl
  have e5 := takes8 (g := g) (v := g (12 + x)) hM h0 (by omega) n40 FU x (Nat.le_refl _) (by omega) (by unfold FU; omega)
  have e4 := rem8 (v := g (12 + x)) hc0 (by omega) n40 FU x (Nat.le_refl _) (by omega) (by unfold FU; omega)
  rw [m0] at e5
  rw [c0] at e4
  have k1 : remM g x (n - 1) 0 + (-1) = nI (n - 1) := by simp only [remM]; rw [if_neg (by omega), h0, nI_m1 (by omega)]
  have k2 : (remC G x (n - 1)).1 0 3 - 1 = nI (n - 1) := by
    show G.1 0 3 - 1 = _
    rw [hc0]; exact nI_sub (b := 1) (by omega)
  have hL1 : RKL (upd (remM g x (n - 1)) 0 (nI (n - 1))) L := by
    refine ⟨h8, by simp only [upd, remM]; rw [if_neg (by omega), if_neg (by omega)]; exact hL.2.1, fun i a b q => ?_⟩
    obtain ⟨f1, f2⟩ := hL.2.2 i a b q
    constructor
    · simp only [upd, remM]; rw [if_neg (by omega), if_neg (by omega)]; exact f1
    · simp only [upd, remM]; rw [if_neg (by omega), if_neg (by omega)]; exact f2
  have hC1 : CKL (wR (remC G x (n - 1)) 0 3 (nI (n - 1))) L := ⟨h8, hC.2.1, fun i a b q => hC.2.2 i a b q⟩
  obtain ⟨g2, G2, L', e52, e42, hL2, hC2, hv2, hf2, hb2, hw2⟩ := close_b (x2 := g (12 + x)) hM n40 hx FU L.length _ _ L (Nat.le_refl _) (by unfold FU; omega) hL1 hC1 (fun i a b q => ⟨(hv i a b q).1, (hv i a b q).2, fun z => by have := kl_lt q; omega⟩)
  have gv : ∀ p : Nat, p < n - 1 → g2 (12 + p) = if p < x then g (12 + p) else g (12 + (p + 1)) := fun p hp => by
    rw [hf2 _ (by omega) (by omega)]
    simp only [upd, remM]
    rw [if_neg (by omega)]
    by_cases e2 : p < x
    · rw [if_pos e2, if_neg (by omega)]
    · rw [if_neg e2, if_pos (by omega), show 12 + p + 1 = 12 + (p + 1) by omega]
  have Gv : ∀ p : Nat, p < n - 1 → G2.1 1 p = if p < x then G.1 1 p else G.1 1 (p + 1) := fun p hp => by
    rw [hb2 1 (by decide) (by decide) (by decide)]
    simp only [wR, wr, remC, if_true]
    rw [if_neg (by decide)]
    by_cases e2 : p < x
    · rw [if_pos e2, if_neg (by omega)]
    · rw [if_neg e2, if_pos (by omega)]
  obtain ⟨hW0, hR0⟩ := W0R0.mk (g' := g2) (G' := G2) (n' := n - 1) hW hR (by omega) (by omega) (fun k q1 q2 q3 => by
      rw [hf2 k (by omega) q3]; simp only [upd, remM]; rw [if_neg q2, if_neg (by omega)]) (fun k q => by
      rw [hb2 0 (by decide) (by decide) (by decide)]; simp only [wR, wr, remC, if_true, upd]; rw [if_neg q, if_neg (by decide)]) (by
      rw [hf2 0 (by omega) (by decide)]; simp [upd]) (by rw [hb2 0 (by decide) (by decide) (by decide)]; simp [wR, wr, upd]) (fun p hp => by
      rw [gv p hp, Gv p hp]
      by_cases e2 : p < x
      · rw [if_pos e2, if_pos e2]; exact ⟨hR.2.1 p (by omega), hvv p (by omega)⟩
      · rw [if_neg e2, if_neg e2]; exact ⟨hR.2.1 _ (by omega), hvv _ (by omega)⟩) hL2 hC2 hv2
  obtain ⟨G3, g3, b4, b5, hW3, hR3, -, -⟩ := builds_b hM hW0 hR0
  refine ⟨G3, g3, L'.length, ?_, ?_, hW3, hR3⟩
  · unfold dnX1_remove dnX3_closeRoomAt
    rw [valueC (by omega), hR.2.1 x hx, bp_s, e4, bp_s, k2, bw_s, hC1.2.1, e42, bp_s, bp_s, b4, bp_s]
  · unfold dnX5_takesOut
    rw [valueM (hM.s g) (by omega), row_st (by omega), bp_s, e5, bp_s, show (0 : Int32) = nI 0 from rfl, adds_ hM (by decide), bp_s, k1, show (6 : Int32) = nI 6 from rfl, get_ hM (by decide), bp_s, hL1.2.1, e52, bp_s, if_neg (show ¬ (1 : Nat) = 0 by decide), b5, bp_s]
/-! the rule, and most -/
theorem rule_b {F : gF} {w n kc : Nat} {v : Int32} {G : gR} {g : Nat → Int32} (hM : MS F w) (hW : WF g n kc) (hR : RR G g n kc) (hv : v = 0 ∨ v = 1 ∨ v = 2) : ∃ (G' : gR) (g' : Nat → Int32), dnX1_changeRule G v = some (g 1, G') ∧ dnX5_builds (st F w (upd g 1 v)) = some (st F w g') ∧ WF g' n kc ∧ RR G' g' n kc := by
  obtain ⟨⟨n1, n40, hn⟩, ⟨k8, hk⟩, hr, ⟨m, m1, m8, hm⟩, hK, hvv⟩ := hW.w0
  obtain ⟨⟨s0, s1, s2, s7, s8, s9, s10, s6⟩, hV, hKK⟩ := hR.r0
  have eg : ∀ k : Nat, k ≠ 1 → upd g 1 v k = g k := fun k h => by simp only [upd]; rw [if_neg h]
  have hW2 : W0 (upd g 1 v) n kc := ⟨⟨n1, n40, by rw [eg 0 (by decide)]; exact hn⟩, ⟨k8, by rw [eg 6 (by decide)]; exact hk⟩, by simp only [upd, if_true]; exact hv, ⟨m, m1, m8, by rw [eg 2 (by decide)]; exact hm⟩, fun k q => by rw [eg _ (by omega), eg _ (by omega)]; exact hK k q, fun p q => by rw [eg _ (by omega)]; exact hvv p q⟩
  have hR2 : R0 (wR G 0 4 v) (upd g 1 v) n kc := ⟨⟨by rw [eg 0 (by decide)]; exact s0, by simp [wR, wr, upd], by rw [eg 2 (by decide)]; exact s2, by rw [eg 7 (by decide)]; exact s7, by rw [eg 8 (by decide)]; exact s8, by rw [eg 9 (by decide)]; exact s9, by rw [eg 10 (by decide)]; exact s10, by rw [eg 6 (by decide)]; exact s6⟩, fun p q => by rw [eg _ (by omega)]; exact hV p q, fun k q => by rw [eg _ (by omega), eg _ (by omega)]; exact hKK k q⟩
  obtain ⟨G', g', e4, e5, hW3, hR3, -, -⟩ := builds_b hM hW2 hR2
  refine ⟨G', g', ?_, e5, hW3, hR3⟩
  unfold dnX1_changeRule
  rw [bw_s, e4, bp_s, s1]
theorem most_b {n kc m : Nat} {G : gR} {g : Nat → Int32} (hW : WF g n kc) (hR : RR G g n kc) (h1 : 1 ≤ m) (h8 : m ≤ 8) : WF (upd g 2 (nI m)) n kc ∧ RR (wR G 0 5 (nI m)) (upd g 2 (nI m)) n kc := by
  obtain ⟨⟨n1, n40, hn⟩, ⟨k8, hk⟩, hr, -, ⟨w1, w2, w3⟩, hK, hv, hc⟩ := hW
  obtain ⟨⟨s0, s1, s2, s7, s8, s9, s10, s6⟩, hV, hCC, hw, hKK⟩ := hR
  have eg : ∀ k : Nat, k ≠ 2 → upd g 2 (nI m) k = g k := fun k h => by simp only [upd]; rw [if_neg h]
  refine ⟨⟨⟨n1, n40, by rw [eg 0 (by decide)]; exact hn⟩, ⟨k8, by rw [eg 6 (by decide)]; exact hk⟩, by rw [eg 1 (by decide)]; exact hr, ⟨m, h1, h8, by simp [upd]⟩, ⟨fun p q => by rw [eg _ (by omega)]; exact w1 p q, fun p q q2 => by rw [eg _ (by omega)]; exact w2 p q q2, fun q p q2 => by rw [eg _ (by omega)]; exact w3 (by rw [← eg 1 (by decide)]; exact q) p q2⟩, fun k q => by rw [eg _ (by omega), eg _ (by omega)]; exact hK k q, fun p q => by rw [eg _ (by omega)]; exact hv p q, fun l p k1 k2 k3 => ?_⟩, ⟨by rw [eg 0 (by decide)]; exact s0, by rw [eg 1 (by decide)]; exact s1, by simp [wR, wr, upd], by rw [eg 7 (by decide)]; exact s7, by rw [eg 8 (by decide)]; exact s8, by rw [eg 9 (by decide)]; exact s9, by rw [eg 10 (by decide)]; exact s10, by rw [eg 6 (by decide)]; exact s6⟩, fun p q => by rw [eg _ (by omega)]; exact hV p q, fun l p k1 k2 k3 => by rw [eg _ (by omega)]; exact hCC l p k1 k2 k3, fun p q => ?_, fun k q => by rw [eg _ (by omega), eg _ (by omega)]; exact hKK k q⟩
  · have hp := pw (show l < 6 by omega)
    obtain ⟨c, c1, c2, c3, c4⟩ := hc l p k1 k2 k3
    refine ⟨c, by rw [eg _ (by omega)]; exact c1, c2, c3, fun q => ?_⟩
    rw [c4 (fun j j1 j2 => by have := q j j1 j2; rw [eg _ (by omega)] at this; exact this)]
    exact lm_cg _ (fun j j1 j2 => (eg _ (by omega)).symm)
  · show wb G.2 p = true ↔ _
    rw [eg _ (by omega)]
    exact hw p q
