/-! a value is put in -/
theorem W0R0.mk {G G' : gR} {g g' : Nat → Int32} {n n' kc : Nat} {L : kL} (hW : WF g n kc) (hR : RR G g n kc) (h1 : 1 ≤ n') (h40 : n' ≤ 40) (hg : ∀ k : Nat, k < 12 → k ≠ 0 → k ≠ 6 → g' k = g k) (hG : ∀ k : Nat, k ≠ 3 → G'.1 0 k = G.1 0 k) (h0 : g' 0 = nI n') (h3 : G'.1 0 3 = nI n') (hV : ∀ p : Nat, p < n' → G'.1 1 p = g' (12 + p) ∧ -999 ≤ g' (12 + p) ∧ g' (12 + p) ≤ 999) (hL : RKL g' L) (hC : CKL G' L) (hv : KLv n' L) : W0 g' n' L.length ∧ R0 G' g' n' L.length := by
  obtain ⟨-, -, hr, hm, -⟩ := hW
  obtain ⟨⟨s0, s1, s2, s7, s8, s9, s10, s6⟩, -⟩ := hR
  refine ⟨⟨⟨h1, h40, h0⟩, ⟨hL.1, hL.2.1⟩, by rw [hg 1 (by decide) (by decide) (by decide)]; exact hr, by rw [hg 2 (by decide) (by decide) (by decide)]; exact hm, fun k hk => ?_, fun p hp => (hV p hp).2⟩, ⟨h3.trans h0.symm, ?_, ?_, ?_, ?_, ?_, ?_, ?_⟩, fun p hp => (hV p hp).1, fun k hk => ?_⟩
  · obtain ⟨a, b, q⟩ := kl_get hk
    obtain ⟨e1, e2⟩ := hL.2.2 k a b q
    obtain ⟨v1, v2⟩ := hv k a b q
    exact ⟨a, b, e1, e2, v1, v2⟩
  · rw [hG 4 (by decide), hg 1 (by decide) (by decide) (by decide)]; exact s1
  · rw [hG 5 (by decide), hg 2 (by decide) (by decide) (by decide)]; exact s2
  · rw [hG 7 (by decide), hg 7 (by decide) (by decide) (by decide)]; exact s7
  · rw [hG 8 (by decide), hg 8 (by decide) (by decide) (by decide)]; exact s8
  · rw [hG 9 (by decide), hg 9 (by decide) (by decide) (by decide)]; exact s9
  · rw [hG 10 (by decide), hg 10 (by decide) (by decide) (by decide)]; exact s10
  · rw [hC.2.1, hL.2.1]
  · obtain ⟨a, b, q⟩ := kl_get hk
    obtain ⟨e1, e2⟩ := hL.2.2 k a b q
    obtain ⟨f1, f2⟩ := hC.2.2 k a b q
    rw [e1, e2]; exact ⟨f1, f2⟩
def insM (g : Nat → Int32) (n j : Nat) : Nat → Int32 := fun i => if 12 + j < i ∧ i ≤ 12 + n then g (i - 1) else g i
theorem insM_u (g : Nat → Int32) {n j : Nat} (h0 : 0 < j) (hj : j ≤ n) : upd (insM g n j) (12 + j) (insM g n j (12 + (j - 1))) = insM g n (j - 1) := by
  funext i
  simp only [upd, insM]
  by_cases e : i = 12 + j
  · subst e; rw [if_pos rfl, if_neg (by omega), if_pos (by omega), show 12 + (j - 1) = 12 + j - 1 by omega]
  · rw [if_neg e]
    by_cases h : 12 + j < i ∧ i ≤ 12 + n
    · rw [if_pos h, if_pos (by omega)]
    · rw [if_neg h, if_neg (by omega)]
theorem nI_m1 {j : Nat} (h : 0 < j) : nI j + (-1) = nI (j - 1) := by
  rw [← Int32.sub_eq_add_neg]; exact nI_sub (b := 1) h
theorem puts5 {F : gF} {w n x : Nat} {v : Int32} {g : Nat → Int32} (hM : MS F w) (hn : n < 40) : ∀ (N j : Nat), x ≤ j → j ≤ n → j < N + x → lpX5_putsIn_5 (nI x) v N (nI j) (st F w (insM g n j)) = some (0, st F w (insM g n x)) := by
  intro N
  induction N with
  | zero => intro j h1 h2 h3; omega
  | succ N ih =>
    intro j h1 h2 h3
    unfold lpX5_putsIn_5
    by_cases hj : j ≤ x
    · rw [if_pos (nI_le hj (by omega)), show j = x by omega]
    · rw [if_neg (nI_ge (by omega) (by omega)), show nI j - 1 = nI (j - 1) from nI_sub (b := 1) (by omega), valueM (hM.s _) (by omega), row_st (by omega), bp_s, show (12 : Int32) = nI 12 from rfl, nI_add, put_ hM (by omega), bp_s, insM_u g (by omega) h2, nI_m1 (by omega)]
      exact ih (j - 1) (by omega) (by omega) (by omega)
def insC (G : gR) (n j : Nat) : gR := (fun b => if b = 1 then (fun i => if j < i ∧ i ≤ n then G.1 1 (i - 1) else G.1 1 i) else G.1 b, G.2)
theorem insC_u (G : gR) {n j : Nat} (h0 : 0 < j) (hj : j ≤ n) : wR (insC G n j) 1 j ((insC G n j).1 1 (j - 1)) = insC G n (j - 1) := by
  apply Prod.ext
  · funext b i
    simp only [wR, wr, insC]
    by_cases h1 : b = 1
    · rw [if_pos h1, if_pos h1]
      simp only [if_true, upd, h1]
      by_cases e : i = j
      · rw [if_pos e, if_neg (by omega), if_pos (by omega), e]
      · rw [if_neg e]
        by_cases h : j < i ∧ i ≤ n
        · rw [if_pos h, if_pos (by omega)]
        · rw [if_neg h, if_neg (by omega)]
    · rw [if_neg h1, if_neg h1, if_neg h1]
  · rfl
theorem ins5 {n x : Nat} {v : Int32} {G : gR} (hn : n < 40) : ∀ (N j : Nat), x ≤ j → j ≤ n → j < N + x → lpX1_insert_5 (nI x) v N (nI j) (insC G n j) = some (0, insC G n x) := by
  intro N
  induction N with
  | zero => intro j h1 h2 h3; omega
  | succ N ih =>
    intro j h1 h2 h3
    unfold lpX1_insert_5
    by_cases hj : j ≤ x
    · rw [if_pos (nI_le hj (by omega)), show j = x by omega]
    · rw [if_neg (nI_ge (by omega) (by omega)), show nI j - 1 = nI (j - 1) from nI_sub (b := 1) (by omega), valueC (by omega), bp_s, storeC (by omega), bp_s, insC_u G (by omega) h2, nI_m1 (by omega)]
      exact ih (j - 1) (by omega) (by omega) (by omega)
/-- a stretch's end when a value comes in at x -/
def upx (x a : Nat) : Nat := if x ≤ a then a + 1 else a
def RKm (x : Nat) (g : Nat → Int32) (L : kL) (k : Nat) : Prop := g 6 = nI L.length ∧ ∀ i a b : Nat, L[i]? = some (a, b) → g (292 + 2 * i) = nI (if i < k then upx x a else a) ∧ g (293 + 2 * i) = nI (if i < k then upx x b else b)
theorem RKm.same {x : Nat} {g g' : Nat → Int32} {L : kL} {k : Nat} {a b : Nat} (h : RKm x g L k) (hk : L[k]? = some (a, b)) (h6 : g' 6 = g 6) (ho : ∀ i : Nat, i ≠ k → g' (292 + 2 * i) = g (292 + 2 * i) ∧ g' (293 + 2 * i) = g (293 + 2 * i)) (h1 : g' (292 + 2 * k) = nI (upx x a)) (h2 : g' (293 + 2 * k) = nI (upx x b)) : RKm x g' L (k + 1) := by
  refine ⟨h6.trans h.1, fun i a' b' q => ?_⟩
  by_cases e : i = k
  · subst e
    rw [hk] at q
    obtain ⟨rfl, rfl⟩ := Prod.mk.inj (Option.some.inj q)
    rw [if_pos (by omega), if_pos (by omega)]
    exact ⟨h1, h2⟩
  · obtain ⟨f1, f2⟩ := h.2 i a' b' q
    obtain ⟨o1, o2⟩ := ho i e
    rw [o1, o2, f1, f2]
    by_cases hi : i < k
    · rw [if_pos hi, if_pos hi, if_pos (by omega), if_pos (by omega)]; exact ⟨rfl, rfl⟩
    · rw [if_neg hi, if_neg hi, if_neg (by omega), if_neg (by omega)]; exact ⟨rfl, rfl⟩
theorem puts48 {F : gF} {w n x : Nat} {L : kL} (hM : MS F w) (hn : n ≤ 40) (hx : x ≤ 40) (h8 : L.length ≤ 8) (hv : KLv n L) : ∀ (N k : Nat) (g : Nat → Int32), k ≤ L.length → L.length < N + k → RKm x g L k → ∃ g' : Nat → Int32, lpX5_putsIn_48 (nI x) N (nI k) (st F w g) = some (0, st F w g') ∧ RKm x g' L L.length ∧ (∀ i : Nat, i < 292 → g' i = g i) := by
  intro N
  induction N with
  | zero => intro k g h1 h2; omega
  | succ N ih =>
    intro k g h1 h2 hm
    unfold lpX5_putsIn_48
    rw [show (6 : Int32) = nI 6 from rfl, get_ hM (by decide), bp_s, hm.1]
    by_cases hk : L.length ≤ k
    · have ek : L.length = k := by omega
      rw [if_pos (nI_le hk (by omega))]
      exact ⟨g, rfl, by rw [ek]; exact hm, fun i _ => rfl⟩
    · obtain ⟨a, b, q⟩ := kl_get (show k < L.length by omega)
      obtain ⟨v1, v2⟩ := hv k a b q
      obtain ⟨f1, f2⟩ := hm.2 k a b q
      rw [if_neg (by omega)] at f1
      rw [if_neg (by omega)] at f2
      obtain ⟨m1, m2⟩ := keptM (hM.s g) (show k < 8 by omega)
      rw [row_st (by omega), f1] at m1
      rw [row_st (by omega), f2] at m2
      rw [if_neg (nI_ge (by omega) (by omega)), m2, bp_s]
      by_cases hb : x ≤ b
      · rw [if_pos (nI_le hb (by omega)), m1, bp_s]
        by_cases ha : a < x
        · obtain ⟨g', e, hm', hf⟩ := ih (k + 1) (upd g (293 + 2 * k) (g (293 + 2 * k) + 1)) (by omega) (by omega) (hm.same q (by simp only [upd]; rw [if_neg (by omega)]) (fun i hi => by simp only [upd]; rw [if_neg (by omega), if_neg (by omega)]; exact ⟨rfl, rfl⟩) (by simp only [upd]; rw [if_neg (by omega), f1, upx, if_neg (by omega)]) (by simp only [upd, if_true]; rw [f2, nI_1, upx, if_pos hb]))
          refine ⟨g', ?_, hm', fun i hi => by rw [hf i hi]; simp only [upd]; rw [if_neg (by omega)]⟩
          rw [if_pos (nI_lt ha (by omega)), show (2 : Int32) = nI 2 from rfl, nI_mul, show (292 : Int32) = nI 292 from rfl, nI_add, nI_1, show 292 + 2 * k + 1 = 293 + 2 * k by omega, adds_ hM (by omega), bp_s, nI_1]
          exact e
        · obtain ⟨g', e, hm', hf⟩ := ih (k + 1) (upd (upd g (292 + 2 * k) (g (292 + 2 * k) + 1)) (293 + 2 * k) (upd g (292 + 2 * k) (g (292 + 2 * k) + 1) (293 + 2 * k) + 1)) (by omega) (by omega) (hm.same q (by simp only [upd]; rw [if_neg (by omega), if_neg (by omega)]) (fun i hi => by simp only [upd]; rw [if_neg (by omega), if_neg (by omega), if_neg (by omega), if_neg (by omega)]; exact ⟨rfl, rfl⟩) (by simp only [upd, if_true]; rw [if_neg (by omega), f1, nI_1, upx, if_pos (by omega)]) (by simp only [upd, if_true]; rw [if_neg (by omega), f2, nI_1, upx, if_pos hb]))
          refine ⟨g', ?_, hm', fun i hi => by rw [hf i hi]; simp only [upd]; rw [if_neg (by omega), if_neg (by omega)]⟩
          rw [if_neg (nI_nlt (by omega) (by omega)), show (2 : Int32) = nI 2 from rfl, nI_mul, show (292 : Int32) = nI 292 from rfl, nI_add, adds_ hM (by omega), bp_s, nI_1, show 292 + 2 * k + 1 = 293 + 2 * k by omega, adds_ hM (by omega), bp_s, nI_1]
          exact e
      · obtain ⟨g', e, hm', hf⟩ := ih (k + 1) g (by omega) (by omega) (hm.same q rfl (fun i _ => ⟨rfl, rfl⟩) (by rw [f1, upx, if_neg (by omega)]) (by rw [f2, upx, if_neg (by omega)]))
        rw [if_neg (nI_ge (by omega) (by omega)), nI_1]
        exact ⟨g', e, hm', hf⟩
def CKm (x : Nat) (G : gR) (L : kL) (k : Nat) : Prop := G.1 3 2 = nI L.length ∧ ∀ i a b : Nat, L[i]? = some (a, b) → G.1 4 i = nI (if i < k then upx x a else a) ∧ G.1 5 i = nI (if i < k then upx x b else b)
theorem CKm.same {x : Nat} {G : gR} {L : kL} {k : Nat} {a b : Nat} (h : CKm x G L k) (hk : L[k]? = some (a, b)) : CKm x (wR (wR G 4 k (nI (upx x a))) 5 k (nI (upx x b))) L (k + 1) := by
  refine ⟨h.1, fun i a' b' q => ?_⟩
  by_cases e : i = k
  · subst e
    rw [hk] at q
    obtain ⟨rfl, rfl⟩ := Prod.mk.inj (Option.some.inj q)
    rw [if_pos (by omega), if_pos (by omega)]
    simp [wR, wr, upd]
  · obtain ⟨f1, f2⟩ := h.2 i a' b' q
    have o1 : (wR (wR G 4 k (nI (upx x a))) 5 k (nI (upx x b))).1 4 i = G.1 4 i := by simp [wR, wr, upd, e]
    have o2 : (wR (wR G 4 k (nI (upx x a))) 5 k (nI (upx x b))).1 5 i = G.1 5 i := by simp [wR, wr, upd, e]
    rw [o1, o2, f1, f2]
    by_cases hi : i < k
    · rw [if_pos hi, if_pos hi, if_pos (by omega), if_pos (by omega)]; exact ⟨rfl, rfl⟩
    · rw [if_neg hi, if_neg hi, if_neg (by omega), if_neg (by omega)]; exact ⟨rfl, rfl⟩
theorem room2 {n x : Nat} {L : kL} (hn : n ≤ 40) (hx : x ≤ 40) (h8 : L.length ≤ 8) (hv : KLv n L) : ∀ (N k : Nat) (G : gR), k ≤ L.length → L.length < N + k → CKm x G L k → ∃ G' : gR, lpX3_makeRoomAt_2 (nI x) N (nI k) G = some (0, G') ∧ CKm x G' L L.length ∧ (∀ b : Nat, b ≠ 4 → b ≠ 5 → G'.1 b = G.1 b) ∧ G'.2 = G.2 := by
  intro N
  induction N with
  | zero => intro k G h1 h2; omega
  | succ N ih =>
    intro k G h1 h2 hm
    unfold lpX3_makeRoomAt_2
    rw [hm.1]
    by_cases hk : L.length ≤ k
    · have ek : L.length = k := by omega
      rw [if_pos (nI_le hk (by omega))]
      exact ⟨G, rfl, by rw [ek]; exact hm, fun i _ _ => rfl, rfl⟩
    · obtain ⟨a, b, q⟩ := kl_get (show k < L.length by omega)
      obtain ⟨v1, v2⟩ := hv k a b q
      obtain ⟨f1, f2⟩ := hm.2 k a b q
      rw [if_neg (by omega)] at f1
      rw [if_neg (by omega)] at f2
      obtain ⟨c1, c2⟩ := keptC (G := G) (show k < 8 by omega)
      rw [f1] at c1
      rw [f2] at c2
      obtain ⟨G', e, hm', hf, hw⟩ := ih (k + 1) (wR (wR G 4 k (nI (upx x a))) 5 k (nI (upx x b))) (by omega) (by omega) (hm.same q)
      refine ⟨G', ?_, hm', fun i k1 k2 => by rw [hf i k1 k2]; simp only [wR, wr]; rw [if_neg k2, if_neg k1], hw⟩
      rw [if_neg (nI_ge (by omega) (by omega)), c1, bp_s, c2, bp_s]
      unfold upx at e
      by_cases ha : a < x
      · rw [if_neg (by omega)] at e
        rw [if_pos (nI_lt ha (by omega))]
        by_cases hb : b < x
        · rw [if_neg (by omega)] at e
          rw [if_pos (nI_lt hb (by omega)), store3C (by omega), bp_s, nI_1]; exact e
        · rw [if_pos (by omega)] at e
          rw [if_neg (nI_nlt (by omega) (by omega)), nI_1, store3C (by omega), bp_s, nI_1]; exact e
      · rw [if_pos (by omega), if_pos (by omega)] at e
        rw [if_neg (nI_nlt (by omega) (by omega)), if_neg (nI_nlt (by omega) (by omega)), nI_1, nI_1, store3C (by omega), bp_s, nI_1]; exact e
theorem KLv.up {n x : Nat} {L : kL} (h : KLv n L) : KLv (n + 1) (L.map (fun q => (upx x q.1, upx x q.2))) := by
  intro k a b q
  rw [List.getElem?_map] at q
  cases e : L[k]? with
  | none => rw [e] at q; cases q
  | some z =>
    rw [e] at q
    obtain ⟨a', b'⟩ := z
    obtain ⟨rfl, rfl⟩ := Prod.mk.inj (show (upx x a', upx x b') = (a, b) from Option.some.inj q)
    obtain ⟨v1, v2⟩ := h k a' b' e
    unfold upx
    by_cases h1 : x ≤ a'
    · rw [if_pos h1, if_pos (by omega)]; omega
    · rw [if_neg h1]; split <;> omega
theorem RKm.fin {x : Nat} {g : Nat → Int32} {L : kL} (h8 : L.length ≤ 8) (h : RKm x g L L.length) : RKL g (L.map (fun q => (upx x q.1, upx x q.2))) := by
  refine ⟨by rw [List.length_map]; exact h8, by rw [List.length_map]; exact h.1, fun k a b q => ?_⟩
  rw [List.getElem?_map] at q
  cases e : L[k]? with
  | none => rw [e] at q; cases q
  | some z =>
    rw [e] at q
    obtain ⟨a', b'⟩ := z
    obtain ⟨rfl, rfl⟩ := Prod.mk.inj (show (upx x a', upx x b') = (a, b) from Option.some.inj q)
    obtain ⟨f1, f2⟩ := h.2 k a' b' e
    rw [if_pos (kl_lt e)] at f1 f2
    exact ⟨f1, f2⟩
theorem CKm.fin {x : Nat} {G : gR} {L : kL} (h8 : L.length ≤ 8) (h : CKm x G L L.length) : CKL G (L.map (fun q => (upx x q.1, upx x q.2))) := by
  refine ⟨by rw [List.length_map]; exact h8, by rw [List.length_map]; exact h.1, fun k a b q => ?_⟩
  rw [List.getElem?_map] at q
  cases e : L[k]? with
  | none => rw [e] at q; cases q
  | some z =>
    rw [e] at q
    obtain ⟨a', b'⟩ := z
    obtain ⟨rfl, rfl⟩ := Prod.mk.inj (show (upx x a', upx x b') = (a, b) from Option.some.inj q)
    obtain ⟨f1, f2⟩ := h.2 k a' b' e
    rw [if_pos (kl_lt e)] at f1 f2
    exact ⟨f1, f2⟩
theorem insert_b {F : gF} {w n kc x : Nat} {v : Int32} {G : gR} {g : Nat → Int32} (hM : MS F w) (hW : WF g n kc) (hR : RR G g n kc) (hn : n < 40) (hx : x ≤ n) (hv1 : -999 ≤ v) (hv2 : v ≤ 999) : ∃ (G' : gR) (g' : Nat → Int32), dnX1_insert G (nI x) v = some G' ∧ dnX5_putsIn (st F w g) (nI x) v = some (nI (n + 1), st F w g') ∧ WF g' (n + 1) kc ∧ RR G' g' (n + 1) kc := by
  obtain ⟨L, hl, hL, hC, hv⟩ := kl_of hW hR
  have h0 := hW.1.2.2
  have hc0 : G.1 0 3 = nI n := hR.1.1.trans h0
  have hvv := hW.2.2.2.2.2.2.1
  have m0 : insM g n n = g := by funext i; unfold insM; rw [if_neg (by omega)]
  have c0 : insC G n n = G := by
    apply Prod.ext
    · funext b i
      simp only [insC]
      by_cases h1 : b = 1
      · rw [if_pos h1, if_neg (by omega), h1]
      · rw [if_neg h1]
    · rfl
  have e5 := puts5 (g := g) (v := v) hM hn FU n hx (Nat.le_refl _) (by unfold FU; omega)
  have e4 := ins5 (G := G) (v := v) hn FU n hx (Nat.le_refl _) (by unfold FU; omega)
  rw [m0] at e5
  rw [c0] at e4
  have k1 : upd (insM g n x) (12 + x) v 0 + 1 = nI (n + 1) := by simp only [upd, insM]; rw [if_neg (by omega), if_neg (by omega), h0, nI_1]
  have k2 : (wR (insC G n x) 1 x v).1 0 3 + 1 = nI (n + 1) := by
    show G.1 0 3 + 1 = _
    rw [hc0, nI_1]
  have hm0 : RKm x (upd (upd (insM g n x) (12 + x) v) 0 (nI (n + 1))) L 0 := by
    refine ⟨by simp only [upd, insM]; rw [if_neg (by omega), if_neg (by omega), if_neg (by omega)]; exact hL.2.1, fun i a b q => ?_⟩
    obtain ⟨f1, f2⟩ := hL.2.2 i a b q
    rw [if_neg (by omega), if_neg (by omega)]
    constructor
    · simp only [upd, insM]; rw [if_neg (by omega), if_neg (by omega), if_neg (by omega)]; exact f1
    · simp only [upd, insM]; rw [if_neg (by omega), if_neg (by omega), if_neg (by omega)]; exact f2
  have hq0 : CKm x (wR (wR (insC G n x) 1 x v) 0 3 (nI (n + 1))) L 0 := by
    refine ⟨hC.2.1, fun i a b q => ?_⟩
    obtain ⟨f1, f2⟩ := hC.2.2 i a b q
    rw [if_neg (by omega), if_neg (by omega)]
    exact ⟨f1, f2⟩
  have h8 := hL.1
  obtain ⟨g2, e52, hm2, hf2⟩ := puts48 (x := x) hM (show n ≤ 40 by omega) (by omega) h8 hv FU 0 _ (by omega) (by unfold FU; omega) hm0
  obtain ⟨G2, e42, hq2, hb2, hw2⟩ := room2 (x := x) (show n ≤ 40 by omega) (by omega) h8 hv FU 0 _ (by omega) (by unfold FU; omega) hq0
  have gv : ∀ p : Nat, p < n + 1 → g2 (12 + p) = if p = x then v else if p < x then g (12 + p) else g (12 + (p - 1)) := fun p hp => by
    rw [hf2 _ (by omega)]
    simp only [upd, insM]
    rw [if_neg (by omega)]
    by_cases e : p = x
    · rw [if_pos e, if_pos (by omega)]
    · rw [if_neg e, if_neg (by omega)]
      by_cases e2 : p < x
      · rw [if_pos e2, if_neg (by omega)]
      · rw [if_neg e2, if_pos (by omega), show 12 + p - 1 = 12 + (p - 1) by omega]
  have Gv : ∀ p : Nat, p < n + 1 → G2.1 1 p = if p = x then v else if p < x then G.1 1 p else G.1 1 (p - 1) := fun p hp => by
    rw [hb2 1 (by decide) (by decide)]
    simp only [wR, wr, insC, if_true]
    rw [if_neg (by decide)]
    simp only [upd]
    by_cases e : p = x
    · rw [if_pos e, if_pos e]
    · rw [if_neg e, if_neg e]
      by_cases e2 : p < x
      · rw [if_pos e2, if_neg (by omega)]
      · rw [if_neg e2, if_pos (by omega)]
  obtain ⟨hW0, hR0⟩ := W0R0.mk (g' := g2) (G' := G2) (n' := n + 1) hW hR (by omega) (by omega) (fun k q1 q2 q3 => by
      rw [hf2 k (by omega)]; simp only [upd, insM]; rw [if_neg q2, if_neg (by omega), if_neg (by omega)]) (fun k q => by
      rw [hb2 0 (by decide) (by decide)]; simp only [wR, wr, insC, if_true, upd]; rw [if_neg q, if_neg (by decide), if_neg (by decide)]) (by
      rw [hf2 0 (by omega)]; simp [upd]) (by rw [hb2 0 (by decide) (by decide)]; simp [wR, wr, upd]) (fun p hp => by
      rw [gv p hp, Gv p hp]
      by_cases e : p = x
      · rw [if_pos e, if_pos e]; exact ⟨rfl, hv1, hv2⟩
      · rw [if_neg e, if_neg e]
        by_cases e2 : p < x
        · rw [if_pos e2, if_pos e2]; exact ⟨hR.2.1 p (by omega), hvv p (by omega)⟩
        · rw [if_neg e2, if_neg e2]; exact ⟨hR.2.1 _ (by omega), hvv _ (by omega)⟩) (hm2.fin h8) (hq2.fin h8) hv.up
  rw [List.length_map, hl] at hW0 hR0
  obtain ⟨G3, g3, b4, b5, hW3, hR3, -, -⟩ := builds_b hM hW0 hR0
  refine ⟨G3, g3, ?_, ?_, hW3, hR3⟩
  · unfold dnX1_insert dnX3_makeRoomAt
    rw [hc0, e4, bp_s, storeC (by omega), bp_s, k2, bw_s, show (0 : Int32) = nI 0 from rfl, e42, bp_s, bp_s, b4, bp_s]
  · unfold dnX5_putsIn
    rw [show dnX5_size (st F w g) = some (nI n) from size_ (hM.s g) (by rw [row_st (by decide)]; exact h0), bp_s, e5, bp_s, show (12 : Int32) = nI 12 from rfl, nI_add, put_ hM (by omega), bp_s, show (0 : Int32) = nI 0 from rfl, adds_ hM (by decide), bp_s, k1, e52, bp_s, b5, bp_s, show dnX5_size (st F w g3) = some (nI (n + 1)) from size_ (hM.s g3) (by rw [row_st (by decide)]; exact hW3.1.2.2), bp_s]
