/-! the kept stretches, as a list -/
abbrev kL : Type := List (Nat × Nat)
def RKL (g : Nat → Int32) (L : kL) : Prop := L.length ≤ 8 ∧ g 6 = nI L.length ∧ ∀ k a b : Nat, L[k]? = some (a, b) → g (292 + 2 * k) = nI a ∧ g (293 + 2 * k) = nI b
def CKL (G : gR) (L : kL) : Prop := L.length ≤ 8 ∧ G.1 3 2 = nI L.length ∧ ∀ k a b : Nat, L[k]? = some (a, b) → G.1 4 k = nI a ∧ G.1 5 k = nI b
def KLv (n : Nat) (L : kL) : Prop := ∀ k a b : Nat, L[k]? = some (a, b) → a ≤ b ∧ b < n
theorem kl_lt {L : kL} {k : Nat} {x : Nat × Nat} (h : L[k]? = some x) : k < L.length := (List.getElem?_eq_some_iff.mp h).1
theorem kl_get {L : kL} {k : Nat} (h : k < L.length) : ∃ a b : Nat, L[k]? = some (a, b) := ⟨L[k].1, L[k].2, by rw [List.getElem?_eq_getElem h]⟩
theorem kl_of {G : gR} {g : Nat → Int32} {n kc : Nat} (hW : WF g n kc) (hR : RR G g n kc) : ∃ L : kL, L.length = kc ∧ RKL g L ∧ CKL G L ∧ KLv n L := by
  obtain ⟨k8, hk⟩ := hW.2.1
  have n40 := hW.1.2.1
  have hK := hW.2.2.2.2.2.1
  have hl : ((List.range kc).map (fun k => ((g (292 + 2 * k)).toNatClampNeg, (g (293 + 2 * k)).toNatClampNeg))).length = kc := by simp
  have hg : ∀ k a b : Nat, ((List.range kc).map (fun k => ((g (292 + 2 * k)).toNatClampNeg, (g (293 + 2 * k)).toNatClampNeg)))[k]? = some (a, b) → k < kc ∧ g (292 + 2 * k) = nI a ∧ g (293 + 2 * k) = nI b ∧ a ≤ b ∧ b < n := by
    intro k a b h
    have hlt := kl_lt h
    rw [hl] at hlt
    rw [List.getElem?_map, List.getElem?_range hlt] at h
    obtain ⟨a', b', e1, e2, h1, h2⟩ := hK k hlt
    have h : ((g (292 + 2 * k)).toNatClampNeg, (g (293 + 2 * k)).toNatClampNeg) = (a, b) := Option.some.inj h
    rw [e1, e2, nI_clamp (by omega), nI_clamp (by omega)] at h
    obtain ⟨rfl, rfl⟩ := Prod.mk.inj h
    exact ⟨hlt, e1, e2, h1, h2⟩
  refine ⟨_, hl, ⟨by rw [hl]; exact k8, by rw [hl]; exact hk, fun k a b h => ?_⟩, ⟨by rw [hl]; exact k8, by rw [hl]; exact hR.1.2.2.2.2.2.2.2.trans hk, fun k a b h => ?_⟩, fun k a b h => ?_⟩
  · obtain ⟨q, e1, e2, -⟩ := hg k a b h
    exact ⟨e1, e2⟩
  · obtain ⟨q, e1, e2, -⟩ := hg k a b h
    obtain ⟨f1, f2⟩ := hR.2.2.2.2 k q
    exact ⟨f1.trans e1, f2.trans e2⟩
  · obtain ⟨q, e1, e2, h1, h2⟩ := hg k a b h
    exact ⟨h1, h2⟩
/-- other stretches are kept, all else is as it was -/
theorem WR.k {G G' : gR} {g g' : Nat → Int32} {n kc : Nat} {L : kL} (hW : WF g n kc) (hR : RR G g n kc) (hg : ∀ k : Nat, k < 292 → k ≠ 6 → g' k = g k) (hG : ∀ b : Nat, b ≠ 3 → b ≠ 4 → b ≠ 5 → G'.1 b = G.1 b) (hw : G'.2 = G.2) (h1 : RKL g' L) (h2 : CKL G' L) (h3 : KLv n L) : WF g' n L.length ∧ RR G' g' n L.length := by
  obtain ⟨⟨n1, n40, hn⟩, ⟨k8, hk⟩, hr, hm, ⟨w1, w2, w3⟩, hK, hv, hc⟩ := hW
  obtain ⟨⟨s0, s1, s2, s7, s8, s9, s10, s6⟩, hV, hCC, hww, hKK⟩ := hR
  have e : ∀ k : Nat, k < 292 → k ≠ 6 → g' k = g k := hg
  refine ⟨⟨⟨n1, n40, by rw [e 0 (by decide) (by decide)]; exact hn⟩, ⟨h1.1, h1.2.1⟩, by rw [e 1 (by decide) (by decide)]; exact hr, by rw [e 2 (by decide) (by decide)]; exact hm, ⟨fun p hp => by rw [e _ (by omega) (by omega)]; exact w1 p hp, fun p q hp => by rw [e _ (by omega) (by omega)]; exact w2 p q hp, fun q p hp => by rw [e _ (by omega) (by omega)]; exact w3 (by rw [← e 1 (by decide) (by decide)]; exact q) p hp⟩, fun k hk2 => ?_, fun p hp => by rw [e _ (by omega) (by omega)]; exact hv p hp, fun l p k1 k2 k3 => ?_⟩, ⟨?_, ?_, ?_, ?_, ?_, ?_, ?_, ?_⟩, fun p hp => ?_, fun l p k1 k2 k3 => ?_, fun p hp => ?_, fun k hk2 => ?_⟩
  · obtain ⟨a, b, q⟩ := kl_get hk2
    obtain ⟨e1, e2⟩ := h1.2.2 k a b q
    obtain ⟨v1, v2⟩ := h3 k a b q
    exact ⟨a, b, e1, e2, v1, v2⟩
  · have hp := pw (show l < 6 by omega)
    obtain ⟨c, c1, c2, c3, c4⟩ := hc l p k1 k2 k3
    refine ⟨c, by rw [e _ (by omega) (by omega)]; exact c1, c2, c3, fun q => ?_⟩
    rw [c4 (fun j j1 j2 => by have := q j j1 j2; rw [e _ (by omega) (by omega)] at this; exact this)]
    exact lm_cg _ (fun j j1 j2 => (e _ (by omega) (by omega)).symm)
  · rw [hG 0 (by decide) (by decide) (by decide), e 0 (by decide) (by decide)]; exact s0
  · rw [hG 0 (by decide) (by decide) (by decide), e 1 (by decide) (by decide)]; exact s1
  · rw [hG 0 (by decide) (by decide) (by decide), e 2 (by decide) (by decide)]; exact s2
  · rw [hG 0 (by decide) (by decide) (by decide), e 7 (by decide) (by decide)]; exact s7
  · rw [hG 0 (by decide) (by decide) (by decide), e 8 (by decide) (by decide)]; exact s8
  · rw [hG 0 (by decide) (by decide) (by decide), e 9 (by decide) (by decide)]; exact s9
  · rw [hG 0 (by decide) (by decide) (by decide), e 10 (by decide) (by decide)]; exact s10
  · rw [h2.2.1, h1.2.1]
  · rw [hG 1 (by decide) (by decide) (by decide), e _ (by omega) (by omega)]; exact hV p hp
  · have hp := pw (show l < 6 by omega)
    rw [hG 2 (by decide) (by decide) (by decide), e _ (by omega) (by omega)]; exact hCC l p k1 k2 k3
  · rw [hw]
    constructor
    · intro q
      obtain ⟨q1, q2⟩ := (hww p hp).mp q
      exact ⟨q1, by rw [e _ (by omega) (by omega)]; exact q2⟩
    · intro q
      have q1 := q.1
      have q2 := q.2
      rw [e _ (by omega) (by omega)] at q2
      exact (hww p hp).mpr ⟨q1, q2⟩
  · obtain ⟨a, b, q⟩ := kl_get hk2
    obtain ⟨e1, e2⟩ := h1.2.2 k a b q
    obtain ⟨f1, f2⟩ := h2.2.2 k a b q
    rw [e1, e2]; exact ⟨f1, f2⟩
theorem store3C {G : gR} {k : Nat} {a b : Int32} (hk : k < 8) : dnX3_store G (nI k) a b = some (wR (wR G 4 k a) 5 k b) := by
  unfold dnX3_store
  rw [if_neg (nI_pos (by omega)), if_neg (show ¬ (8 : Int32) ≤ nI k from nI_ge (b := 8) (by omega) (by decide)), wi_ok hk (by decide), bw_s, wi_ok hk (by decide), bw_s]
theorem addC {G : gR} {L : kL} {a b : Nat} (h : CKL G L) (h8 : L.length < 8) : ∃ G' : gR, dnX3_add G (nI a) (nI b) = some G' ∧ CKL G' (L ++ [(a, b)]) ∧ (∀ b : Nat, b ≠ 3 → b ≠ 4 → b ≠ 5 → G'.1 b = G.1 b) ∧ G'.2 = G.2 ∧ G'.1 3 2 = nI (L.length + 1) := by
  have e3 : (wR (wR G 4 L.length (nI a)) 5 L.length (nI b)).1 3 2 + 1 = nI (L.length + 1) := by
    show G.1 3 2 + 1 = _
    rw [h.2.1, nI_1]
  refine ⟨wR (wR (wR G 4 L.length (nI a)) 5 L.length (nI b)) 3 2 (nI (L.length + 1)), ?_, ⟨by rw [List.length_append]; exact h8, by simp [wR, wr, upd], fun k a' b' q => ?_⟩, fun b k1 k2 k3 => ?_, rfl, by simp [wR, wr, upd]⟩
  · unfold dnX3_add
    rw [h.2.1, store3C (by omega), bp_s, e3, bw_s]
  · have hk := kl_lt q
    rw [List.length_append] at hk
    have hk : k < L.length + 1 := hk
    by_cases e : k = L.length
    · subst e
      rw [List.getElem?_append_right (Nat.le_refl _), Nat.sub_self] at q
      have q : some (a, b) = some (a', b') := q
      obtain ⟨rfl, rfl⟩ := Prod.mk.inj (Option.some.inj q)
      simp [wR, wr, upd]
    · rw [List.getElem?_append_left (by omega)] at q
      obtain ⟨f1, f2⟩ := h.2.2 k a' b' q
      simp [wR, wr, upd, e, f1, f2]
  · simp only [wR, wr]; rw [if_neg k1, if_neg k3, if_neg k2]
theorem keepsM {F : gF} {w : Nat} {g : Nat → Int32} {L : kL} {a b : Nat} (hM : MS F w) (h : RKL g L) (h8 : L.length < 8) : ∃ g' : Nat → Int32, dnX5_keeps (st F w g) (nI a) (nI b) = some (nI (L.length + 1), st F w g') ∧ RKL g' (L ++ [(a, b)]) ∧ (∀ k : Nat, k < 292 → k ≠ 6 → g' k = g k) := by
  refine ⟨upd (upd (upd g (292 + 2 * L.length) (nI a)) (293 + 2 * L.length) (nI b)) 6 (nI (L.length + 1)), ?_, ⟨by rw [List.length_append]; exact h8, by simp [upd], fun k a' b' q => ?_⟩, fun k k1 k2 => ?_⟩
  · have e6 : upd (upd g (292 + 2 * L.length) (nI a)) (293 + 2 * L.length) (nI b) 6 + 1 = nI (L.length + 1) := by
      simp only [upd]; rw [if_neg (by omega), if_neg (by omega), h.2.1, nI_1]
    unfold dnX5_keeps
    rw [show (6 : Int32) = nI 6 from rfl, get_ hM (by decide), bp_s, h.2.1, show (2 : Int32) = nI 2 from rfl, nI_mul, show (292 : Int32) = nI 292 from rfl, nI_add, put_ hM (by omega), bp_s, nI_1, put_ hM (by omega), bp_s, show 292 + 2 * L.length + 1 = 293 + 2 * L.length by omega, adds_ hM (by decide), bp_s, e6, get_ hM (by decide), bp_s]
    simp [upd]
  · have hk := kl_lt q
    rw [List.length_append] at hk
    have hk : k < L.length + 1 := hk
    by_cases e : k = L.length
    · subst e
      rw [List.getElem?_append_right (Nat.le_refl _), Nat.sub_self] at q
      have q : some (a, b) = some (a', b') := q
      obtain ⟨rfl, rfl⟩ := Prod.mk.inj (Option.some.inj q)
      simp only [upd]
      rw [if_neg (by omega), if_neg (by omega), if_pos trivial, if_neg (by omega), if_pos trivial]
      exact ⟨rfl, rfl⟩
    · rw [List.getElem?_append_left (by omega)] at q
      obtain ⟨f1, f2⟩ := h.2.2 k a' b' q
      simp only [upd]
      rw [if_neg (by omega), if_neg (by omega), if_neg (by omega), if_neg (by omega), if_neg (by omega), if_neg (by omega)]
      exact ⟨f1, f2⟩
  · simp only [upd]; rw [if_neg k2, if_neg (by omega), if_neg (by omega)]
/-- one goes, those behind it move up -/
def pkM (g : Nat → Int32) (k j : Nat) : Nat → Int32 := fun i => if 292 + 2 * k ≤ i ∧ i < 292 + j then g (i + 2) else g i
theorem pkM_u (g : Nat → Int32) {k j : Nat} (hj : 2 * k ≤ j) : upd (pkM g k j) (292 + j) (pkM g k j (292 + j + 2)) = pkM g k (j + 1) := by
  funext i
  simp only [upd, pkM]
  by_cases e : i = 292 + j
  · subst e; rw [if_pos rfl, if_neg (by omega), if_pos (by omega)]
  · rw [if_neg e]
    by_cases h : 292 + 2 * k ≤ i ∧ i < 292 + j
    · rw [if_pos h, if_pos (by omega)]
    · rw [if_neg h, if_neg (by omega)]
theorem forgets8 {F : gF} {w kc k : Nat} {g : Nat → Int32} (hM : MS F w) (hk6 : g 6 = nI kc) (h8 : kc ≤ 8) (hk : k < kc) : ∀ (N j : Nat), 2 * k ≤ j → j ≤ 2 * kc - 2 → 2 * kc - 2 < N + j → lpX5_forgets_8 N (nI (292 + j)) (st F w (pkM g k j)) = some (0, st F w (pkM g k (2 * kc - 2))) := by
  intro N
  induction N with
  | zero => intro j h1 h2 h3; omega
  | succ N ih =>
    intro j h1 h2 h3
    unfold lpX5_forgets_8
    rw [show (6 : Int32) = nI 6 from rfl, get_ hM (by decide), bp_s, show pkM g k j 6 = nI kc from by simp only [pkM]; rw [if_neg (by omega), hk6], show (2 : Int32) = nI 2 from rfl, nI_mul, show (292 : Int32) = nI 292 from rfl, nI_add, nI_sub (by omega)]
    by_cases hj : 2 * kc - 2 ≤ j
    · rw [if_pos (nI_le (by omega) (by omega)), show j = 2 * kc - 2 by omega]
    · rw [if_neg (nI_ge (by omega) (by omega)), nI_add, get_ hM (by omega), bp_s, put_ hM (by omega), bp_s, pkM_u g h1, nI_1]
      exact ih (j + 1) (by omega) (by omega) (by omega)
def RKX (g : Nat → Int32) (L : kL) (k : Nat) : Prop := L.length ≤ 8 ∧ g 6 = nI L.length ∧ ∀ i a b : Nat, i ≠ k → L[i]? = some (a, b) → g (292 + 2 * i) = nI a ∧ g (293 + 2 * i) = nI b
theorem RKL.x {g : Nat → Int32} {L : kL} (h : RKL g L) (k : Nat) : RKX g L k := ⟨h.1, h.2.1, fun i a b _ q => h.2.2 i a b q⟩
theorem forgetsM {F : gF} {w k : Nat} {g : Nat → Int32} {L : kL} (hM : MS F w) (h : RKX g L k) (hk : k < L.length) : ∃ g' : Nat → Int32, dnX5_forgets (st F w g) (nI k) = some (nI (L.length - 1), st F w g') ∧ RKL g' (L.eraseIdx k) ∧ (∀ i : Nat, i < 292 → i ≠ 6 → g' i = g i) := by
  have h8 := h.1
  have e0 : pkM g k (2 * k) = g := by funext i; unfold pkM; rw [if_neg (by omega)]
  have e := forgets8 hM h.2.1 h8 hk FU (2 * k) (Nat.le_refl _) (by omega) (by unfold FU; omega)
  rw [e0] at e
  have e6 : pkM g k (2 * L.length - 2) 6 + (-1) = nI (L.length - 1) := by
    simp only [pkM]; rw [if_neg (by omega), h.2.1, ← Int32.sub_eq_add_neg]; exact nI_sub (b := 1) (by omega)
  refine ⟨upd (pkM g k (2 * L.length - 2)) 6 (nI (L.length - 1)), ?_, ⟨by rw [List.length_eraseIdx_of_lt hk]; omega, by rw [List.length_eraseIdx_of_lt hk]; simp [upd], fun i a b q => ?_⟩, fun i h1 h2 => ?_⟩
  · unfold dnX5_forgets
    rw [show (2 : Int32) = nI 2 from rfl, nI_mul, show (292 : Int32) = nI 292 from rfl, nI_add, e, bp_s, show (6 : Int32) = nI 6 from rfl, adds_ hM (by decide), bp_s, e6, get_ hM (by decide), bp_s]
    simp [upd]
  · have hi := kl_lt q
    rw [List.length_eraseIdx_of_lt hk] at hi
    rw [List.getElem?_eraseIdx] at q
    by_cases hik : i < k
    · rw [if_pos hik] at q
      obtain ⟨f1, f2⟩ := h.2.2 i a b (by omega) q
      constructor
      · simp only [upd, pkM]; rw [if_neg (by omega), if_neg (by omega)]; exact f1
      · simp only [upd, pkM]; rw [if_neg (by omega), if_neg (by omega)]; exact f2
    · rw [if_neg hik] at q
      obtain ⟨f1, f2⟩ := h.2.2 (i + 1) a b (by omega) q
      constructor
      · simp only [upd, pkM]; rw [if_neg (by omega), if_pos (by omega), show 292 + 2 * i + 2 = 292 + 2 * (i + 1) by omega]; exact f1
      · simp only [upd, pkM]; rw [if_neg (by omega), if_pos (by omega), show 293 + 2 * i + 2 = 293 + 2 * (i + 1) by omega]; exact f2
  · simp only [upd, pkM]; rw [if_neg h2, if_neg (by omega)]
def pkC (G : gR) (k j : Nat) : gR := (fun b => if b = 4 ∨ b = 5 then (fun i => if k ≤ i ∧ i < j then G.1 b (i + 1) else G.1 b i) else G.1 b, G.2)
theorem pkC_u (G : gR) {k j : Nat} (hj : k ≤ j) : wR (wR (pkC G k j) 4 j ((pkC G k j).1 4 (j + 1))) 5 j ((pkC G k j).1 5 (j + 1)) = pkC G k (j + 1) := by
  apply Prod.ext
  · funext b i
    simp only [wR, wr, pkC]
    by_cases h5 : b = 5
    · subst h5
      simp only [if_true, or_true, upd]
      rw [if_neg (show ¬ (5 : Nat) = 4 by decide)]
      by_cases e : i = j
      · subst e; rw [if_pos rfl, if_neg (by omega), if_pos (by omega)]
      · rw [if_neg e]
        by_cases h : k ≤ i ∧ i < j
        · rw [if_pos h, if_pos (by omega)]
        · rw [if_neg h, if_neg (by omega)]
    · by_cases h4 : b = 4
      · subst h4
        simp only [if_true, true_or, upd]
        rw [if_neg (show ¬ (4 : Nat) = 5 by decide)]
        simp only [upd]
        by_cases e : i = j
        · subst e; rw [if_pos rfl, if_neg (by omega), if_pos (by omega)]
        · rw [if_neg e]
          by_cases h : k ≤ i ∧ i < j
          · rw [if_pos h, if_pos (by omega)]
          · rw [if_neg h, if_neg (by omega)]
      · simp [h4, h5]
  · rfl
theorem remove4 {G : gR} {kc k : Nat} (hk3 : G.1 3 2 = nI kc) (h8 : kc ≤ 8) (hk : k < kc) : ∀ (N j : Nat), k ≤ j → j ≤ kc - 1 → kc - 1 < N + j → lpX3_removeAt_4 N (nI (j + 1)) (pkC G k j) = some (0, pkC G k (kc - 1)) := by
  intro N
  induction N with
  | zero => intro j h1 h2 h3; omega
  | succ N ih =>
    intro j h1 h2 h3
    unfold lpX3_removeAt_4
    rw [show (pkC G k j).1 3 2 = nI kc from hk3]
    by_cases hj : kc ≤ j + 1
    · rw [if_pos (nI_le hj (by omega)), show j = kc - 1 by omega]
    · obtain ⟨c1, c2⟩ := keptC (G := pkC G k j) (show j + 1 < 8 by omega)
      rw [if_neg (nI_ge (by omega) (by omega)), c1, bp_s, c2, bp_s, show nI (j + 1) - 1 = nI j from nI_sub (a := j + 1) (b := 1) (by omega), store3C (by omega), bp_s, pkC_u G h1, nI_1]
      exact ih (j + 1) (by omega) (by omega) (by omega)
theorem removeC {G : gR} {k : Nat} {L : kL} (h : CKL G L) (hk : k < L.length) : ∃ G' : gR, dnX3_removeAt G (nI k) = some G' ∧ CKL G' (L.eraseIdx k) ∧ (∀ b : Nat, b ≠ 3 → b ≠ 4 → b ≠ 5 → G'.1 b = G.1 b) ∧ G'.2 = G.2 := by
  have h8 := h.1
  have e0 : pkC G k k = G := by
    apply Prod.ext
    · funext b i
      simp only [pkC]
      by_cases hb : b = 4 ∨ b = 5
      · rw [if_pos hb, if_neg (by omega)]
      · rw [if_neg hb]
    · rfl
  have e := remove4 h.2.1 h8 hk FU k (Nat.le_refl _) (by omega) (by unfold FU; omega)
  rw [e0] at e
  have e3 : (pkC G k (L.length - 1)).1 3 2 - 1 = nI (L.length - 1) := by
    show G.1 3 2 - 1 = _
    rw [h.2.1]; exact nI_sub (b := 1) (by omega)
  refine ⟨wR (pkC G k (L.length - 1)) 3 2 (nI (L.length - 1)), ?_, ⟨by rw [List.length_eraseIdx_of_lt hk]; omega, by rw [List.length_eraseIdx_of_lt hk]; simp [wR, wr, upd], fun i a b q => ?_⟩, fun b k1 k2 k3 => ?_, rfl⟩
  · unfold dnX3_removeAt
    rw [nI_1, e, bp_s, e3, bw_s]
  · have hi := kl_lt q
    rw [List.length_eraseIdx_of_lt hk] at hi
    rw [List.getElem?_eraseIdx] at q
    by_cases hik : i < k
    · rw [if_pos hik] at q
      obtain ⟨f1, f2⟩ := h.2.2 i a b q
      constructor
      · simp only [wR, wr, pkC]; rw [if_neg (by decide), if_pos (by decide), if_neg (by omega)]; exact f1
      · simp only [wR, wr, pkC]; rw [if_neg (by decide), if_pos (by decide), if_neg (by omega)]; exact f2
    · rw [if_neg hik] at q
      obtain ⟨f1, f2⟩ := h.2.2 (i + 1) a b q
      constructor
      · simp only [wR, wr, pkC]; rw [if_neg (by decide), if_pos (by decide), if_pos (by omega)]; exact f1
      · simp only [wR, wr, pkC]; rw [if_neg (by decide), if_pos (by decide), if_pos (by omega)]; exact f2
  · simp only [wR, wr, pkC]; rw [if_neg k1, if_neg (by omega)]
