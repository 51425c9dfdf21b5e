/-! all kept stretches are asked -/
theorem bvn (v : Int32) : vp_nar .boolean 0 = 0 ∧ vp_nar .boolean 1 = 1 := ⟨rfl, rfl⟩
theorem st_w5 {F : gF} {w : Nat} {g : Nat → Int32} {a k : Nat} {v : Int32} (h : a ≠ 1) : wr (st F w g) a k v = st (wr F a k v) w g := by
  funext i j
  by_cases hi : i = a
  · subst hi
    simp only [wr, st, if_true, upd]
    simp [h]
  · simp only [wr, st, if_neg hi]
theorem MS.w5 {F : gF} {w a k : Nat} {v : Int32} (h : MS F w) (ha : a ≠ 0) : MS (wr F a k v) w := ⟨by
  unfold wr; rw [if_neg (fun q => ha q.symm)]; exact h.1, h.2⟩
/-- does a stretch stay -/
def stays (g : Nat → Int32) (lim : Int32) (q : Nat × Nat) : Bool := decide (lim ≤ g (12 + lm g q.1 (q.2 - q.1)))
theorem take_s {L : kL} {i : Nat} {q : Nat × Nat} (h : L[i]? = some q) : L.take (i + 1) = L.take i ++ [q] := by
  rw [List.take_add_one, h]; rfl
theorem drop_s {L : kL} {i : Nat} {q : Nat × Nat} (h : L[i]? = some q) : L.drop i = q :: L.drop (i + 1) := by
  obtain ⟨hl, e⟩ := List.getElem?_eq_some_iff.mp h
  rw [List.drop_eq_getElem_cons hl, e]
theorem RKL.cg {g g' : Nat → Int32} {L : kL} (h : RKL g L) (e : ∀ k : Nat, k = 6 ∨ 292 ≤ k → g' k = g k) : RKL g' L :=
  ⟨h.1, by rw [e 6 (Or.inl rfl)]; exact h.2.1, fun k a b q => by rw [e _ (Or.inr (by omega)), e _ (Or.inr (by omega))]; exact h.2.2 k a b q⟩
theorem ask_all {w n kc : Nat} {lim : Int32} {g0 : Nat → Int32} {L : kL} (hl : L.length = kc) (hv : KLv n L) : ∀ (N i : Nat) (F : gF) (g : Nat → Int32) (H G : gR), i ≤ kc → kc < N + i → MS F w → WF g n kc → RR H g n kc → RKL g L → (∀ k : Nat, 12 ≤ k → k < 52 → g k = g0 k) → (∀ b : Nat, b ≠ 3 → b ≠ 4 → b ≠ 5 → G.1 b = H.1 b) → G.2 = H.2 → CKL G ((L.take i).filter (stays g0 lim) ++ L.drop i) → (∀ j : Nat, ∀ q : Nat × Nat, j < i → L[j]? = some q → F 5 j = if stays g0 lim q = true then 0 else 1) →
    ∃ (F' : gF) (g' : Nat → Int32) (H' G' : gR), lpX1_askAndDropBelow_13 lim N (nI (i - ((L.take i).filter (stays g0 lim)).length)) (nI ((L.take i).filter (stays g0 lim)).length) (nI (kc - i)) G = some (0, nI (kc - (L.filter (stays g0 lim)).length), G') ∧ lpX5_sweep_31 lim N (nI i) (st F w g) = some (0, st F' w g') ∧ MS F' w ∧ (∀ a : Nat, a ≠ 5 → F' a = F a) ∧ WF g' n kc ∧ RR H' g' n kc ∧ RKL g' L ∧ (∀ b : Nat, b ≠ 3 → b ≠ 4 → b ≠ 5 → G'.1 b = H'.1 b) ∧ G'.2 = H'.2 ∧ CKL G' (L.filter (stays g0 lim)) ∧ (∀ j : Nat, ∀ q : Nat × Nat, j < kc → L[j]? = some q → F' 5 j = if stays g0 lim q = true then 0 else 1) := by
  intro N
  induction N with
  | zero => intro i F g H G h1 h2; omega
  | succ N ih =>
    intro i F g H G h1 h2 hM hW hR hL hg hG hw hC hm
    have k8 := hW.2.1.1
    have n40 := hW.1.2.1
    have hfl : ((L.take i).filter (stays g0 lim)).length ≤ i := by
      have := List.length_filter_le (stays g0 lim) (L.take i)
      rw [List.length_take] at this
      omega
    unfold lpX1_askAndDropBelow_13 lpX5_sweep_31
    rw [show dnX5_get (st F w g) 6 = some (nI kc) from by rw [show (6 : Int32) = nI 6 from rfl, get_ hM (by decide), hL.2.1, hl], bp_s]
    by_cases hi : kc ≤ i
    · have e1 : L.take i = L := List.take_of_length_le (by omega)
      have e2 : L.drop i = [] := List.drop_eq_nil_of_le (by omega)
      rw [e1, e2, List.append_nil] at hC
      rw [if_pos (nI_le hi (by omega)), show kc - i = 0 by omega, if_pos (show nI 0 ≤ 0 from Int32.le_refl _), e1, show i = kc by omega]
      exact ⟨F, g, H, G, rfl, rfl, hM, fun a _ => rfl, hW, hR, hL, hG, hw, hC, fun j q hj => hm j q (by omega)⟩
    · obtain ⟨a, b, q⟩ := kl_get (show i < L.length by omega)
      obtain ⟨v1, v2⟩ := hv i a b q
      obtain ⟨f1, f2⟩ := hL.2.2 i a b q
      obtain ⟨m1, m2⟩ := keptM (hM.s g) (show i < 8 by omega)
      rw [row_st (by omega), f1] at m1
      rw [row_st (by omega), f2] at m2
      have hd := drop_s q
      have ht := take_s q
      have hq2 : ((L.take i).filter (stays g0 lim) ++ L.drop i)[((L.take i).filter (stays g0 lim)).length]? = some (a, b) := by
        rw [List.getElem?_append_right (Nat.le_refl _), Nat.sub_self, hd]; rfl
      obtain ⟨d1, d2⟩ := hC.2.2 _ a b hq2
      obtain ⟨c1, c2⟩ := keptC (G := G) (show ((L.take i).filter (stays g0 lim)).length < 8 by omega)
      rw [d1] at c1
      rw [d2] at c2
      obtain ⟨H1, g1, e4, e5, hW1, hR1, hQ⟩ := question_b hM hW hR v1 v2
      have hrep := rep_eq hG hw
      have e4' : dnX1_question G (nI a) (nI b) = some (nI (lm g a (b - a)), rep G.1 H1) := by
        have hq3 := rep_q G.1 H (nI a) (nI b)
        rw [← hrep] at hq3
        rw [hq3, e4]; rfl
      have hL1 : RKL g1 L := hL.cg (fun k hk => hQ k (by omega) (by omega) (by omega) (by omega) (by omega))
      have hg1 : ∀ k : Nat, 12 ≤ k → k < 52 → g1 k = g0 k := fun k q1 q2 => by rw [hQ k (by omega) (by omega) (by omega) (by omega) (by omega)]; exact hg k q1 q2
      have hb := lm_b g a (b - a)
      have elm : lm g a (b - a) = lm g0 a (b - a) := lm_cg _ (fun j j1 j2 => hg _ (by omega) (by omega))
      have hG1 : ∀ b : Nat, b ≠ 3 → b ≠ 4 → b ≠ 5 → (rep G.1 H1).1 b = H1.1 b := fun b b1 b2 b3 => by simp only [rep]; rw [if_neg (by omega)]
      have hC1 : CKL (rep G.1 H1) ((L.take i).filter (stays g0 lim) ++ L.drop i) := hC
      have ev4 : dnX1_valueAt (rep G.1 H1) (nI (lm g a (b - a))) = some (g0 (12 + lm g0 a (b - a))) := by
        rw [valueC (by omega), hG1 1 (by decide) (by decide) (by decide), hR1.2.1 _ (by omega), hg1 _ (by omega) (by omega), elm]
      have ev5 : dnX5_valueAt (st F w g1) (nI (lm g a (b - a))) = some (g0 (12 + lm g0 a (b - a))) := by
        rw [valueM (hM.s g1) (by omega), row_st (by omega), hg1 _ (by omega) (by omega), elm]
      rw [if_neg (show ¬ nI (kc - i) ≤ 0 from nI_nle (by omega) (by omega)), c1, bp_s, c2, bp_s, e4', bs_s, ev4, bp_s, if_neg (nI_ge (by omega) (by omega)), m1, bp_s, m2, bp_s, e5, bs_s, ev5, bp_s, nI_m1 (by omega), nI_1, nI_1, nI_1]
      by_cases hs : lim ≤ g0 (12 + lm g0 a (b - a))
      · have hst : stays g0 lim (a, b) = true := decide_eq_true hs
        have hf : (L.take (i + 1)).filter (stays g0 lim) = (L.take i).filter (stays g0 lim) ++ [(a, b)] := by
          rw [ht, List.filter_append, List.filter_cons, hst]; rfl
        have hC2 : CKL (rep G.1 H1) ((L.take (i + 1)).filter (stays g0 lim) ++ L.drop (i + 1)) := by
          rw [hf, List.append_assoc]
          rw [hd] at hC1
          exact hC1
        rw [if_pos hs, if_pos hs, wi_ok (by omega) (by decide), bw_s, (bvn 0).1, st_w5 (by decide)]
        obtain ⟨F', g', H', G', r1, r2, r3, r4, r5⟩ := ih (i + 1) (wr F 5 i 0) g1 H1 (rep G.1 H1) (by omega) (by omega) (hM.w5 (by decide)) hW1 hR1 hL1 hg1 hG1 rfl hC2 (fun j q2 hj hq3 => by
          simp only [wr, if_true, upd]
          by_cases e : j = i
          · subst e
            rw [q] at hq3
            obtain rfl := Option.some.inj hq3
            rw [if_pos rfl, if_pos hst]
          · rw [if_neg e]; exact hm j q2 (by omega) hq3)
        refine ⟨F', g', H', G', ?_, r2, r3, fun a ha => by rw [r4 a ha]; unfold wr; rw [if_neg ha], r5⟩
        rw [hf, List.length_append] at r1
        rw [show i + 1 - (((L.take i).filter (stays g0 lim)).length + [(a, b)].length) = i - ((L.take i).filter (stays g0 lim)).length by rw [List.length_singleton]; omega] at r1
        exact r1
      · have hst : ¬ stays g0 lim (a, b) = true := fun z => hs (of_decide_eq_true z)
        have hf : (L.take (i + 1)).filter (stays g0 lim) = (L.take i).filter (stays g0 lim) := by
          rw [ht, List.filter_append, List.filter_cons, if_neg hst, List.filter_nil, List.append_nil]
        obtain ⟨G2, t1, t2, t3, t4⟩ := removeC hC1 (kl_lt hq2)
        have hC2 : CKL G2 ((L.take (i + 1)).filter (stays g0 lim) ++ L.drop (i + 1)) := by
          rw [hf]
          rw [List.eraseIdx_append_of_length_le (Nat.le_refl _), Nat.sub_self, hd] at t2
          exact t2
        rw [if_neg hs, if_neg hs, t1, bp_s, wi_ok (by omega) (by decide), bw_s, (bvn 0).2, st_w5 (by decide)]
        obtain ⟨F', g', H', G', r1, r2, r3, r4, r5⟩ := ih (i + 1) (wr F 5 i 1) g1 H1 G2 (by omega) (by omega) (hM.w5 (by decide)) hW1 hR1 hL1 hg1 (fun b b1 b2 b3 => by rw [t3 b b1 b2 b3, hG1 b b1 b2 b3]) t4 hC2 (fun j q2 hj hq3 => by
          simp only [wr, if_true, upd]
          by_cases e : j = i
          · subst e
            rw [q] at hq3
            obtain rfl := Option.some.inj hq3
            rw [if_pos rfl, if_neg hst]
          · rw [if_neg e]; exact hm j q2 (by omega) hq3)
        refine ⟨F', g', H', G', ?_, r2, r3, fun a ha => by rw [r4 a ha]; unfold wr; rw [if_neg ha], r5⟩
        rw [hf] at r1
        rw [show i + 1 - ((L.take i).filter (stays g0 lim)).length = i - ((L.take i).filter (stays g0 lim)).length + 1 by omega] at r1
        exact r1
theorem drop_all {F : gF} {w : Nat} {lim : Int32} {g0 : Nat → Int32} {L : kL} (hM : MS F w) (h8 : L.length ≤ 8) (hm : ∀ j : Nat, ∀ q : Nat × Nat, j < L.length → L[j]? = some q → F 5 j = if stays g0 lim q = true then 0 else 1) : ∀ (N j : Nat) (g : Nat → Int32), j ≤ L.length → j < N → RKL g (L.take j ++ (L.drop j).filter (stays g0 lim)) → ∃ g' : Nat → Int32, lpX5_sweep_91 N (nI (L.length - j - ((L.drop j).filter (stays g0 lim)).length)) (nI j - 1) (st F w g) = some (0, nI (L.length - (L.filter (stays g0 lim)).length), st F w g') ∧ RKL g' (L.filter (stays g0 lim)) ∧ (∀ i : Nat, i < 292 → i ≠ 6 → g' i = g i) := by
  intro N
  induction N with
  | zero => intro j g h1 h2; omega
  | succ N ih =>
    intro j g h1 h2 hR
    unfold lpX5_sweep_91
    by_cases hj : j = 0
    · subst hj
      rw [if_pos (by decide)]
      rw [List.take_zero, List.nil_append, List.drop_zero] at hR
      rw [List.drop_zero, Nat.sub_zero]
      exact ⟨g, rfl, hR, fun i _ _ => rfl⟩
    · obtain ⟨i, rfl⟩ : ∃ i : Nat, j = i + 1 := ⟨j - 1, by omega⟩
      obtain ⟨a, b, q⟩ := kl_get (show i < L.length by omega)
      have hd := drop_s q
      have ht := take_s q
      have hfl : ((L.drop (i + 1)).filter (stays g0 lim)).length ≤ L.length - (i + 1) := by
        have := List.length_filter_le (stays g0 lim) (L.drop (i + 1))
        rw [List.length_drop] at this
        exact this
      have hlt : (L.take i).length = i := by rw [List.length_take]; omega
      rw [ht, List.append_assoc] at hR
      rw [show nI (i + 1) - 1 = nI i from nI_sub (a := i + 1) (b := 1) (by omega), if_neg (nI_pos (by omega)), ra_ok (show i < 8 by omega) (by decide), st_b (by decide), hm i (a, b) (by omega) q, ← Int32.sub_eq_add_neg (nI i) 1]
      by_cases hst : stays g0 lim (a, b) = true
      · rw [if_pos hst, if_pos rfl]
        have hf : (L.drop i).filter (stays g0 lim) = (a, b) :: (L.drop (i + 1)).filter (stays g0 lim) := by
          rw [hd, List.filter_cons, if_pos hst]
        obtain ⟨g', r1, r2⟩ := ih i g (by omega) (by omega) (by rw [hf]; exact hR)
        refine ⟨g', ?_, r2⟩
        rw [hf, List.length_cons] at r1
        rw [show L.length - i - (((L.drop (i + 1)).filter (stays g0 lim)).length + 1) = L.length - (i + 1) - ((L.drop (i + 1)).filter (stays g0 lim)).length by omega] at r1
        exact r1
      · have hf : (L.drop i).filter (stays g0 lim) = (L.drop (i + 1)).filter (stays g0 lim) := by
          rw [hd, List.filter_cons, if_neg hst]
        obtain ⟨g1, r1, r2, r3⟩ := forgetsM hM (hR.x i) (by rw [List.length_append, hlt, List.length_append, List.length_singleton]; omega)
        have he : (L.take i ++ ([(a, b)] ++ (L.drop (i + 1)).filter (stays g0 lim))).eraseIdx i = L.take i ++ (L.drop i).filter (stays g0 lim) := by
          rw [List.eraseIdx_append_of_length_le (by omega), hlt, Nat.sub_self, hf]; rfl
        rw [he] at r2
        rw [if_neg hst, if_neg (by decide), r1, bs_s, if_pos (nI_pos' (by rw [List.length_append, hlt, List.length_append, List.length_singleton]; omega)), nI_1]
        obtain ⟨g', t1, t2, t3⟩ := ih i g1 (by omega) (by omega) r2
        refine ⟨g', ?_, t2, fun k k1 k2 => by rw [t3 k k1 k2, r3 k k1 k2]⟩
        rw [hf, show L.length - i - ((L.drop (i + 1)).filter (stays g0 lim)).length = L.length - (i + 1) - ((L.drop (i + 1)).filter (stays g0 lim)).length + 1 by omega] at t1
        exact t1
theorem KLv.fl {n : Nat} {L : kL} {f : Nat × Nat → Bool} (h : KLv n L) : KLv n (L.filter f) := by
  intro k a b q
  have hm : (a, b) ∈ L := (List.mem_filter.mp (List.mem_of_getElem? q)).1
  obtain ⟨i, hi⟩ := List.getElem?_of_mem hm
  exact h i a b hi
theorem sweep_b {F : gF} {w n kc : Nat} {lim : Int32} {G : gR} {g : Nat → Int32} (hM : MS F w) (hW : WF g n kc) (hR : RR G g n kc) : ∃ (r : Int32) (G' : gR) (F1 F' : gF) (g' g1 : Nat → Int32) (kc' : Nat), dnX1_askAndDropBelow G lim = some (r, G') ∧ lpX5_sweep_31 lim FU 0 (st F w g) = some (0, st F' w g1) ∧ dnX5_get (st F' w g1) 6 = some (nI kc) ∧ lpX5_sweep_91 FU 0 (nI kc - 1) (st F' w g1) = some (0, r, st F' w g') ∧ MS F' w ∧ (∀ a : Nat, a ≠ 5 → F' a = F a) ∧ WF g' n kc' ∧ RR G' g' n kc' := by
  obtain ⟨L, hl, hL, hC, hv⟩ := kl_of hW hR
  have k8 := hW.2.1.1
  obtain ⟨F', g1, H', G', r1, r2, r3, r4, hW1, hR1, hL1, hG, hw, hC1, hm⟩ := ask_all (lim := lim) (g0 := g) hl hv FU 0 F g G G (by omega) (by unfold FU; omega) hM hW hR hL (fun k _ _ => rfl) (fun b _ _ _ => rfl) rfl hC (fun j q hj => by omega)
  have hd : L.drop L.length = [] := List.drop_eq_nil_of_le (Nat.le_refl _)
  obtain ⟨g', t1, t2, t3⟩ := drop_all (lim := lim) (g0 := g) r3 (by omega) (fun j q hj => hm j q (by omega)) FU L.length g1 (Nat.le_refl _) (by unfold FU; omega) (by rw [List.take_of_length_le (Nat.le_refl _), hd, List.filter_nil, List.append_nil]; exact hL1)
  rw [hd, List.filter_nil, List.length_nil, Nat.sub_self, Nat.sub_self, hl] at t1
  obtain ⟨hW2, hR2⟩ := WR.k hW1 hR1 t3 hG hw t2 hC1 hv.fl
  refine ⟨nI (kc - (L.filter (stays g lim)).length), G', F, F', g', g1, _, ?_, r2, ?_, t1, r3, r4, hW2, hR2⟩
  · unfold dnX1_askAndDropBelow
    rw [hC.2.1, hl]
    rw [show lpX1_askAndDropBelow_13 lim FU 0 0 (nI kc) G = _ from r1, bp_s]
  · rw [show (6 : Int32) = nI 6 from rfl, get_ r3 (by decide), hL1.2.1, hl]
