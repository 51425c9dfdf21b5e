/-! the reference's question -/
theorem waitingM0 {F : gF} {w n : Nat} (hM : MS F w) (h0 : row F w 0 = nI n) (hn : n ≤ 40) (hB : ∀ p : Nat, p < 40 → row F w (52 + p) = 0 ∨ row F w (52 + p) = 1) : dnX5_waiting F = some (nI (wc (row F w) n)) := by
  have K : ∀ (N j : Nat), j ≤ n → n < N + j → lpX5_waiting_4 F N (nI (wc (row F w) j)) (nI j) = some (0, nI (wc (row F w) n)) := by
    intro N
    induction N with
    | zero => intro j h1 h2; omega
    | succ N ih =>
      intro j h1 h2
      unfold lpX5_waiting_4
      rw [size_ hM h0, bp_s]
      by_cases hj : n ≤ j
      · rw [if_pos (nI_le hj (by omega)), show j = n by omega]
      · rw [if_neg (nI_ge (by omega) (by omega)), show (52 : Int32) = nI 52 from rfl, nI_add, getr hM (by omega), bp_s, nI_1]
        have e := ih (j + 1) (by omega) (by omega)
        have e2 : nI (wc (row F w) j) + row F w (52 + j) = nI (wc (row F w) (j + 1)) := by
          rcases hB j (by omega) with q | q
          · rw [q, wc, if_neg (by rw [q]; decide)]; simp
          · rw [q, wc, if_pos q, nI_1]
        rw [e2]
        exact e
  unfold dnX5_waiting
  rw [show lpX5_waiting_4 F FU 0 0 = _ from K FU 0 (by omega) (by unfold FU; omega), bp_s]
/-- what is told of the places from a on, ahead of r: of it at least that it is one of them -/
def tw (S : Prop) (g : Nat → Int32) (a r : Nat) (v : Int32) : Prop := (r = a ∧ v = -1) ∨ (∃ c : Nat, v = nI c ∧ a ≤ c ∧ c < r ∧ (S → isL g a (r - 1) c))
theorem tlM {S : Prop} {F : gF} {w a r s e c2 : Nat} {v : Int32} (hM : MS F w) (ht : tw S (row F w) a r v) (hs : a ≤ s) (h1 : s ≤ r) (h2 : r ≤ e + 1) (h3 : r = a → s = a) (he : e < 40) (c1 : s ≤ c2) (c3 : c2 ≤ e) (hc : S → isL (row F w) s e c2) : ∃ v' : Int32, dnX5_lesser F v (nI c2) = some v' ∧ tw S (row F w) a (e + 1) v' := by
  unfold dnX5_lesser
  rcases ht with ⟨rfl, rfl⟩ | ⟨c, rfl, k1, k2, k3⟩
  · rw [if_pos rfl]
    obtain rfl := h3 rfl
    exact ⟨_, rfl, Or.inr ⟨c2, rfl, c1, by omega, hc⟩⟩
  · have hne : ¬ nI c = -1 := fun q => absurd (show nI c < 0 by rw [q]; decide) (nI_pos (by omega))
    rw [if_neg hne, valueM hM (by omega), bp_s, valueM hM (by omega), bp_s]
    by_cases hh : row F w (12 + c) ≤ row F w (12 + c2)
    · rw [if_pos hh]
      refine ⟨_, rfl, Or.inr ⟨c, rfl, k1, by omega, fun q => ?_⟩⟩
      have i := lesM_is (k3 q) (hc q) hs (by omega) (by omega)
      rw [if_pos hh] at i
      exact i
    · rw [if_neg hh]
      refine ⟨_, rfl, Or.inr ⟨c2, rfl, by omega, by omega, fun q => ?_⟩⟩
      have i := lesM_is (k3 q) (hc q) hs (by omega) (by omega)
      rw [if_neg hh] at i
      exact i
/-- cells tell one of their places; where S, and nothing waits there, the least -/
def CW (S : Prop) (g : Nat → Int32) (n : Nat) : Prop := ∀ l p : Nat, 1 ≤ l → l ≤ 5 → p + 2 ^ l ≤ n → ∃ c : Nat, g (92 + 40 * (l - 1) + p) = nI c ∧ p ≤ c ∧ c < p + 2 ^ l ∧ (S → (∀ j : Nat, p ≤ j → j < p + 2 ^ l → g (52 + j) = 0) → c = lm g p (2 ^ l - 1))
theorem toldW {S : Prop} {F : gF} {w n l p : Nat} (hM : MS F w) (hn : n ≤ 40) (hC : CW S (row F w) n) (hl : l < 6) (hp : p + 2 ^ l ≤ n) (hw : ∀ j : Nat, p ≤ j → j < p + 2 ^ l → row F w (52 + j) = 0) : ∃ c : Nat, dnX5_toldBy F (nI l) (nI p) = some (nI c) ∧ p ≤ c ∧ c ≤ p + 2 ^ l - 1 ∧ (S → isL (row F w) p (p + 2 ^ l - 1) c) := by
  have hq := pw hl
  rw [toldM hM hl (by omega)]
  by_cases h0 : l = 0
  · subst h0
    rw [if_pos rfl]
    exact ⟨p, rfl, Nat.le_refl _, by omega, fun _ => lm_is (row F w) p 0⟩
  · obtain ⟨c, e, k1, k2, k3⟩ := hC l p (by omega) (by omega) hp
    rw [if_neg h0, e]
    refine ⟨c, rfl, k1, by omega, fun q => ?_⟩
    rw [k3 q hw]
    have i := lm_is (row F w) p (2 ^ l - 1)
    rw [show p + (2 ^ l - 1) = p + 2 ^ l - 1 by omega] at i
    exact i
theorem asks43 {S : Prop} {F : gF} {w n a b : Nat} {x : Int64} (hM : MS F w) (hn : n ≤ 40) (hB : ∀ p : Nat, p < 40 → row F w (52 + p) = 0 ∨ row F w (52 + p) = 1) (hx : ∀ p : Nat, p < 40 → (wb x p = true ↔ row F w (52 + p) = 1)) (hC : CW S (row F w) n) (hb : b < n) : ∀ (N j : Nat) (v : Int32), a ≤ j → j ≤ b + 1 → b + 1 < N + j → tw S (row F w) a j v → ∃ v' : Int32, lpX5_asks_43 F (nI b) N v (nI j) = some (0, v') ∧ tw S (row F w) a (b + 1) v' := by
  have hz : ∀ p : Nat, p < 40 → ¬ wb x p = true → row F w (52 + p) = 0 := fun p hp h => (hB p hp).resolve_right (fun q => h ((hx p hp).mpr q))
  intro N
  induction N with
  | zero => intro j v h0 h1 h2; omega
  | succ N ih =>
    intro j v h0 h1 h2 ht
    unfold lpX5_asks_43
    by_cases hj : b < j
    · rw [if_pos (nI_lt hj (by omega)), show b + 1 = j by omega]
      exact ⟨v, rfl, ht⟩
    · rw [if_neg (nI_nlt (by omega) (by omega)), waitM2 hM hB hx (by omega), bp_s]
      by_cases hw : wb x j = true
      · rw [if_pos hw, if_neg (by decide), nI_sub (Nat.le_refl j), Nat.sub_self, nI_1, lvM F (0 + 1) (by omega) (by omega), bp_s, show lgl (0 + 1) = 0 from rfl, toldM hM (by decide) (by omega), if_pos rfl, bp_s]
        obtain ⟨v1, e1, t1⟩ := tlM (s := j) (e := j) hM ht h0 (Nat.le_refl _) (by omega) (fun q => q) (by omega) (Nat.le_refl _) (Nat.le_refl _) (fun _ => lm_is (row F w) j 0)
        obtain ⟨v2, e2, t2⟩ := tlM (s := j) (e := j) hM t1 h0 (by omega) (by omega) (fun q => by omega) (by omega) (Nat.le_refl _) (Nat.le_refl _) (fun _ => lm_is (row F w) j 0)
        have ej : (nI j - ((1 : Int32) <<< (nI 0 &&& 31))) + 1 = nI j := by
          rw [sh1 (by decide), show (2 : Nat) ^ 0 = 1 from rfl, Int32.sub_eq_add_neg, Int32.add_assoc, show -nI 1 + 1 = 0 from by decide, Int32.add_zero]
        rw [e1, bp_s, ej, toldM hM (by decide) (by omega), if_pos rfl, bp_s, e2, bp_s, nI_1]
        exact ih (j + 1) v2 (by omega) (by omega) (by omega) t2
      · obtain ⟨e, q1, q2, q3, q4, q5⟩ := runEndM hM hB hx (show b < 40 by omega) FU j (by omega) (by unfold FU; omega)
        have hlb := lgl_b (e - j + 1) (by omega) (by omega)
        have hp := pw hlb.1
        have e2 : 2 ^ (lgl (e - j + 1) + 1) = 2 ^ lgl (e - j + 1) + 2 ^ lgl (e - j + 1) := by rw [Nat.pow_succ]; omega
        have hnw : ∀ k : Nat, j ≤ k → k ≤ e → row F w (52 + k) = 0 := by
          intro k k1 k2
          refine hz k (by omega) ?_
          by_cases hk : k = j
          · rw [hk]; exact hw
          · exact q4 k (by omega) k2
        obtain ⟨c1, f1, f2, f3, f4⟩ := toldW (l := lgl (e - j + 1)) (p := j) hM hn hC hlb.1 (by omega) (fun k k1 k2 => hnw k k1 (by omega))
        obtain ⟨c2, g1, g2, g3, g4⟩ := toldW (l := lgl (e - j + 1)) (p := e + 1 - 2 ^ lgl (e - j + 1)) hM hn hC hlb.1 (by omega) (fun k k1 k2 => hnw k (by omega) (by omega))
        rw [show e + 1 - 2 ^ lgl (e - j + 1) + 2 ^ lgl (e - j + 1) - 1 = e by omega] at g3 g4
        obtain ⟨v1, e1, t1⟩ := tlM (s := j) (e := j + 2 ^ lgl (e - j + 1) - 1) hM ht h0 (Nat.le_refl _) (by omega) (fun q => q) (by omega) f2 f3 f4
        rw [show j + 2 ^ lgl (e - j + 1) - 1 + 1 = j + 2 ^ lgl (e - j + 1) by omega] at t1
        obtain ⟨v2, e3, t2⟩ := tlM (s := e + 1 - 2 ^ lgl (e - j + 1)) (e := e) hM t1 (by omega) (by omega) (by omega) (fun q => by omega) (by omega) g2 g3 g4
        have ee : (nI e - nI (2 ^ lgl (e - j + 1))) + 1 = nI (e + 1 - 2 ^ lgl (e - j + 1)) := nI_s1 (j := e + 1) (by omega) (by omega)
        rw [if_neg hw, if_pos rfl]
        unfold dnX5_runEnd
        rw [q3, bp_s, bp_s, nI_sub q1, nI_1, lvM F (e - j + 1) (by omega) (by omega), bp_s, f1, bp_s, e1, bp_s, sh1 hlb.1, ee, g1, bp_s, e3, bp_s, nI_1]
        exact ih (e + 1) v2 (by omega) (by omega) (by omega) t2
theorem CW.st {S : Prop} {F : gF} {w n : Nat} {g g' : Nat → Int32} (hn : n ≤ 40) (h : CW S g n) (he : ∀ k : Nat, 12 ≤ k → k < 310 → g' k = g k) : CW S (row (st F w g') w) n := by
  intro l p h1 h5 hp
  have hw := pw (show l < 6 by omega)
  obtain ⟨c, e, k1, k2, k3⟩ := h l p h1 h5 hp
  refine ⟨c, by rw [row_st (by omega), he _ (by omega) (by omega)]; exact e, k1, k2, fun q hz => ?_⟩
  rw [k3 q (fun j j1 j2 => by have := hz j j1 j2; rw [row_st (by omega), he _ (by omega) (by omega)] at this; exact this)]
  exact lm_cg _ (fun j j1 j2 => by rw [row_st (by omega), he _ (by omega) (by omega)])
/-- a question, behind what is built for it -/
theorem finM {S : Prop} {F : gF} {w n a b : Nat} {x : Int64} {g : Nat → Int32} (hM : MS F w) (h0 : g 0 = nI n) (hn : n ≤ 40) (hB : ∀ p : Nat, p < 40 → g (52 + p) = 0 ∨ g (52 + p) = 1) (hx : ∀ p : Nat, p < 40 → (wb x p = true ↔ g (52 + p) = 1)) (hC : CW S g n) (hab : a ≤ b) (hb : b < n) : ∃ c : Nat, a ≤ c ∧ c ≤ b ∧ (S → c = lm g a (b - a)) ∧ (bp (dnX5_adds (st F w g) 9 1) (fun F41 => bp (dnX5_looksIn F41 (nI a) (nI b)) (fun r43 => bp (dnX5_adds F41 7 r43) (fun F45 => bp (lpX5_asks_43 F45 (nI b) FU (-1) (nI a)) (fun z43_45 => some (z43_45.2, F45)))))) = some (nI c, st F w (upd (upd g 9 (g 9 + 1)) 7 (g 7 + nI (cl (wb x) (b + 1 - a) a 0)))) := by
  have hM1 := hM.s (upd g 9 (g 9 + 1))
  have hM2 := hM.s (upd (upd g 9 (g 9 + 1)) 7 (g 7 + nI (cl (wb x) (b + 1 - a) a 0)))
  have hB1 : ∀ p : Nat, p < 40 → row (st F w (upd g 9 (g 9 + 1))) w (52 + p) = 0 ∨ row (st F w (upd g 9 (g 9 + 1))) w (52 + p) = 1 := fun p hp => by
    rw [row_st (by omega)]; simp only [upd]; rw [if_neg (by omega)]; exact hB p hp
  have hx1 : ∀ p : Nat, p < 40 → (wb x p = true ↔ row (st F w (upd g 9 (g 9 + 1))) w (52 + p) = 1) := fun p hp => by
    rw [row_st (by omega)]; simp only [upd]; rw [if_neg (by omega)]; exact hx p hp
  have hB2 : ∀ p : Nat, p < 40 → row (st F w (upd (upd g 9 (g 9 + 1)) 7 (g 7 + nI (cl (wb x) (b + 1 - a) a 0)))) w (52 + p) = 0 ∨ row (st F w (upd (upd g 9 (g 9 + 1)) 7 (g 7 + nI (cl (wb x) (b + 1 - a) a 0)))) w (52 + p) = 1 := fun p hp => by
    rw [row_st (by omega)]; simp only [upd]; rw [if_neg (by omega), if_neg (by omega)]; exact hB p hp
  have hx2 : ∀ p : Nat, p < 40 → (wb x p = true ↔ row (st F w (upd (upd g 9 (g 9 + 1)) 7 (g 7 + nI (cl (wb x) (b + 1 - a) a 0)))) w (52 + p) = 1) := fun p hp => by
    rw [row_st (by omega)]; simp only [upd]; rw [if_neg (by omega), if_neg (by omega)]; exact hx p hp
  have hC2 : CW S (row (st F w (upd (upd g 9 (g 9 + 1)) 7 (g 7 + nI (cl (wb x) (b + 1 - a) a 0)))) w) n := hC.st hn (fun k k1 k2 => by simp only [upd]; rw [if_neg (by omega), if_neg (by omega)])
  obtain ⟨v, ev, ht⟩ := asks43 (a := a) hM2 hn hB2 hx2 hC2 hb FU a (-1) (Nat.le_refl _) (by omega) (by unfold FU; omega) (Or.inl ⟨rfl, rfl⟩)
  rcases ht with ⟨q, -⟩ | ⟨c, rfl, c1, c2, c3⟩
  · omega
  refine ⟨c, c1, by omega, fun q => ?_, ?_⟩
  · have i := lm_of (c3 q) (by omega)
    rw [i, show b + 1 - 1 - a = b - a by omega]
    exact lm_cg _ (fun j j1 j2 => by rw [row_st (by omega)]; simp only [upd]; rw [if_neg (by omega), if_neg (by omega)])
  · rw [show (9 : Int32) = nI 9 from rfl, show (7 : Int32) = nI 7 from rfl, adds_ hM (by decide), bp_s, looksM hM1 hB1 hx1 hab (by omega), bp_s, adds_ hM (by decide), bp_s, show upd g 9 (g 9 + 1) 7 = g 7 from by simp [upd], ev, bp_s]
theorem wc_st {F : gF} {w : Nat} {g : Nat → Int32} : ∀ m : Nat, m ≤ 40 → wc (row (st F w g) w) m = wc g m := by
  intro m
  induction m with
  | zero => intro _; rfl
  | succ m ih => intro hm; rw [wc, wc, ih (by omega), row_st (by omega)]
/-- a question ahead of which nothing is built -/
theorem asksM {S : Prop} {F : gF} {w n a b : Nat} {x : Int64} {g : Nat → Int32} (hM : MS F w) (h0 : g 0 = nI n) (hn : n ≤ 40) (hB : ∀ p : Nat, p < 40 → g (52 + p) = 0 ∨ g (52 + p) = 1) (hx : ∀ p : Nat, p < 40 → (wb x p = true ↔ g (52 + p) = 1)) (hC : CW S g n) (hab : a ≤ b) (hb : b < n) (hnb : ¬ g 1 = 0 ∨ wc g n = 0) : ∃ c : Nat, a ≤ c ∧ c ≤ b ∧ (S → c = lm g a (b - a)) ∧ dnX5_asks (st F w g) (nI a) (nI b) = some (nI c, st F w (upd (upd g 9 (g 9 + 1)) 7 (g 7 + nI (cl (wb x) (b + 1 - a) a 0)))) := by
  obtain ⟨c, c1, c2, c3, fin⟩ := finM hM h0 hn hB hx hC hab hb
  refine ⟨c, c1, c2, c3, ?_⟩
  unfold dnX5_asks
  rw [show (1 : Int32) = nI 1 from rfl, get_ hM (by decide), bp_s]
  by_cases h1 : g 1 = 0
  · have hz := hnb.resolve_left (fun q => q h1)
    rw [if_pos h1, waitingM0 (hM.s g) (by rw [row_st (by decide)]; exact h0) hn (fun p hp => by rw [row_st (by omega)]; exact hB p hp), bp_s]
    have ew : wc (row (st F w g) w) n = wc g n := wc_st n hn
    rw [ew, hz, if_pos (show nI 0 ≤ 0 from Int32.le_refl _)]
    exact fin
  · rw [if_neg h1]
    exact fin
/-- a question ahead of which all is built -/
theorem asksB {S : Prop} {F : gF} {w n a b : Nat} {g g1 : Nat → Int32} (hM : MS F w) (h0 : g 0 = nI n) (hn : n ≤ 40) (hB : ∀ p : Nat, p < 40 → g (52 + p) = 0 ∨ g (52 + p) = 1) (h1 : g 1 = 0) (hz : ¬ wc g n = 0) (eB : dnX5_builds (st F w g) = some (st F w g1)) (h01 : g1 0 = nI n) (hw : ∀ p : Nat, p < 40 → g1 (52 + p) = 0) (hC : CW S g1 n) (hab : a ≤ b) (hb : b < n) : ∃ c : Nat, a ≤ c ∧ c ≤ b ∧ (S → c = lm g1 a (b - a)) ∧ dnX5_asks (st F w g) (nI a) (nI b) = some (nI c, st F w (upd (upd g1 9 (g1 9 + 1)) 7 (g1 7 + nI (cl (wb 0) (b + 1 - a) a 0)))) := by
  obtain ⟨c, c1, c2, c3, fin⟩ := finM (S := S) (x := 0) hM h01 hn (fun p hp => Or.inl (hw p hp)) (fun p hp => ⟨fun q => absurd q (wb0 p), fun q => by rw [hw p hp] at q; exact absurd q (by decide)⟩) hC hab hb
  refine ⟨c, c1, c2, c3, ?_⟩
  have hl := wc_le g n
  unfold dnX5_asks
  rw [show (1 : Int32) = nI 1 from rfl, get_ hM (by decide), bp_s, if_pos h1, waitingM0 (hM.s g) (by rw [row_st (by decide)]; exact h0) hn (fun p hp => by rw [row_st (by omega)]; exact hB p hp), bp_s, wc_st n hn, if_neg (show ¬ nI (wc g n) ≤ 0 from nI_nle (by omega) (by omega)), eB, bp_s]
  exact fin
/-! a question, both sides -/
theorem WF.cg {g g' : Nat → Int32} {n kc : Nat} (h : WF g n kc) (e : ∀ k : Nat, k < 310 → k ≠ 7 → k ≠ 8 → k ≠ 9 → k ≠ 10 → g' k = g k) : WF g' n kc := by
  obtain ⟨⟨n1, n40, hn⟩, ⟨k8, hk⟩, hr, hm, ⟨w1, w2, w3⟩, hK, hv, hc⟩ := h
  have e1 : g' 1 = g 1 := e 1 (by decide) (by decide) (by decide) (by decide) (by decide)
  have ew : ∀ p : Nat, p < 40 → g' (52 + p) = g (52 + p) := fun p hp => e _ (by omega) (by omega) (by omega) (by omega) (by omega)
  refine ⟨⟨n1, n40, by rw [e 0 (by decide) (by decide) (by decide) (by decide) (by decide)]; exact hn⟩, ⟨k8, by rw [e 6 (by decide) (by decide) (by decide) (by decide) (by decide)]; exact hk⟩, by rw [e1]; exact hr, by rw [e 2 (by decide) (by decide) (by decide) (by decide) (by decide)]; exact hm, ⟨fun p hp => by rw [ew p hp]; exact w1 p hp, fun p h1 h2 => by rw [ew p h2]; exact w2 p h1 h2, fun q p hp => by rw [ew p hp]; exact w3 (by rw [← e1]; exact q) p hp⟩, fun k hk2 => ?_, fun p hp => ?_, fun l p h1 h5 hp => ?_⟩
  · rw [e (292 + 2 * k) (by omega) (by omega) (by omega) (by omega) (by omega), e (293 + 2 * k) (by omega) (by omega) (by omega) (by omega) (by omega)]
    exact hK k hk2
  · rw [e (12 + p) (by omega) (by omega) (by omega) (by omega) (by omega)]
    exact hv p hp
  · have hw := pw (show l < 6 by omega)
    obtain ⟨c, c1, c2, c3, c4⟩ := hc l p h1 h5 hp
    refine ⟨c, by rw [e _ (by omega) (by omega) (by omega) (by omega) (by omega)]; exact c1, c2, c3, fun q => ?_⟩
    rw [c4 (fun j j1 j2 => by rw [← ew j (by omega)]; exact q j j1 j2)]
    exact lm_cg _ (fun j j1 j2 => (e _ (by omega) (by omega) (by omega) (by omega) (by omega)).symm)
theorem RR.cg {G G' : gR} {g g' : Nat → Int32} {n kc : Nat} (h : RR G g n kc) (hn : n ≤ 40) (k8 : kc ≤ 8) (e : ∀ k : Nat, k < 310 → k ≠ 7 → k ≠ 8 → k ≠ 9 → k ≠ 10 → g' k = g k) (c0 : ∀ k : Nat, k ≠ 7 → k ≠ 8 → k ≠ 9 → k ≠ 10 → G'.1 0 k = G.1 0 k) (cb : ∀ b : Nat, b ≠ 0 → G'.1 b = G.1 b) (cw : G'.2 = G.2) (c7 : G'.1 0 7 = g' 7) (c8 : G'.1 0 8 = g' 8) (c9 : G'.1 0 9 = g' 9) (c10 : G'.1 0 10 = g' 10) : RR G' g' n kc := by
  obtain ⟨⟨s0, s1, s2, s7, s8, s9, s10, s6⟩, hV, hC, hw, hK⟩ := h
  refine ⟨⟨?_, ?_, ?_, c7, c8, c9, c10, ?_⟩, fun p hp => ?_, fun l p h1 h5 hp => ?_, fun p hp => ?_, fun k hk => ?_⟩
  · rw [c0 3 (by decide) (by decide) (by decide) (by decide), e 0 (by decide) (by decide) (by decide) (by decide) (by decide)]; exact s0
  · rw [c0 4 (by decide) (by decide) (by decide) (by decide), e 1 (by decide) (by decide) (by decide) (by decide) (by decide)]; exact s1
  · rw [c0 5 (by decide) (by decide) (by decide) (by decide), e 2 (by decide) (by decide) (by decide) (by decide) (by decide)]; exact s2
  · rw [cb 3 (by decide), e 6 (by decide) (by decide) (by decide) (by decide) (by decide)]; exact s6
  · rw [cb 1 (by decide), e (12 + p) (by omega) (by omega) (by omega) (by omega) (by omega)]; exact hV p hp
  · have hw := pw (show l < 6 by omega)
    rw [cb 2 (by decide), e _ (by omega) (by omega) (by omega) (by omega) (by omega)]; exact hC l p h1 h5 hp
  · rw [cw]
    constructor
    · intro q
      obtain ⟨q1, q2⟩ := (hw p hp).mp q
      exact ⟨q1, by rw [e _ (by omega) (by omega) (by omega) (by omega) (by omega)]; exact q2⟩
    · intro q
      refine (hw p hp).mpr ⟨q.1, ?_⟩
      have := q.2
      have q1 := q.1
      rw [e _ (by omega) (by omega) (by omega) (by omega) (by omega)] at this; exact this
  · rw [cb 4 (by decide), cb 5 (by decide), e (292 + 2 * k) (by omega) (by omega) (by omega) (by omega) (by omega), e (293 + 2 * k) (by omega) (by omega) (by omega) (by omega) (by omega)]
    exact hK k hk
theorem WF.cw {g : Nat → Int32} {n kc : Nat} (h : WF g n kc) : CW True g n := fun l p h1 h5 hp => by
  obtain ⟨c, c1, c2, c3, c4⟩ := h.2.2.2.2.2.2.2 l p h1 h5 hp
  exact ⟨c, c1, c2, c3, fun _ => c4⟩
theorem WF.ce {G : gR} {g : Nat → Int32} {n kc : Nat} (h : WF g n kc) (hR : RR G g n kc) (l p : Nat) (h1 : 1 ≤ l) (h5 : l ≤ 5) (hp : p + 2 ^ l ≤ n) (hw : ∀ j : Nat, p ≤ j → j < p + 2 ^ l → ¬ wb G.2 j = true) : G.1 2 (40 * l + p) = nI (lm g p (2 ^ l - 1)) := by
  have n40 := h.1.2.1
  obtain ⟨c, c1, c2, c3, c4⟩ := h.2.2.2.2.2.2.2 l p h1 h5 hp
  rw [hR.2.2.1 l p h1 h5 hp, c1, c4 (fun j j1 j2 => (h.2.2.2.2.1.1 j (by omega)).resolve_right (fun q => hw j j1 j2 ((hR.2.2.2.1 j (by omega)).mpr ⟨by omega, q⟩)))]
/-- what a question leaves as it was -/
def QF (g g' : Nat → Int32) : Prop := ∀ k : Nat, k ≠ 7 → k ≠ 8 → k ≠ 9 → k ≠ 10 → (k < 52 ∨ 292 ≤ k) → g' k = g k
theorem question_b {F : gF} {w n kc a b : Nat} {G : gR} {g : Nat → Int32} (hM : MS F w) (hW : WF g n kc) (hR : RR G g n kc) (hab : a ≤ b) (hb : b < n) : ∃ (G' : gR) (g' : Nat → Int32), dnX1_question G (nI a) (nI b) = some (nI (lm g a (b - a)), G') ∧ dnX5_asks (st F w g) (nI a) (nI b) = some (nI (lm g a (b - a)), st F w g') ∧ WF g' n kc ∧ RR G' g' n kc ∧ QF g g' := by
  have n40 := hW.1.2.1
  have k8 := hW.2.1.1
  -- behind what is built
  have K : ∀ (G : gR) (g1 : Nat → Int32), WF g1 n kc → RR G g1 n kc → ∃ G' : gR, bw (wR G 0 9 ((G.1 0 9) + 1)) (fun G4 => bp (dnX4_looksFor (nI a) (nI b) G4.2) (fun r6 => bw (wR G4 0 7 ((G4.1 0 7) + r6)) (fun G7 => bp (dnX1_leastByLooks G7 (nI a) (nI b)) (fun r9 => some (r9, G7))))) = some (nI (lm g1 a (b - a)), G') ∧ WF (upd (upd g1 9 (g1 9 + 1)) 7 (g1 7 + nI (cl (wb G.2) (b + 1 - a) a 0))) n kc ∧ RR G' (upd (upd g1 9 (g1 9 + 1)) 7 (g1 7 + nI (cl (wb G.2) (b + 1 - a) a 0))) n kc := by
    intro G g1 hW1 hR1
    have e : ∀ k : Nat, k < 310 → k ≠ 7 → k ≠ 8 → k ≠ 9 → k ≠ 10 → (upd (upd g1 9 (g1 9 + 1)) 7 (g1 7 + nI (cl (wb G.2) (b + 1 - a) a 0))) k = g1 k := fun k _ k1 _ k3 _ => by
      simp only [upd]; rw [if_neg k1, if_neg k3]
    have hV : ∀ p : Nat, p < n → (wR (wR G 0 9 ((G.1 0 9) + 1)) 0 7 (((wR G 0 9 ((G.1 0 9) + 1)).1 0 7) + nI (cl (wb G.2) (b + 1 - a) a 0))).1 1 p = g1 (12 + p) := fun p hp => by
      simp only [wR, wr]; rw [if_neg (by decide), if_neg (by decide)]; exact hR1.2.1 p hp
    refine ⟨_, ?_, hW1.cg e, hR1.cg n40 k8 e (G' := wR (wR G 0 9 ((G.1 0 9) + 1)) 0 7 (((wR G 0 9 ((G.1 0 9) + 1)).1 0 7) + nI (cl (wb G.2) (b + 1 - a) a 0))) (fun k k1 k2 k3 k4 => ?_) (fun b hb => ?_) rfl ?_ ?_ ?_ ?_⟩
    · rw [bw_s, show (wR G 0 9 ((G.1 0 9) + 1)).2 = G.2 from rfl, looksC hab (by omega), bp_s, bw_s, looksBy (n := n) hV n40 hab hb (fun l p h1 h5 hp hw => by
        simp only [wR, wr]; rw [if_neg (by decide), if_neg (by decide)]; exact hW1.ce hR1 l p h1 h5 hp hw), bp_s]
    · simp only [wR, wr, upd, if_true]; rw [if_neg k1, if_neg k3]
    · simp only [wR, wr]; rw [if_neg hb, if_neg hb]
    · simp [wR, wr, upd, hR1.1.2.2.2.1]
    · simp [wR, wr, upd, hR1.1.2.2.2.2.1]
    · simp [wR, wr, upd, hR1.1.2.2.2.2.2.1]
    · simp [wR, wr, upd, hR1.1.2.2.2.2.2.2.1]
  by_cases hbuilt : g 1 = 0 ∧ ¬ wc g n = 0
  · obtain ⟨h1, hz⟩ := hbuilt
    obtain ⟨G1, g1, e4, e5, hW1, hR1, hB, hC⟩ := builds_b hM hW.w0 hR.r0
    obtain ⟨G', f4, hW2, hR2⟩ := K G1 g1 hW1 hR1
    have e0 : G1.2 = 0 := hC.2.2.2.2.1
    obtain ⟨c, c1, c2, c3, c5⟩ := asksB (S := True) hM hW.1.2.2 n40 hW.2.2.2.2.1.1 h1 hz e5 hW1.1.2.2 hB.2.2.2.1 hW1.cw hab hb
    have el : lm g1 a (b - a) = lm g a (b - a) := lm_cg _ (fun j j1 j2 => hB.1 _ (by omega) (by omega) (by omega))
    refine ⟨G', _, ?_, ?_, hW2, hR2, fun k k1 k2 k3 k4 k5 => ?_⟩
    · unfold dnX1_question dnX1_isBuiltByQuestion
      rw [hR.1.2.1, if_pos h1, if_neg (fun q => hz ((none_w hW hR).mp ((lg_cmp0 _).mp q))), bp_s, if_neg (by decide), e4, bp_s, ← el]
      exact f4
    · rw [c5, c3 trivial, el, e0]
    · simp only [upd]; rw [if_neg k1, if_neg k3]; exact hB.1 k k2 k4 k5
  · obtain ⟨G', f4, hW2, hR2⟩ := K G g hW hR
    have hx : ∀ p : Nat, p < 40 → (wb G.2 p = true ↔ g (52 + p) = 1) := fun p hp => (hR.2.2.2.1 p (by omega)).trans ⟨fun q => q.2, fun q => ⟨hp, q⟩⟩
    have hnb : ¬ g 1 = 0 ∨ wc g n = 0 := by
      by_cases h1 : g 1 = 0
      · by_cases hz : wc g n = 0
        · exact Or.inr hz
        · exact absurd ⟨h1, hz⟩ hbuilt
      · exact Or.inl h1
    obtain ⟨c, c1, c2, c3, c5⟩ := asksM (S := True) hM hW.1.2.2 n40 hW.2.2.2.2.1.1 hx hW.cw hab hb hnb
    refine ⟨G', _, ?_, ?_, hW2, hR2, fun k k1 k2 k3 k4 k5 => ?_⟩
    · have e0 : dnX1_isBuiltByQuestion G = some 0 := by
        unfold dnX1_isBuiltByQuestion
        rw [hR.1.2.1]
        by_cases h1 : g 1 = 0
        · rw [if_pos h1, if_pos ((lg_cmp0 _).mpr ((none_w hW hR).mpr (hnb.resolve_left (fun q => q h1))))]
        · rw [if_neg h1]
      unfold dnX1_question
      rw [e0, bp_s, if_pos rfl]
      exact f4
    · rw [c5, c3 trivial]
    · simp only [upd]; rw [if_neg k1, if_neg k3]
