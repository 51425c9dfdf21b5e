/-! all is built, on both sides; questions -/
def W0 (g : Nat → Int32) (n kc : Nat) : Prop :=
  (1 ≤ n ∧ n ≤ 40 ∧ g 0 = nI n) ∧ (kc ≤ 8 ∧ g 6 = nI kc) ∧ (g 1 = 0 ∨ g 1 = 1 ∨ g 1 = 2) ∧ (∃ m : Nat, 1 ≤ m ∧ m ≤ 8 ∧ g 2 = nI m) ∧
  (∀ k : Nat, k < kc → ∃ a b : Nat, g (292 + 2 * k) = nI a ∧ g (293 + 2 * k) = nI b ∧ a ≤ b ∧ b < n) ∧
  (∀ p : Nat, p < n → -999 ≤ g (12 + p) ∧ g (12 + p) ≤ 999)
def R0 (G : gR) (g : Nat → Int32) (n kc : Nat) : Prop :=
  (G.1 0 3 = g 0 ∧ G.1 0 4 = g 1 ∧ G.1 0 5 = g 2 ∧ G.1 0 7 = g 7 ∧ G.1 0 8 = g 8 ∧ G.1 0 9 = g 9 ∧ G.1 0 10 = g 10 ∧ G.1 3 2 = g 6) ∧
  (∀ p : Nat, p < n → G.1 1 p = g (12 + p)) ∧
  (∀ k : Nat, k < kc → G.1 4 k = g (292 + 2 * k) ∧ G.1 5 k = g (293 + 2 * k))
theorem WF.w0 {g : Nat → Int32} {n kc : Nat} (h : WF g n kc) : W0 g n kc := ⟨h.1, h.2.1, h.2.2.1, h.2.2.2.1, h.2.2.2.2.2.1, h.2.2.2.2.2.2.1⟩
theorem RR.r0 {G : gR} {g : Nat → Int32} {n kc : Nat} (h : RR G g n kc) : R0 G g n kc := ⟨h.1, h.2.1, h.2.2.2.2⟩
theorem wb0 (p : Nat) : ¬ wb 0 p = true := by simp [wb]
theorem builds_b {F : gF} {w n kc : Nat} {G : gR} {g : Nat → Int32} (hM : MS F w) (hW : W0 g n kc) (hR : R0 G g n kc) : ∃ (G' : gR) (g' : Nat → Int32), dnX1_buildAll G = some G' ∧ dnX5_builds (st F w g) = some (st F w g') ∧ WF g' n kc ∧ RR G' g' n kc ∧ BI g g' n ∧ BC G G' g n := by
  obtain ⟨⟨n1, n40, hn⟩, ⟨k8, hk⟩, hr, hm, hK, hv⟩ := hW
  obtain ⟨⟨s0, s1, s2, s7, s8, s9, s10, s6⟩, hV, hKK⟩ := hR
  obtain ⟨G', e4, hC⟩ := buildAllC (s0.trans hn) n1 n40 hV
  obtain ⟨g', e5, hB⟩ := buildsM hM hn n40
  refine ⟨G', g', e4, e5, ?_, ?_, hB, hC⟩
  · obtain ⟨f, f8, f10, fw, fc⟩ := hB
    refine ⟨⟨n1, n40, by rw [f 0 (by decide) (by decide) (by decide)]; exact hn⟩, ⟨k8, by rw [f 6 (by decide) (by decide) (by decide)]; exact hk⟩, by rw [f 1 (by decide) (by decide) (by decide)]; exact hr, by rw [f 2 (by decide) (by decide) (by decide)]; exact hm, ⟨fun p hp => Or.inl (fw p hp), fun p _ hp => fw p hp, fun _ p hp => fw p hp⟩, fun k hkk => ?_, fun p hp => ?_, fun l p h1 h5 hp => ?_⟩
    · rw [f (292 + 2 * k) (by omega) (by omega) (by omega), f (293 + 2 * k) (by omega) (by omega) (by omega)]
      exact hK k hkk
    · rw [f (12 + p) (by omega) (by omega) (by omega)]
      exact hv p hp
    · have hw := pw (show l < 6 by omega)
      have hb := lm_b g p (2 ^ l - 1)
      exact ⟨_, fc l p h1 h5 hp, hb.1, by omega, fun _ => lm_cg _ (fun j j1 j2 => (f (12 + j) (by omega) (by omega) (by omega)).symm)⟩
  · obtain ⟨f, f8, f10, fw, fc⟩ := hB
    obtain ⟨c, c8, c10, cb, cw, cc⟩ := hC
    refine ⟨⟨?_, ?_, ?_, ?_, ?_, ?_, ?_, ?_⟩, fun p hp => ?_, fun l p h1 h5 hp => ?_, fun p hp => ?_, fun k hkk => ?_⟩
    · rw [c 3 (by decide) (by decide), f 0 (by decide) (by decide) (by decide)]; exact s0
    · rw [c 4 (by decide) (by decide), f 1 (by decide) (by decide) (by decide)]; exact s1
    · rw [c 5 (by decide) (by decide), f 2 (by decide) (by decide) (by decide)]; exact s2
    · rw [c 7 (by decide) (by decide), f 7 (by decide) (by decide) (by decide)]; exact s7
    · rw [c8, f8, s8]
    · rw [c 9 (by decide) (by decide), f 9 (by decide) (by decide) (by decide)]; exact s9
    · rw [c10, f10, s10]
    · rw [cb 3 (by decide) (by decide), f 6 (by decide) (by decide) (by decide)]; exact s6
    · rw [cb 1 (by decide) (by decide), f (12 + p) (by omega) (by omega) (by omega)]; exact hV p hp
    · rw [cc l p h1 h5 hp, fc l p h1 h5 hp]
    · rw [cw]
      constructor
      · intro q; exact absurd q (wb0 p)
      · intro q; rw [fw p q.1] at q; exact absurd q.2 (by decide)
    · rw [cb 4 (by decide) (by decide), cb 5 (by decide) (by decide), f (292 + 2 * k) (by omega) (by omega) (by omega), f (293 + 2 * k) (by omega) (by omega) (by omega)]
      exact hKK k hkk
/-- the place that is told of the places from a on, ahead of r -/
def tl (g : Nat → Int32) (a r : Nat) : Int32 := if r = a then -1 else nI (lm g a (r - 1 - a))
theorem tlC {G : gR} {g : Nat → Int32} {n a r e : Nat} (hV : ∀ p : Nat, p < n → G.1 1 p = g (12 + p)) (hn : n ≤ 40) (h1 : a ≤ r) (h2 : r ≤ e) (h3 : e ≤ n) : dnX1_lesser G (tl g a r) (tl g r e) = some (tl g a e) := by
  by_cases ha : r = a
  · subst ha
    unfold dnX1_lesser
    rw [show tl g r r = -1 from by unfold tl; rw [if_pos rfl], if_pos (by decide)]
  · by_cases he : e = r
    · subst he
      have hb := lm_b g a (e - 1 - a)
      unfold dnX1_lesser
      rw [show tl g e e = -1 from by unfold tl; rw [if_pos rfl], show tl g a e = nI (lm g a (e - 1 - a)) from by unfold tl; rw [if_neg ha], if_neg (nI_pos (by omega)), if_pos (show nI (lm g a (e - 1 - a)) < (40 : Int32) from nI_lt (b := 40) (by omega) (by decide)), if_pos (by decide)]
    · have b1 := lm_b g a (r - 1 - a)
      have b2 := lm_b g r (e - 1 - r)
      unfold tl
      rw [if_neg ha, if_neg he, if_neg (by omega), lesC' hV hn (by omega) (by omega)]
      have q := lm_of (les_is (lm_to (g := g) (show a ≤ r - 1 by omega)) (lm_to (g := g) (show r ≤ e - 1 by omega)) (by omega) (by omega) (by omega)) (by omega)
      rw [q]
theorem tl_1 (g : Nat → Int32) (j : Nat) : tl g j (j + 1) = nI j := by
  unfold tl
  rw [if_neg (by omega), show j + 1 - 1 - j = 0 by omega]
  rfl
theorem nI_s1 {j m : Nat} (h : m ≤ j) (h1 : 1 ≤ j) : (nI (j - 1) - nI m) + 1 = nI (j - m) := by
  rw [Int32.sub_eq_add_neg, Int32.add_assoc, Int32.add_comm (-nI m), ← Int32.add_assoc, ← Int32.sub_eq_add_neg, nI_1, show j - 1 + 1 = j by omega, nI_sub h]
theorem runC {G : gR} {g : Nat → Int32} {n r j : Nat} {x2 : Int32} (hV : ∀ p : Nat, p < n → G.1 1 p = g (12 + p)) (hn : n ≤ 40) (h1 : r ≤ j) (h2 : j ≤ n) (hx : x2 = nI j - 1) (hE : ∀ l p : Nat, 1 ≤ l → l ≤ 5 → r ≤ p → p + 2 ^ l ≤ j → G.1 2 (40 * l + p) = nI (lm g p (2 ^ l - 1))) : dnX1_leastOfRun G (nI r) x2 = some (tl g r j) := by
  unfold dnX1_leastOfRun
  by_cases hr : r = j
  · subst hr
    have : ¬ nI r ≤ x2 := by
      rw [hx]
      by_cases h0 : r = 0
      · subst h0; decide
      · rw [show nI r - 1 = nI (r - 1) from nI_sub (b := 1) (by omega)]
        exact nI_ge (by omega) (by omega)
    rw [if_neg this]
    unfold tl
    rw [if_pos rfl]
  · have ex : x2 = nI (j - 1) := by rw [hx]; exact nI_sub (b := 1) (by omega)
    have hb := lgl_b (j - r) (by omega) (by omega)
    have hw := pw hb.1
    have e2 : 2 ^ (lgl (j - r) + 1) = 2 ^ lgl (j - r) + 2 ^ lgl (j - r) := by rw [Nat.pow_succ]; omega
    have b1 := lm_b g r (2 ^ lgl (j - r) - 1)
    have b2 := lm_b g (j - 2 ^ lgl (j - r)) (2 ^ lgl (j - r) - 1)
    rw [ex, if_pos (nI_le (by omega) (by omega)), nI_sub (show r ≤ j - 1 by omega), nI_1, show j - 1 - r + 1 = j - r by omega, lvC _ (by omega) (by omega), bp_s, sh1 hb.1, nI_s1 (by omega) (by omega), cellE (n := n) hn hb.1 (by omega) (fun q => hE _ r q (by omega) (by omega) (by omega)), bp_s, cellE (n := n) hn hb.1 (by omega) (fun q => hE _ _ q (by omega) (by omega) (by omega)), bp_s, lesC' hV hn (by omega) (by omega), bp_s]
    unfold tl
    rw [if_neg (by omega)]
    have i1 := lm_is g r (2 ^ lgl (j - r) - 1)
    have i2 := lm_is g (j - 2 ^ lgl (j - r)) (2 ^ lgl (j - r) - 1)
    rw [show j - 2 ^ lgl (j - r) + (2 ^ lgl (j - r) - 1) = j - 1 by omega] at i2
    have q := lm_of (les_is i1 i2 (by omega) (by omega) (by omega)) (by omega)
    rw [q]
theorem looks8 {G : gR} {g : Nat → Int32} {n a b : Nat} (hV : ∀ p : Nat, p < n → G.1 1 p = g (12 + p)) (hn : n ≤ 40) (hb : b < n) (hE : ∀ l p : Nat, 1 ≤ l → l ≤ 5 → p + 2 ^ l ≤ n → (∀ j : Nat, p ≤ j → j < p + 2 ^ l → ¬ wb G.2 j = true) → G.1 2 (40 * l + p) = nI (lm g p (2 ^ l - 1))) : ∀ (N j r : Nat), a ≤ r → r ≤ j → j ≤ b + 1 → b + 1 < N + j → (∀ k : Nat, r ≤ k → k < j → ¬ wb G.2 k = true) → ∃ r' : Nat, a ≤ r' ∧ r' ≤ b + 1 ∧ (∀ k : Nat, r' ≤ k → k < b + 1 → ¬ wb G.2 k = true) ∧ lpX1_leastByLooks_8 G (nI b) N (tl g a r) (nI r) (nI j) = some (0, tl g a r', nI r') := by
  intro N
  induction N with
  | zero => intro j r h1 h2 h3 h4; omega
  | succ N ih =>
    intro j r h1 h2 h3 h4 hw
    unfold lpX1_leastByLooks_8
    by_cases hj : b < j
    · rw [if_pos (nI_lt hj (by omega))]
      exact ⟨r, h1, by omega, fun k k1 k2 => hw k k1 (by omega), rfl⟩
    · have ew : dnX1_isWaiting G (nI j) = some (if wb G.2 j = true then 1 else 0) := by
        unfold dnX1_isWaiting
        rw [isAmong_ _ (by omega), bp_s]
        split <;> rfl
      rw [if_neg (nI_nlt (by omega) (by omega)), ew, bp_s]
      by_cases hq : wb G.2 j = true
      · rw [if_pos hq, if_neg (by decide), runC (n := n) hV hn h2 (by omega) rfl (fun l p k1 k2 k3 k4 => hE l p k1 k2 (by omega) (fun i i1 i2 => hw i (by omega) (by omega))), bp_s, tlC hV hn h1 h2 (by omega), bp_s, ← tl_1 g j, tlC hV hn (by omega) (by omega) (by omega), bp_s, tl_1, nI_1]
        exact ih (j + 1) (j + 1) (by omega) (Nat.le_refl _) (by omega) (by omega) (fun k k1 k2 => by omega)
      · rw [if_neg hq, if_pos rfl, nI_1]
        exact ih (j + 1) r h1 (by omega) (by omega) (by omega) (fun k k1 k2 => by
          by_cases e : k = j
          · subst e; exact hq
          · exact hw k k1 (by omega))
theorem looksBy {G : gR} {g : Nat → Int32} {n a b : Nat} (hV : ∀ p : Nat, p < n → G.1 1 p = g (12 + p)) (hn : n ≤ 40) (hab : a ≤ b) (hb : b < n) (hE : ∀ l p : Nat, 1 ≤ l → l ≤ 5 → p + 2 ^ l ≤ n → (∀ j : Nat, p ≤ j → j < p + 2 ^ l → ¬ wb G.2 j = true) → G.1 2 (40 * l + p) = nI (lm g p (2 ^ l - 1))) : dnX1_leastByLooks G (nI a) (nI b) = some (nI (lm g a (b - a))) := by
  obtain ⟨r', h1, h2, h3, e⟩ := looks8 hV hn hb hE FU a a (Nat.le_refl _) (Nat.le_refl _) (by omega) (by unfold FU; omega) (fun k k1 k2 => by omega)
  unfold dnX1_leastByLooks
  rw [show (-1 : Int32) = tl g a a from by unfold tl; rw [if_pos rfl], e, bp_s, runC (n := n) hV hn h2 (by omega) (show nI b = nI (b + 1) - 1 from (nI_sub (a := b + 1) (b := 1) (by omega)).symm) (fun l p k1 k2 k3 k4 => hE l p k1 k2 (by omega) (fun i i1 i2 => h3 i (by omega) (by omega))), bp_s, tlC hV hn h1 h2 (by omega), bp_s]
  unfold tl
  rw [if_neg (by omega), show b + 1 - 1 - a = b - a by omega]
