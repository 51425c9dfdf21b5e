/-! a value is set -/
theorem tellsM {l p x : Nat} (hl : l < 6) (hp : p < 41) (hx : x < 41) (F : gF) : dnX5_tellsOf F (nI l) (nI p) (nI x) = some (if p ≤ x ∧ x < p + 2 ^ l then 1 else 0) := by
  have hw := pw hl
  unfold dnX5_tellsOf
  by_cases h1 : x < p
  · rw [if_pos (nI_lt h1 (by omega)), if_neg (by omega)]
  · rw [if_neg (nI_nlt (by omega) (by omega)), sh1 hl, nI_add]
    by_cases h2 : p + 2 ^ l ≤ x
    · rw [if_pos (nI_le h2 (by omega)), if_neg (by omega)]
    · rw [if_neg (nI_ge (by omega) (by omega)), if_pos (by omega)]
theorem CW.w {g : Nat → Int32} {n l p : Nat} {v : Int32} (h : CW False g n) (hn : n ≤ 40) (h1 : 1 ≤ l) (h5 : l ≤ 5) (hp : p + 2 ^ l ≤ n) : CW False (upd (upd g (92 + 40 * (l - 1) + p) (nI (lm g p (2 ^ l - 1)))) 8 v) n := by
  intro l' p' k1 k2 k3
  have hw := pw (show l < 6 by omega)
  have hw' := pw (show l' < 6 by omega)
  have hb := lm_b g p (2 ^ l - 1)
  simp only [upd]
  rw [if_neg (by omega)]
  by_cases e : l' = l ∧ p' = p
  · obtain ⟨rfl, rfl⟩ := e
    rw [if_pos rfl]
    exact ⟨_, rfl, hb.1, by omega, fun q => q.elim⟩
  · rw [if_neg (by omega)]
    obtain ⟨c, c1, c2, c3, -⟩ := h l' p' k1 k2 k3
    exact ⟨c, c1, c2, c3, fun q => q.elim⟩
theorem sets36 {F : gF} {w n l x : Nat} {x3 : Int32} {g : Nat → Int32} {Q : Nat → Nat → Prop} (h : MS F w) (h0 : g 0 = nI n) (hn : n ≤ 40) (h1 : 1 ≤ l) (h5 : l ≤ 5) (hx : x < n) : ∀ (N p c : Nat) (g' : Nat → Int32), p ≤ n + 1 - 2 ^ l → n + 1 - 2 ^ l < N + p → CI g g' n c (fun l' p' => (p' ≤ x ∧ x < p' + 2 ^ l' ∧ (l' < l ∨ (l' = l ∧ p' < p))) ∨ Q l' p') → ∃ g'' : Nat → Int32, lpX5_sets_36 (nI x) x3 (nI l) N (nI p) (st F w g') = some (0, st F w g'') ∧ CI g g'' n (c + (min (x + 1) (n + 1 - 2 ^ l) - max p (x + 1 - 2 ^ l))) (fun l' p' => (p' ≤ x ∧ x < p' + 2 ^ l' ∧ l' < l + 1) ∨ Q l' p') ∧ (CW False g' n → CW False g'' n) := by
  have hw := pw (show l < 6 by omega)
  intro N
  induction N with
  | zero => intro p c g' q1 q2; omega
  | succ N ih =>
    intro p c g' q1 q2 hC
    unfold lpX5_sets_36
    rw [cells_s h (by rw [hC.1 0 (by decide) (by decide)]; exact h0) hn (by omega), bp_s]
    by_cases hp : n + 1 - 2 ^ l ≤ p
    · rw [if_pos (nI_le hp (by omega))]
      refine ⟨g', rfl, ?_, fun q => q⟩
      rw [show c + (min (x + 1) (n + 1 - 2 ^ l) - max p (x + 1 - 2 ^ l)) = c by omega]
      exact hC.mono (fun l' p' k1 k2 k3 k4 => by
        rcases k4 with ⟨k, k', k''⟩ | k
        · refine Or.inl ⟨k, k', ?_⟩
          by_cases e : l' = l
          · subst e; exact Or.inr ⟨rfl, by omega⟩
          · exact Or.inl (by omega)
        · exact Or.inr k)
    · rw [if_neg (nI_ge (by omega) (by omega)), tellsM (by omega) (by omega) (by omega), bp_s]
      by_cases ho : p ≤ x ∧ x < p + 2 ^ l
      · rw [if_pos ho, if_neg (by decide), writes0M h h1 h5 (by omega), bp_s, nI_1]
        obtain ⟨g'', e, hC2, hW2⟩ := ih (p + 1) (c + 1) _ (by omega) (by omega) ((hC.w hn h1 h5 (p := p) (by omega)).mono (fun l' p' k1 k2 k3 k4 => by
          rcases k4 with ⟨k, k', k''⟩ | k
          · rcases k'' with q | ⟨q, q'⟩
            · exact Or.inr (Or.inl ⟨k, k', Or.inl q⟩)
            · by_cases e : p' = p
              · exact Or.inl ⟨q, e⟩
              · exact Or.inr (Or.inl ⟨k, k', Or.inr ⟨q, by omega⟩⟩)
          · exact Or.inr (Or.inr k)))
        refine ⟨g'', e, ?_, fun q => hW2 (q.w hn h1 h5 (by omega))⟩
        rw [show c + (min (x + 1) (n + 1 - 2 ^ l) - max p (x + 1 - 2 ^ l)) = c + 1 + (min (x + 1) (n + 1 - 2 ^ l) - max (p + 1) (x + 1 - 2 ^ l)) by omega]
        exact hC2
      · rw [if_neg ho, if_pos rfl, nI_1]
        obtain ⟨g'', e, hC2, hW2⟩ := ih (p + 1) c g' (by omega) (by omega) (hC.mono (fun l' p' k1 k2 k3 k4 => by
          rcases k4 with ⟨k, k', k''⟩ | k
          · rcases k'' with q | ⟨q, q'⟩
            · exact Or.inl ⟨k, k', Or.inl q⟩
            · by_cases e : p' = p
              · subst e; subst q; exact absurd ⟨k, k'⟩ ho
              · exact Or.inl ⟨k, k', Or.inr ⟨q, by omega⟩⟩
          · exact Or.inr k))
        refine ⟨g'', e, ?_, hW2⟩
        rw [show c + (min (x + 1) (n + 1 - 2 ^ l) - max p (x + 1 - 2 ^ l)) = c + (min (x + 1) (n + 1 - 2 ^ l) - max (p + 1) (x + 1 - 2 ^ l)) by omega]
        exact hC2
theorem sets27 {F : gF} {w n x : Nat} {x3 : Int32} {g : Nat → Int32} {Q : Nat → Nat → Prop} (h : MS F w) (h0 : g 0 = nI n) (hn : n ≤ 40) (hx : x < n) : ∀ (N l c : Nat) (g' : Nat → Int32), 1 ≤ l → l ≤ 6 → 6 < N + l → CI g g' n c (fun l' p' => (p' ≤ x ∧ x < p' + 2 ^ l' ∧ l' < l) ∨ Q l' p') → ∃ g'' : Nat → Int32, lpX5_sets_27 (nI x) x3 N (nI l) (st F w g') = some (0, st F w g'') ∧ CI g g'' n (c + cs (ov n x x) (6 - l)) (fun l' p' => (p' ≤ x ∧ x < p' + 2 ^ l') ∨ Q l' p') ∧ (CW False g' n → CW False g'' n) := by
  intro N
  induction N with
  | zero => intro l c g' q0 q1 q2; omega
  | succ N ih =>
    intro l c g' q0 q1 q2 hC
    unfold lpX5_sets_27
    by_cases hl : 6 ≤ l
    · rw [if_pos (show (5 : Int32) < nI l from nI_lt (a := 5) (by omega) (by omega))]
      refine ⟨g', rfl, ?_, fun q => q⟩
      rw [show 6 - l = 0 by omega]
      exact hC.mono (fun l' p' k1 k2 k3 k4 => k4.imp (fun q => ⟨q.1, q.2, by omega⟩) id)
    · have hw := pw (show l < 6 by omega)
      obtain ⟨g1, e1, hC1, hW1⟩ := sets36 (x3 := x3) h h0 hn q0 (show l ≤ 5 by omega) hx FU 0 c g' (by omega) (by unfold FU; omega) (hC.mono (fun l' p' k1 k2 k3 k4 => k4.imp (fun q => ⟨q.1, q.2.1, by omega⟩) id))
      rw [if_neg (show ¬ (5 : Int32) < nI l from nI_nlt (b := l) (a := 5) (by omega) (by omega)), show lpX5_sets_36 (nI x) x3 (nI l) FU 0 (st F w g') = _ from e1, bp_s, nI_1]
      obtain ⟨g2, e2, hC2, hW2⟩ := ih (l + 1) _ g1 (by omega) (by omega) (by omega) hC1
      refine ⟨g2, e2, ?_, fun q => hW2 (hW1 q)⟩
      rw [show 6 - l = (6 - (l + 1)) + 1 by omega, cs, show 5 - (6 - (l + 1)) = l by omega]
      rw [show c + (ov n x x l + cs (ov n x x) (6 - (l + 1))) = c + (min (x + 1) (n + 1 - 2 ^ l) - max 0 (x + 1 - 2 ^ l)) + cs (ov n x x) (6 - (l + 1)) by unfold ov; omega]
      exact hC2
/-- set by rule 1 -/
theorem setsM1 {F : gF} {w n x : Nat} {v : Int32} {g : Nat → Int32} {Q : Nat → Nat → Prop} (h : MS F w) (h0 : g 0 = nI n) (hn : n ≤ 40) (hx : x < n) (h1 : g 1 = 1) (hQ : ∀ l p : Nat, 1 ≤ l → l ≤ 5 → p + 2 ^ l ≤ n → Q l p → g (92 + 40 * (l - 1) + p) = nI (lm (upd g (12 + x) v) p (2 ^ l - 1))) : ∃ g' : Nat → Int32, dnX5_sets (st F w g) (nI x) v = some (g (12 + x), st F w g') ∧ CI (upd g (12 + x) v) g' n (cs (ov n x x) 5) (fun l' p' => (p' ≤ x ∧ x < p' + 2 ^ l') ∨ Q l' p') ∧ (CW False g n → CW False g' n) := by
  have h0' : upd g (12 + x) v 0 = nI n := by simp only [upd]; rw [if_neg (by omega)]; exact h0
  obtain ⟨g', e, hC, hW⟩ := sets27 (x3 := g (12 + x)) (Q := Q) h h0' hn hx FU 1 0 (upd g (12 + x) v) (by decide) (by decide) (by unfold FU; omega) ⟨fun k _ _ => rfl, by rw [show nI 0 = 0 from rfl, Int32.add_zero], fun l p k1 k2 k3 k4 => by
    have hw := pw (show l < 6 by omega)
    rcases k4 with k | k
    · omega
    · simp only [upd]; rw [if_neg (by omega)]; exact hQ l p k1 k2 k3 k⟩
  refine ⟨g', ?_, ?_, fun q => hW (fun l p k1 k2 k3 => ?_)⟩
  · unfold dnX5_sets
    rw [valueM (h.s g) (by omega), row_st (by omega), bp_s, show (12 : Int32) = nI 12 from rfl, nI_add, put_ h (by omega), bp_s, show (1 : Int32) = nI 1 from rfl, get_ h (by decide), bp_s, if_pos (by simp only [upd]; rw [if_neg (by omega)]; exact h1), e, bp_s]
  · rw [Nat.zero_add] at hC; exact hC
  · obtain ⟨c, c1, c2, c3, -⟩ := q l p k1 k2 k3
    have hw := pw (show l < 6 by omega)
    exact ⟨c, by simp only [upd]; rw [if_neg (by omega)]; exact c1, c2, c3, fun q => q.elim⟩
/-- set by rule 0 or 2, behind which nothing is built -/
theorem setsM0 {F : gF} {w n x : Nat} {v : Int32} {g : Nat → Int32} (h : MS F w) (h0 : g 0 = nI n) (hn : n ≤ 40) (hx : x < n) (hB : ∀ p : Nat, p < 40 → g (52 + p) = 0 ∨ g (52 + p) = 1) (h1 : ¬ g 1 = 1) (hb : ¬ g 1 = 2 ∨ nI (wc (upd (upd g (12 + x) v) (52 + x) 1) n) ≤ g 2) : dnX5_sets (st F w g) (nI x) v = some (g (12 + x), st F w (upd (upd g (12 + x) v) (52 + x) 1)) := by
  have ek : ∀ k : Nat, k < 12 → upd (upd g (12 + x) v) (52 + x) 1 k = g k := fun k hk => by simp only [upd]; rw [if_neg (by omega), if_neg (by omega)]
  unfold dnX5_sets
  rw [valueM (h.s g) (by omega), row_st (by omega), bp_s, show (12 : Int32) = nI 12 from rfl, nI_add, put_ h (by omega), bp_s]
  rw [show dnX5_get (st F w (upd g (12 + x) v)) 1 = some (g 1) from by rw [show (1 : Int32) = nI 1 from rfl, get_ h (by decide)]; simp only [upd]; rw [if_neg (by omega)], bp_s, if_neg h1, show (52 : Int32) = nI 52 from rfl, nI_add, put_ h (by omega), bp_s]
  rw [show dnX5_get (st F w (upd (upd g (12 + x) v) (52 + x) 1)) 1 = some (g 1) from by rw [show (1 : Int32) = nI 1 from rfl, get_ h (by decide), show upd (upd g (12 + x) v) (52 + x) (nI 1) 1 = g 1 from ek 1 (by decide)], bp_s]
  by_cases h2 : g 1 = 2
  · rw [if_pos h2, waitingM0 (h.s _) (by rw [row_st (by decide), ek 0 (by decide)]; exact h0) hn (fun p hp => by
      rw [row_st (by omega)]; simp only [upd]
      by_cases e : p = x
      · subst e; rw [if_pos rfl]; exact Or.inr rfl
      · rw [if_neg (by omega), if_neg (by omega)]; exact hB p hp), bp_s, wc_st n hn]
    rw [show dnX5_get (st F w (upd (upd g (12 + x) v) (52 + x) 1)) 2 = some (g 2) from by rw [show (2 : Int32) = nI 2 from rfl, get_ h (by decide), ek 2 (by decide)], bp_s, if_pos (hb.resolve_left (fun q => q h2))]
  · rw [if_neg h2]
theorem setsM2 {F : gF} {w n x : Nat} {v : Int32} {g g' : Nat → Int32} (h : MS F w) (h0 : g 0 = nI n) (hn : n ≤ 40) (hx : x < n) (hB : ∀ p : Nat, p < 40 → g (52 + p) = 0 ∨ g (52 + p) = 1) (h2 : g 1 = 2) (hb : ¬ nI (wc (upd (upd g (12 + x) v) (52 + x) 1) n) ≤ g 2) (eB : dnX5_builds (st F w (upd (upd g (12 + x) v) (52 + x) 1)) = some (st F w g')) : dnX5_sets (st F w g) (nI x) v = some (g (12 + x), st F w g') := by
  have ek : ∀ k : Nat, k < 12 → upd (upd g (12 + x) v) (52 + x) 1 k = g k := fun k hk => by simp only [upd]; rw [if_neg (by omega), if_neg (by omega)]
  unfold dnX5_sets
  rw [valueM (h.s g) (by omega), row_st (by omega), bp_s, show (12 : Int32) = nI 12 from rfl, nI_add, put_ h (by omega), bp_s]
  rw [show dnX5_get (st F w (upd g (12 + x) v)) 1 = some (g 1) from by rw [show (1 : Int32) = nI 1 from rfl, get_ h (by decide)]; simp only [upd]; rw [if_neg (by omega)], bp_s, if_neg (by rw [h2]; decide), show (52 : Int32) = nI 52 from rfl, nI_add, put_ h (by omega), bp_s]
  rw [show dnX5_get (st F w (upd (upd g (12 + x) v) (52 + x) 1)) 1 = some (g 1) from by rw [show (1 : Int32) = nI 1 from rfl, get_ h (by decide), show upd (upd g (12 + x) v) (52 + x) (nI 1) 1 = g 1 from ek 1 (by decide)], bp_s, if_pos h2]
  rw [waitingM0 (h.s _) (by rw [row_st (by decide), ek 0 (by decide)]; exact h0) hn (fun p hp => by
      rw [row_st (by omega)]; simp only [upd]
      by_cases e : p = x
      · subst e; rw [if_pos rfl]; exact Or.inr rfl
      · rw [if_neg (by omega), if_neg (by omega)]; exact hB p hp), bp_s, wc_st n hn]
  rw [show dnX5_get (st F w (upd (upd g (12 + x) v) (52 + x) 1)) 2 = some (g 2) from by rw [show (2 : Int32) = nI 2 from rfl, get_ h (by decide), ek 2 (by decide)], bp_s, if_neg hb, eB, bp_s]
