/-! more calls that change -/
theorem kepM {F : gF} {w kc k : Nat} (hM : MS F w) (h6 : row F w 6 = nI kc) (h8 : kc ≤ 8) (hk : k < kc) : dnX5_isKept F (nI k) = some 1 := by
  unfold dnX5_isKept dnX5_isIn
  rw [show (6 : Int32) = nI 6 from rfl, getr hM (by decide), h6, bp_s, if_neg (nI_pos (by omega)), show nI kc - 1 = nI (kc - 1) from nI_sub (b := 1) (by omega), if_neg (fun q => absurd ((nI_ltI (by omega) (by omega)).mp q) (by omega)), bp_s]
  rfl
theorem kepM0 {F : gF} {w kc : Nat} {x1 : Int32} (hM : MS F w) (h6 : row F w 6 = nI kc) (h8 : kc ≤ 8) (hx : x1 < 0 ∨ nI kc ≤ x1) : dnX5_isKept F x1 = some 0 := by
  unfold dnX5_isKept dnX5_isIn
  rw [show (6 : Int32) = nI 6 from rfl, getr hM (by decide), h6, bp_s]
  by_cases c : x1 < 0
  · rw [if_pos c, bp_s]; rfl
  · have hx2 : nI kc ≤ x1 := hx.resolve_left c
    have : nI kc - 1 < x1 := by
      by_cases z : kc = 0
      · subst z
        exact Int32.lt_of_lt_of_le (show nI 0 - 1 < nI 0 from by decide) hx2
      · rw [show nI kc - 1 = nI (kc - 1) from nI_sub (b := 1) (by omega)]
        exact Int32.lt_of_lt_of_le (nI_lt (by omega) (by omega)) hx2
    rw [if_neg c, if_pos this, bp_s]; rfl
theorem demK {V : gX} {kc k : Nat} (hc : V.2.1.1 3 2 = nI kc) (h8 : kc ≤ 8) (hk : k < kc) : dnX4_demandKept V (nI k) = some (.inr ()) := by
  unfold dnX4_demandKept
  rw [if_neg (nI_pos (by omega)), hc, if_pos (nI_lt hk (by omega))]
theorem demK0 {V : gX} {kc : Nat} {x1 : Int32} (hc : V.2.1.1 3 2 = nI kc) (hx : x1 < 0 ∨ nI kc ≤ x1) : dnX4_demandKept V x1 = some (.inl "java/util/NoSuchElementException") := by
  unfold dnX4_demandKept
  by_cases c : x1 < 0
  · rw [if_pos c]
  · rw [if_neg c, hc, if_neg (Int32.not_lt.mpr (hx.resolve_left c))]
theorem KLv.er {n k : Nat} {L : kL} (h : KLv n L) : KLv n (L.eraseIdx k) := by
  intro i a b q
  rw [List.getElem?_eraseIdx] at q
  by_cases e : i < k
  · rw [if_pos e] at q; exact h i a b q
  · rw [if_neg e] at q; exact h _ a b q
theorem s_forget (x1 x2 x3 x4 x5 : Int32) (V : gX) (F : gF) (fo : Nat → Int64) (h : JJ V F) : ∃ V' F' fo', LR 23 x1 x2 x3 x4 x5 V F fo V' F' fo' ∧ JJ V' F' := by
  obtain ⟨w, n, kc, F2, w', x, hM, hW, hR, hM2, hch, hx8, hx, hJ⟩ := h.c
  obtain ⟨k8, hk⟩ := hW.2.1
  have hc3 : V.2.1.1 3 2 = nI kc := hR.1.2.2.2.2.2.2.2.trans hk
  show ∃ V' F' fo', WS _ V fo (dnX4_forget V x1) (dnX5_forget F x1) V' F' fo' ∧ JJ V' F'
  rcases pl_em (show kc ≤ 40 by omega) x1 with ⟨k, hkk, rfl⟩ | hx1
  · obtain ⟨L, hl, hL, hC, hv⟩ := kl_of hW hR
    obtain ⟨G', e4, hC', c1, c2⟩ := removeC hC (show k < L.length by omega)
    obtain ⟨g', e5, hL', c5⟩ := forgetsM hM2 (hL.x k) (show k < L.length by omega)
    obtain ⟨hW', hR'⟩ := WR.k hW hR c5 c1 c2 hL' hC' hv.er
    obtain ⟨hJ', h0⟩ := hJ G' g' n _ hW' hR'
    refine ws_ok hJ' h0 (r := nI (L.length - 1)) ?_ ?_
    · unfold dnX4_forget
      rw [demK hc3 k8 hkk, bx_r, hx, wi_ok hx8 (by decide), bw_s, e4, bp_s, hC'.2.1, List.length_eraseIdx_of_lt (by omega)]
    · unfold dnX5_forget
      rw [bw_s, kepM hM hk k8 hkk, bp_s, right1, bs_s, if_neg (by decide), hch, bp_s, e5, bs_s]
  · refine ws_th (b := 0) (t := 1) (E := "java/util/NoSuchElementException") h (by decide) (by decide) (by decide) ?_ ?_
    · unfold dnX4_forget
      rw [demK0 hc3 hx1, bx_l]
    · unfold dnX5_forget
      rw [bw_s, kepM0 hM hk k8 hx1, bp_s, right0 F (by decide), bs_s, if_pos rfl]
theorem s_put (x1 x2 x3 x4 x5 : Int32) (V : gX) (F : gF) (fo : Nat → Int64) (h : JJ V F) : ∃ V' F' fo', LR 25 x1 x2 x3 x4 x5 V F fo V' F' fo' ∧ JJ V' F' := by
  obtain ⟨w, n, kc, F2, w', x, hM, hW, hR, hM2, hch, hx8, hx, hJ⟩ := h.c
  obtain ⟨⟨n1, n40, hn⟩, -⟩ := id hW
  have hc : V.2.1.1 0 3 = nI n := hR.1.1.trans hn
  show ∃ V' F' fo', WS _ V fo (dnX4_put V x1 x2) (dnX5_put F x1 x2) V' F' fo' ∧ JJ V' F'
  have hsz : dnX5_size (wr F 0 0 0) = some (nI n) := size_ hM hn
  rcases pl_em n40 x1 with ⟨p, hp, rfl⟩ | hx1
  · -- a place that is there
    have hin : dnX5_isIn (nI p) 0 (nI n) = some 1 := by
      unfold dnX5_isIn
      rw [if_neg (nI_pos (by omega)), if_neg (nI_nlt (by omega) (by omega))]
    have hne : ¬ nI p = nI n := fun z => by have := (nI_eq (by omega) (by omega)).mp z; omega
    rcases val_em x2 with hv | hv
    · by_cases h40 : n < 40
      · obtain ⟨G', g', e4, e5, hW', hR'⟩ := insert_b hM2 hW hR h40 (show p ≤ n by omega) hv.1 hv.2
        obtain ⟨hJ', h0⟩ := hJ G' g' _ kc hW' hR'
        refine ws_ok hJ' h0 (r := nI (n + 1)) ?_ ?_
        · unfold dnX4_put
          rw [hc, if_neg hne, demC hc n40 hp, bx_r, demV hv, bx_r, if_pos (show nI n < (40 : Int32) from nI_lt (b := 40) h40 (by decide)), hx, wi_ok hx8 (by decide), bw_s, e4, bp_s, hR'.1.1, hW'.1.2.2]
        · unfold dnX5_put
          rw [bw_s, hsz, bp_s, hin, bp_s, right1, bs_s, if_neg (by decide), valM hv, bp_s, right1, bs_s, if_neg (by decide), hsz, bp_s, if_neg (show ¬ (40 : Int32) ≤ nI n from nI_ge (b := 40) h40 (by decide)), right1, bs_s, if_neg (by decide), hch, bp_s, e5, bs_s]
      · refine ws_th (b := 0) (t := 3) (E := "java/lang/IllegalStateException") h (by decide) (by decide) (by decide) ?_ ?_
        · unfold dnX4_put
          rw [hc, if_neg hne, demC hc n40 hp, bx_r, demV hv, bx_r, if_neg (show ¬ nI n < (40 : Int32) from nI_nlt (a := n) (b := 40) (by omega) (by omega))]
        · unfold dnX5_put
          rw [bw_s, hsz, bp_s, hin, bp_s, right1, bs_s, if_neg (by decide), valM hv, bp_s, right1, bs_s, if_neg (by decide), hsz, bp_s, if_pos (show (40 : Int32) ≤ nI n from nI_le (a := 40) (by omega) (by omega)), right0 F (by decide), bs_s, if_pos rfl]
    · refine ws_th (b := 0) (t := 2) (E := "java/lang/IllegalArgumentException") h (by decide) (by decide) (by decide) ?_ ?_
      · unfold dnX4_put
        rw [hc, if_neg hne, demC hc n40 hp, bx_r, demV0 hv, bx_l]
      · unfold dnX5_put
        rw [bw_s, hsz, bp_s, hin, bp_s, right1, bs_s, if_neg (by decide), valM0 hv, bp_s, right0 F (by decide), bs_s, if_pos rfl]
  · by_cases he : x1 = nI n
    · subst he
      have hin : dnX5_isIn (nI n) 0 (nI n) = some 1 := by
        unfold dnX5_isIn
        rw [if_neg (nI_pos (by omega)), if_neg (nI_nlt (by omega) (by omega))]
      rcases val_em x2 with hv | hv
      · by_cases h40 : n < 40
        · obtain ⟨G', g', e4, e5, hW', hR'⟩ := insert_b hM2 hW hR h40 (Nat.le_refl n) hv.1 hv.2
          obtain ⟨hJ', h0⟩ := hJ G' g' _ kc hW' hR'
          refine ws_ok hJ' h0 (r := nI (n + 1)) ?_ ?_
          · unfold dnX4_put
            rw [hc, if_pos rfl, demV hv, bx_r, if_pos (show nI n < (40 : Int32) from nI_lt (b := 40) h40 (by decide)), hx, wi_ok hx8 (by decide), bw_s, e4, bp_s, hR'.1.1, hW'.1.2.2]
          · unfold dnX5_put
            rw [bw_s, hsz, bp_s, hin, bp_s, right1, bs_s, if_neg (by decide), valM hv, bp_s, right1, bs_s, if_neg (by decide), hsz, bp_s, if_neg (show ¬ (40 : Int32) ≤ nI n from nI_ge (b := 40) h40 (by decide)), right1, bs_s, if_neg (by decide), hch, bp_s, e5, bs_s]
        · refine ws_th (b := 0) (t := 3) (E := "java/lang/IllegalStateException") h (by decide) (by decide) (by decide) ?_ ?_
          · unfold dnX4_put
            rw [hc, if_pos rfl, demV hv, bx_r, if_neg (show ¬ nI n < (40 : Int32) from nI_nlt (a := n) (b := 40) (by omega) (by omega))]
          · unfold dnX5_put
            rw [bw_s, hsz, bp_s, hin, bp_s, right1, bs_s, if_neg (by decide), valM hv, bp_s, right1, bs_s, if_neg (by decide), hsz, bp_s, if_pos (show (40 : Int32) ≤ nI n from nI_le (a := 40) (by omega) (by omega)), right0 F (by decide), bs_s, if_pos rfl]
      · refine ws_th (b := 0) (t := 2) (E := "java/lang/IllegalArgumentException") h (by decide) (by decide) (by decide) ?_ ?_
        · unfold dnX4_put
          rw [hc, if_pos rfl, demV0 hv, bx_l]
        · unfold dnX5_put
          rw [bw_s, hsz, bp_s, hin, bp_s, right1, bs_s, if_neg (by decide), valM0 hv, bp_s, right0 F (by decide), bs_s, if_pos rfl]
    · have hin : dnX5_isIn x1 0 (nI n) = some 0 := by
        unfold dnX5_isIn
        by_cases c : x1 < 0
        · rw [if_pos c]
        · rw [if_neg c, if_pos (Int32.lt_of_le_of_ne (hx1.resolve_left c) (fun z => he z.symm))]
      refine ws_th (b := 0) (t := 1) (E := "java/lang/IndexOutOfBoundsException") h (by decide) (by decide) (by decide) ?_ ?_
      · unfold dnX4_put
        rw [hc, if_neg he, demC0 hc hx1, bx_l]
      · unfold dnX5_put
        rw [bw_s, hsz, bp_s, hin, bp_s, right0 F (by decide), bs_s, if_pos rfl]
theorem s_take (x1 x2 x3 x4 x5 : Int32) (V : gX) (F : gF) (fo : Nat → Int64) (h : JJ V F) : ∃ V' F' fo', LR 26 x1 x2 x3 x4 x5 V F fo V' F' fo' ∧ JJ V' F' := by
  obtain ⟨w, n, kc, F2, w', x, hM, hW, hR, hM2, hch, hx8, hx, hJ⟩ := h.c
  obtain ⟨⟨n1, n40, hn⟩, -⟩ := id hW
  have hc : V.2.1.1 0 3 = nI n := hR.1.1.trans hn
  show ∃ V' F' fo', WS _ V fo (dnX4_take V x1) (dnX5_take F x1) V' F' fo' ∧ JJ V' F'
  have hsz : dnX5_size (wr F 0 0 0) = some (nI n) := size_ hM hn
  rcases pl_em n40 x1 with ⟨p, hp, rfl⟩ | hx1
  · by_cases h2 : 2 ≤ n
    · obtain ⟨G', g', kc', e4, e5, hW', hR'⟩ := remove_b hM2 hW hR h2 hp
      obtain ⟨hJ', h0⟩ := hJ G' g' _ kc' hW' hR'
      refine ws_ok hJ' h0 (r := row (wr F 0 0 0) w (12 + p)) ?_ ?_
      · unfold dnX4_take
        rw [demC hc n40 hp, bx_r, hc, if_neg (fun z => by have := (nI_eq (b := 1) (by omega) (by omega)).mp z; omega), hx, wi_ok hx8 (by decide), bw_s, e4, bs_s]
      · unfold dnX5_take
        rw [bw_s, placeM hM hn n40 hp, bp_s, right1, bs_s, if_neg (by decide), hsz, bp_s, if_neg (show ¬ nI n ≤ (1 : Int32) from nI_ge (a := 1) (by omega) (by omega)), right1, bs_s, if_neg (by decide), hch, bp_s, e5, bs_s]
    · refine ws_th (b := 0) (t := 2) (E := "java/lang/IllegalStateException") h (by decide) (by decide) (by decide) ?_ ?_
      · unfold dnX4_take
        rw [demC hc n40 hp, bx_r, hc, show n = 1 by omega, if_pos (show nI 1 = 1 from rfl)]
      · unfold dnX5_take
        rw [bw_s, placeM hM hn n40 hp, bp_s, right1, bs_s, if_neg (by decide), hsz, bp_s, if_pos (show nI n ≤ (1 : Int32) from nI_le (b := 1) (by omega) (by omega)), right0 F (by decide), bs_s, if_pos rfl]
  · refine ws_th (b := 0) (t := 1) (E := "java/lang/IndexOutOfBoundsException") h (by decide) (by decide) (by decide) ?_ ?_
    · unfold dnX4_take
      rw [demC0 hc hx1, bx_l]
    · unfold dnX5_take
      rw [bw_s, placeM0 hM hn n1 n40 hx1, bp_s, right0 F (by decide), bs_s, if_pos rfl]
theorem in_em (lo hi x : Int32) : (lo ≤ x ∧ x ≤ hi ∧ dnX5_isIn x lo hi = some 1) ∨ ((x < lo ∨ hi < x) ∧ dnX5_isIn x lo hi = some 0) := by
  unfold dnX5_isIn
  by_cases h1 : x < lo
  · rw [if_pos h1]; exact Or.inr ⟨Or.inl h1, rfl⟩
  · rw [if_neg h1]
    by_cases h2 : hi < x
    · rw [if_pos h2]; exact Or.inr ⟨Or.inr h2, rfl⟩
    · rw [if_neg h2]; exact Or.inl ⟨Int32.not_lt.mp h1, Int32.not_lt.mp h2, rfl⟩
theorem lo_nI {x : Int32} {a b : Nat} (hb : b < 2 ^ 31) (h1 : nI a ≤ x) (ha : a < 2 ^ 31) (h2 : x ≤ nI b) : ∃ m : Nat, a ≤ m ∧ m ≤ b ∧ x = nI m := by
  have h0 : ¬ x < 0 := fun q => absurd (Int32.lt_of_le_of_lt h1 q) (nI_pos ha)
  obtain ⟨j, hj, rfl⟩ := nI_of h0
  exact ⟨j, (nI_leI ha hj).mp h1, (nI_leI hj hb).mp h2, rfl⟩
theorem s_rule (x1 x2 x3 x4 x5 : Int32) (V : gX) (F : gF) (fo : Nat → Int64) (h : JJ V F) : ∃ V' F' fo', LR 27 x1 x2 x3 x4 x5 V F fo V' F' fo' ∧ JJ V' F' := by
  obtain ⟨w, n, kc, F2, w', x, hM, hW, hR, hM2, hch, hx8, hx, hJ⟩ := h.c
  show ∃ V' F' fo', WS _ V fo (dnX4_rule V x1 x2) (dnX5_rule F x1 x2) V' F' fo' ∧ JJ V' F'
  by_cases h1 : x1 = 1
  · subst h1
    rcases in_em 0 2 x2 with ⟨q1, q2, e⟩ | ⟨q, e⟩
    · obtain ⟨m, m1, m2, rfl⟩ := lo_nI (a := 0) (b := 2) (by decide) q1 (by decide) q2
      have hv : nI m = 0 ∨ nI m = 1 ∨ nI m = 2 := by
        match m, m2 with
        | 0, _ => exact Or.inl rfl
        | 1, _ => exact Or.inr (Or.inl rfl)
        | 2, _ => exact Or.inr (Or.inr rfl)
      obtain ⟨G', g', e4, e5, hW', hR'⟩ := rule_b hM2 hW hR hv
      obtain ⟨hJ', h0⟩ := hJ G' g' _ kc hW' hR'
      refine ws_ok hJ' h0 (r := row (wr F 0 0 0) w 1) ?_ ?_
      · unfold dnX4_rule
        rw [if_pos rfl, if_neg (nI_pos (by omega)), if_neg (show ¬ (2 : Int32) < nI m from nI_nlt (b := m) (a := 2) (by omega) (by omega)), if_neg (by decide), hx, wi_ok hx8 (by decide), bw_s, e4, bs_s]
      · unfold dnX5_rule
        rw [bw_s, if_pos rfl, e, bp_s, right1, bs_s, if_neg (by decide), hch, bp_s, show (1 : Int32) = nI 1 from rfl, get_ hM2 (by decide), bp_s, put_ hM2 (by decide), bp_s, e5, bp_s]
    · refine ws_th (b := 0) (t := 1) (E := "java/lang/IllegalArgumentException") h (by decide) (by decide) (by decide) ?_ ?_
      · unfold dnX4_rule
        rw [if_pos rfl]
        by_cases c : x2 < 0
        · rw [if_pos c, if_neg (by decide)]
        · rw [if_neg c, if_pos (q.resolve_left c), if_neg (by decide)]
      · unfold dnX5_rule
        rw [bw_s, if_pos rfl, e, bp_s, right0 F (by decide), bs_s, if_pos rfl]
  · by_cases h2 : x1 = 2
    · subst h2
      rcases in_em 1 8 x2 with ⟨q1, q2, e⟩ | ⟨q, e⟩
      · obtain ⟨m, m1, m2, rfl⟩ := lo_nI (a := 1) (b := 8) (by decide) q1 (by decide) q2
        obtain ⟨hW', hR'⟩ := most_b hW hR m1 m2
        obtain ⟨hJ', h0⟩ := hJ _ _ _ kc hW' hR'
        refine ws_ok hJ' h0 (r := row (wr F 0 0 0) w 2) ?_ ?_
        · unfold dnX4_rule dnX1_changeMost
          rw [if_neg h1, if_pos rfl, if_neg (show ¬ nI m < (1 : Int32) from nI_nlt (b := 1) (by omega) (by omega)), if_neg (show ¬ (8 : Int32) < nI m from nI_nlt (b := m) (a := 8) (by omega) (by omega)), hx, wi_ok hx8 (by decide), bw_s, bw_s, bs_s, hR.1.2.2.1]
        · unfold dnX5_rule
          rw [bw_s, if_neg h1, if_pos rfl, e, bp_s, if_neg (by decide), right1, bs_s, if_neg (by decide), hch, bp_s, show (2 : Int32) = nI 2 from rfl, get_ hM2 (by decide), bp_s, put_ hM2 (by decide), bp_s]
      · refine ws_th (b := 0) (t := 1) (E := "java/lang/IllegalArgumentException") h (by decide) (by decide) (by decide) ?_ ?_
        · unfold dnX4_rule
          rw [if_neg h1, if_pos rfl]
          by_cases c : x2 < 1
          · rw [if_pos c]
          · rw [if_neg c, if_pos (q.resolve_left c)]
        · unfold dnX5_rule
          rw [bw_s, if_neg h1, if_pos rfl, e, bp_s, if_pos rfl, right0 F (by decide), bs_s, if_pos rfl]
    · refine ws_th (b := 0) (t := 1) (E := "java/lang/IllegalArgumentException") h (by decide) (by decide) (by decide) ?_ ?_
      · unfold dnX4_rule
        rw [if_neg h1, if_neg h2]
      · unfold dnX5_rule
        rw [bw_s, if_neg h1, if_neg h2, right0 F (by decide), bs_s, if_pos rfl]
theorem mod8b : ∀ x : Nat, x < 8 → (nI x + 8 - 1) - (nI x + 8 - 1) / 8 * 8 = nI ((x + 7) % 8) := by decide
theorem mod9b : ∀ w : Nat, w < 9 → ((nI w + 9) - 1) - ((nI w + 9) - 1) / 9 * 9 = nI ((w + 8) % 9) := by decide
theorem s_undo (x1 x2 x3 x4 x5 : Int32) (V : gX) (F : gF) (fo : Nat → Int64) (h : JJ V F) : ∃ V' F' fo', LR 28 x1 x2 x3 x4 x5 V F fo V' F' fo' ∧ JJ V' F' := by
  obtain ⟨⟨w, h1, ⟨n, kc, h2, h3⟩, u, x, q1, q2, q3, q4, q5, q6⟩, h4, f, f1, f2, f3, f4⟩ := id h
  have hw := h1.2
  have hb : hBack V.2.2.2.1 = nI ((x + 7) % 8) := by unfold hBack; rw [q5]; exact mod8b x q2
  by_cases hu : u = 0
  · subst hu
    refine ⟨V, wr F 0 0 0, fo, ⟨-1, ?_, ?_, rfl⟩, h.t 0⟩
    · unfold dnX4_undo
      rw [hb, wi_ok (by omega) (by decide), q4, bw_s, bw_s, if_pos (show (if nI 0 = 0 then (0 : Int32) else 1) = 0 from rfl), if_pos (show nI 0 = 0 from rfl), if_pos (show nI 0 = 0 from rfl)]
    · unfold dnX5_undo
      rw [bw_s, wr_o (by decide), q3, if_pos (show nI 0 = 0 from rfl)]
  · have hne : ¬ nI u = 0 := nI_ne0 (by omega) (by omega)
    refine ⟨(V.1, V.2.2.2.2 ((x + 7) % 8), V.2.2.1, (hUndo V.2.2.2.1, V.2.2.2.2)), wr (wr (wr F 0 0 0) 0 5 (nI (u - 1))) 0 4 (nI ((w + 8) % 9)), fo, ⟨nI (u - 1), ?_, ?_, rfl⟩, ⟨(w + 8) % 9, ⟨wr_i .., by omega⟩, ?_, u - 1, (x + 7) % 8, by omega, by omega, ?_, ?_, ?_, fun j hj => ?_⟩, ?_, f, f1, ?_, f3, fun j hj => ?_⟩
    · unfold dnX4_undo
      rw [hb, wi_ok (by omega) (by decide), q4, bw_s, bw_s, if_neg (by rw [if_neg hne]; decide), if_neg hne, if_neg hne]
      have : hUndo V.2.2.2.1 0 2 = nI (u - 1) := by
        unfold hUndo
        rw [wr_i, q4]; exact nI_sub (b := 1) (by omega)
      rw [show (hUndo V.2.2.2.1, V.2.2.2.2).1 0 2 = nI (u - 1) from this]
    · unfold dnX5_undo
      rw [bw_s, wr_o (by decide), q3, if_neg hne, bw_s, show nI u - 1 = nI (u - 1) from nI_sub (b := 1) (by omega), wr_o (by decide), wr_o (by decide), h1.1, mod9b w hw, bw_s, wr_o (by decide), wr_i]
    · obtain ⟨n1, kc1, p1, p2⟩ := q6 0 (by omega)
      rw [Nat.sub_zero] at p1 p2
      rw [row_w0, row_w0, row_w0]
      exact ⟨n1, kc1, p1, p2⟩
    · rw [wr_o (by decide), wr_i]
    · show hUndo V.2.2.2.1 0 2 = _
      unfold hUndo
      rw [wr_i, q4]; exact nI_sub (b := 1) (by omega)
    · show hUndo V.2.2.2.1 0 1 = _
      unfold hUndo
      rw [wr_o (by decide), wr_i, hb]
    · obtain ⟨n1, kc1, p1, p2⟩ := q6 (j + 1) (by omega)
      rw [row_w0, row_w0, row_w0, show ((w + 8) % 9 + 8 - j) % 9 = (w + 8 - (j + 1)) % 9 by omega, show ((x + 7) % 8 + 7 - j) % 8 = (x + 7 - (j + 1)) % 8 by omega]
      exact ⟨n1, kc1, p1, p2⟩
    · rw [wr_o (by decide), wr_o (by decide), wr_o (by decide)]; exact h4
    · rw [wr_o (by decide), wr_o (by decide), wr_o (by decide)]; exact f2
    · rw [wr_b (by decide), wr_b (by decide), wr_b (by decide)]; exact f4 j hj
