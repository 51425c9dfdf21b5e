/-! cells, what waits, what is kept -/
theorem cnt_ {n m : Nat} (hn : n ≤ 100) (hm : m ≤ 100) : (if 0 < (nI n - nI m) + 1 then (nI n - nI m) + 1 else 0) = nI (n + 1 - m) := by
  by_cases h : m ≤ n
  · rw [nI_sub h, nI_1, if_pos (show (0 : Int32) < nI (n - m + 1) from nI_lt (a := 0) (by omega) (by omega)), show n - m + 1 = n + 1 - m by omega]
  · have h1 : ¬ (0 : Int32) < (nI n - nI m) + 1 := by
      rw [Int32.lt_iff_toInt_lt, Int32.toInt_add, Int32.toInt_sub, nI_toInt (by omega), nI_toInt (by omega), show (0 : Int32).toInt = 0 from by decide, show (1 : Int32).toInt = 1 from by decide, Int.bmod_def, Int.bmod_def]
      split <;> split <;> omega
    rw [if_neg h1, show n + 1 - m = 0 by omega]
    rfl
theorem pw {l : Nat} (h : l < 6) : 1 ≤ 2 ^ l ∧ 2 ^ l ≤ 32 := by
  match l, h with
  | 0, _ => decide
  | 1, _ => decide
  | 2, _ => decide
  | 3, _ => decide
  | 4, _ => decide
  | 5, _ => decide
theorem cellsM {F : gF} {w n l : Nat} (h : MS F w) (h0 : row F w 0 = nI n) (hn : n ≤ 40) (hl : l < 6) : dnX5_cellsOn F (nI l) = some (nI (n + 1 - 2 ^ l)) := by
  have := pw hl
  unfold dnX5_cellsOn
  rw [size_ h h0, bp_s, sh1 hl, cnt_ (by omega) (by omega)]
theorem cellsC {G : gR} {n l : Nat} (h0 : G.1 0 3 = nI n) (hn : n ≤ 40) (hl : l < 6) : dnX1_cellsOnLevel G (nI l) = some (nI (n + 1 - 2 ^ l)) := by
  have := pw hl
  unfold dnX1_cellsOnLevel
  rw [h0, sh1 hl, cnt_ (by omega) (by omega)]
theorem cellIx {l p : Nat} (h1 : 1 ≤ l) : (92 + (40 * (nI l - 1))) + nI p = nI (92 + 40 * (l - 1) + p) := by
  rw [show nI l - 1 = nI (l - 1) from nI_sub (b := 1) h1, show (40 : Int32) = nI 40 from rfl, show (92 : Int32) = nI 92 from rfl, nI_mul, nI_add, nI_add]
theorem toldM {F : gF} {w l p : Nat} (h : MS F w) (hl : l < 6) (hp : p < 40) : dnX5_toldBy F (nI l) (nI p) = some (if l = 0 then nI p else row F w (92 + 40 * (l - 1) + p)) := by
  unfold dnX5_toldBy
  by_cases h0 : l = 0
  · subst h0; rw [if_pos (show nI 0 = 0 from rfl), if_pos rfl]
  · rw [if_neg (nI_ne0 (by omega) (by omega)), if_neg h0]
    unfold dnX5_cellAt
    rw [bp_s, cellIx (by omega), getr h (by omega), bp_s]
theorem cellC {G : gR} {l p : Nat} (hl : l < 6) (hp : p < 40) : dnX1_cellAt G (nI l) (nI p) = some (if l = 0 then nI p else G.1 2 (40 * l + p)) := by
  unfold dnX1_cellAt
  by_cases h0 : l = 0
  · subst h0; rw [if_pos (show nI 0 = 0 from rfl), if_pos rfl]
  · rw [if_neg (nI_ne0 (by omega) (by omega)), if_neg h0, show (40 : Int32) = nI 40 from rfl, nI_mul, nI_add, if_neg (nI_pos (by omega)), if_pos (show nI (l * 40 + p) < (240 : Int32) from nI_lt (b := 240) (by omega) (by decide)), ra_ok (by omega) (by decide), Nat.mul_comm]
theorem cellB {V : gX} {F : gF} {w n kc l p : Nat} (hM : MS F w) (hW : WF (row F w) n kc) (hR : RR V.2.1 (row F w) n kc) (hl : l < 6) (hp : p + 2 ^ l ≤ n) : dnX1_cellAt V.2.1 (nI l) (nI p) = dnX5_toldBy F (nI l) (nI p) := by
  have := hW.1.2.1
  have := pw hl
  rw [cellC hl (by omega), toldM hM hl (by omega)]
  by_cases h0 : l = 0
  · rw [if_pos h0, if_pos h0]
  · rw [if_neg h0, if_neg h0, hR.2.2.1 l p (by omega) (by omega) hp]
theorem lev_em (x : Int32) : (∃ l : Nat, l < 6 ∧ x = nI l) ∨ (x < 0 ∨ nI 5 < x) := by
  by_cases h0 : x < 0
  · exact Or.inr (Or.inl h0)
  · obtain ⟨j, hj, rfl⟩ := nI_of h0
    by_cases hjn : j < 6
    · exact Or.inl ⟨j, hjn, rfl⟩
    · exact Or.inr (Or.inr ((nI_ltI (by omega) hj).mpr (by omega)))
theorem s_cell (x1 x2 x3 x4 x5 : Int32) (V : gX) (F : gF) (fo : Nat → Int64) (h : JJ V F) : ∃ V' F' fo', LR 5 x1 x2 x3 x4 x5 V F fo V' F' fo' ∧ JJ V' F' := by
  obtain ⟨w, n, kc, hM, hW, hR⟩ := h.r
  obtain ⟨⟨n1, n40, hn⟩, -⟩ := id hW
  have hc : V.2.1.1 0 3 = nI n := hR.1.1.trans hn
  show ∃ V' F' fo', WI _ V fo (dnX4_cell V x1 x2) (dnX5_cell F x1 x2) V' F' fo' ∧ JJ V' F'
  rcases pl_em n40 x2 with ⟨p, hp, rfl⟩ | hx
  · rcases lev_em x1 with ⟨l, hl, rfl⟩ | hx1
    · have h5 : dnX5_isIn (nI l) 0 5 = some 1 := by
        unfold dnX5_isIn
        rw [if_neg (nI_pos (by omega)), if_neg (show ¬ (5 : Int32) < nI l from fun q => absurd ((nI_ltI (a := 5) (by decide) (by omega)).mp q) (by omega))]
      have hpw := pw hl
      by_cases hcell : p + 2 ^ l ≤ n
      · obtain ⟨r, hr⟩ : ∃ r, dnX5_toldBy (wr F 0 0 0) (nI l) (nI p) = some r := ⟨_, toldM hM hl (by omega)⟩
        refine wi_ok2 (r := r) h ?_ ?_
        · unfold dnX4_cell dnX1_hasCell
          rw [demC hc n40 hp, bx_r, if_neg (nI_pos (by omega)), if_neg (show ¬ (6 : Int32) ≤ nI l from fun q => absurd ((nI_leI (a := 6) (by decide) (by omega)).mp q) (by omega)), if_neg (nI_pos (by omega)), cellsC hc n40 hl, bp_s, if_neg (nI_ge (by omega) (by omega)), bp_s, if_neg (by decide), cellB hM hW hR hl hcell, hr, bp_s]
        · unfold dnX5_cell
          rw [bw_s, placeM hM hn n40 hp, bp_s, right1, bs_s, if_neg (by decide), h5, bp_s, if_neg (by decide), cellsM hM hn n40 hl, bp_s, if_neg (nI_ge (by omega) (by omega)), right1, bs_s, if_neg (by decide), hr, bp_s]
      · refine wi_th (b := 0) (t := 2) (E := "java/util/NoSuchElementException") h (by decide) (by decide) (by decide) ?_ ?_
        · unfold dnX4_cell dnX1_hasCell
          rw [demC hc n40 hp, bx_r, if_neg (nI_pos (by omega)), if_neg (show ¬ (6 : Int32) ≤ nI l from fun q => absurd ((nI_leI (a := 6) (by decide) (by omega)).mp q) (by omega)), if_neg (nI_pos (by omega)), cellsC hc n40 hl, bp_s, if_pos (nI_le (by omega) (by omega)), bp_s, if_pos rfl]
        · unfold dnX5_cell
          rw [bw_s, placeM hM hn n40 hp, bp_s, right1, bs_s, if_neg (by decide), h5, bp_s, if_neg (by decide), cellsM hM hn n40 hl, bp_s, if_pos (nI_le (by omega) (by omega)), right0 F (by decide), bs_s, if_pos rfl]
    · refine wi_th (b := 0) (t := 2) (E := "java/util/NoSuchElementException") h (by decide) (by decide) (by decide) ?_ ?_
      · unfold dnX4_cell dnX1_hasCell
        rw [demC hc n40 hp, bx_r]
        by_cases c : x1 < 0
        · rw [if_pos c, bp_s, if_pos rfl]
        · have h6 : (6 : Int32) ≤ x1 := by
            rcases hx1 with q | q
            · exact absurd q c
            · obtain ⟨j, hj, rfl⟩ := nI_of c
              exact (nI_leI (a := 6) (by decide) hj).mpr ((nI_ltI (by decide) hj).mp q)
          rw [if_neg c, if_pos h6, bp_s, if_pos rfl]
      · have h5 : dnX5_isIn x1 0 5 = some 0 := by
          unfold dnX5_isIn
          by_cases c : x1 < 0
          · rw [if_pos c]
          · rw [if_neg c, if_pos (show (5 : Int32) < x1 from hx1.resolve_left c)]
        unfold dnX5_cell
        rw [bw_s, placeM hM hn n40 hp, bp_s, right1, bs_s, if_neg (by decide), h5, bp_s, if_pos rfl, right0 F (by decide), bs_s, if_pos rfl]
  · refine wi_th (b := 0) (t := 1) (E := "java/lang/IndexOutOfBoundsException") h (by decide) (by decide) (by decide) ?_ ?_
    · unfold dnX4_cell
      rw [demC0 hc hx, bx_l]
    · unfold dnX5_cell
      rw [bw_s, placeM0 hM hn n1 n40 hx, bp_s, right0 F (by decide), bs_s, if_pos rfl]
theorem keptC {G : gR} {k : Nat} (hk : k < 8) : dnX3_fromAt G (nI k) = some (G.1 4 k) ∧ dnX3_toAt G (nI k) = some (G.1 5 k) := by
  unfold dnX3_fromAt dnX3_toAt
  have h8 : ¬ (8 : Int32) ≤ nI k := fun q => absurd ((nI_leI (a := 8) (by decide) (by omega)).mp q) (by omega)
  rw [if_neg (nI_pos (by omega)), if_neg h8, ra_ok hk (by decide)]
  rw [if_neg (nI_pos (by omega)), if_neg h8, ra_ok hk (by decide)]
  exact ⟨rfl, rfl⟩
theorem keptM {F : gF} {w k : Nat} (h : MS F w) (hk : k < 8) : dnX5_keptFrom F (nI k) = some (row F w (292 + 2 * k)) ∧ dnX5_keptTo F (nI k) = some (row F w (293 + 2 * k)) := by
  unfold dnX5_keptFrom dnX5_keptTo
  rw [show (292 : Int32) = nI 292 from rfl, show (2 : Int32) = nI 2 from rfl, nI_mul, nI_add, nI_1, getr h (by omega), getr h (by omega), bp_s, bp_s, show 292 + 2 * k + 1 = 293 + 2 * k by omega]
  exact ⟨rfl, rfl⟩
theorem s_kept (x1 x2 x3 x4 x5 : Int32) (V : gX) (F : gF) (fo : Nat → Int64) (h : JJ V F) : ∃ V' F' fo', LR 14 x1 x2 x3 x4 x5 V F fo V' F' fo' ∧ JJ V' F' := by
  obtain ⟨w, n, kc, hM, hW, hR⟩ := h.r
  obtain ⟨k8, h6⟩ := hW.2.1
  have hc : V.2.1.1 3 2 = nI kc := hR.1.2.2.2.2.2.2.2.trans h6
  have hg : dnX5_get (wr F 0 0 0) 6 = some (nI kc) := by rw [show (6 : Int32) = nI 6 from rfl, getr hM (by decide), h6]
  show ∃ V' F' fo', WI _ V fo (dnX4_kept V x1) (dnX5_kept F x1) V' F' fo' ∧ JJ V' F'
  rcases pl_em (show kc ≤ 40 by omega) x1 with ⟨k, hk, rfl⟩ | hx
  · have hk5 : dnX5_isKept (wr F 0 0 0) (nI k) = some 1 := by
      unfold dnX5_isKept dnX5_isIn
      rw [hg, bp_s, if_neg (nI_pos (by omega)), show nI kc - 1 = nI (kc - 1) from nI_sub (b := 1) (by omega), if_neg (fun q => absurd ((nI_ltI (by omega) (by omega)).mp q) (by omega)), bp_s]
      rfl
    have hd : dnX4_demandKept V (nI k) = some (.inr ()) := by
      unfold dnX4_demandKept
      rw [if_neg (nI_pos (by omega)), hc, if_pos (nI_lt hk (by omega))]
    have hq := hR.2.2.2.2 k hk
    obtain ⟨m1, m2⟩ := keptM hM (show k < 8 by omega)
    obtain ⟨c1, c2⟩ := keptC (G := V.2.1) (show k < 8 by omega)
    refine wi_ok2 (r := (100 * row (wr F 0 0 0) w (292 + 2 * k)) + row (wr F 0 0 0) w (293 + 2 * k)) h ?_ ?_
    · unfold dnX4_kept dnX4_keptAsNumber
      rw [hd, bx_r, c1, bp_s, c2, bp_s, bp_s, hq.1, hq.2]
    · unfold dnX5_kept
      rw [bw_s, hk5, bp_s, right1, bs_s, if_neg (by decide), m1, bp_s, m2, bp_s]
  · have hk5 : dnX5_isKept (wr F 0 0 0) x1 = some 0 := by
      unfold dnX5_isKept dnX5_isIn
      rw [hg, bp_s]
      by_cases c : x1 < 0
      · rw [if_pos c, bp_s]; rfl
      · have hx2 : nI kc ≤ x1 := hx.resolve_left c
        have : nI kc - 1 < x1 := by
          by_cases z : kc = 0
          · subst z
            exact Int32.lt_of_lt_of_le (show nI 0 - 1 < nI 0 from by decide) hx2
          · rw [show nI kc - 1 = nI (kc - 1) from nI_sub (b := 1) (by omega)]
            exact Int32.lt_of_lt_of_le (nI_lt (by omega) (by omega)) hx2
        rw [if_neg c, if_pos this, bp_s]; rfl
    have hd : dnX4_demandKept V x1 = some (.inl "java/util/NoSuchElementException") := by
      unfold dnX4_demandKept
      by_cases c : x1 < 0
      · rw [if_pos c]
      · rw [if_neg c, hc, if_neg (Int32.not_lt.mpr (hx.resolve_left c))]
    refine wi_th (b := 0) (t := 1) (E := "java/util/NoSuchElementException") h (by decide) (by decide) (by decide) ?_ ?_
    · unfold dnX4_kept
      rw [hd, bx_l]
    · unfold dnX5_kept
      rw [bw_s, hk5, bp_s, right0 F (by decide), bs_s, if_pos rfl]
