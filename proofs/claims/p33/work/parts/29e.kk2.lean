/-! the class against a reference row: keep, most, sweep; what is told -/
theorem CKL.of {G : gR} {g : Nat → Int32} {n kc : Nat} {L : kL} (hR : RR G g n kc) (hL : RKL g L) (hl : L.length = kc) : CKL G L := by
  refine ⟨hL.1, hR.1.2.2.2.2.2.2.2.trans hL.2.1, fun k a b q => ?_⟩
  have hk : k < kc := by have := kl_lt q; omega
  exact ⟨(hR.2.2.2.2 k hk).1.trans (hL.2.2 k a b q).1, (hR.2.2.2.2 k hk).2.trans (hL.2.2 k a b q).2⟩
theorem kk_keep {V : gX} {g : Nat → Int32} {n kc a b : Nat} {L : kL} (h : KK V g n kc) (hL : RKL g L) (hl : L.length = kc) (hv : KLv n L) (hab : a ≤ b) (hb : b < n) (h8 : kc < 8) : ∃ (V' : gX) (g' : Nat → Int32), dnX4_keep V (nI a) (nI b) = some (.inr (nI (kc + 1), V')) ∧ KK V' g' n (kc + 1) ∧ RKL g' (L ++ [(a, b)]) ∧ (∀ k : Nat, k < 292 → k ≠ 6 → g' k = g k) := by
  obtain ⟨hW, hR, u, x, q1, q2, q4, q5⟩ := h
  obtain ⟨⟨n1, n40, hn⟩, ⟨k8, hk⟩, -⟩ := id hW
  have hc : V.2.1.1 0 3 = nI n := hR.1.1.trans hn
  have hc3 : V.2.1.1 3 2 = nI kc := hR.1.2.2.2.2.2.2.2.trans hk
  have hC := CKL.of hR hL hl
  obtain ⟨G', e4, hC', c1, c2, c3⟩ := addC (a := a) (b := b) hC (by omega)
  obtain ⟨g', -, hL', c5⟩ := keepsM (F := F0r) (w := 0) (a := a) (b := b) F0r_M hL (by omega)
  have hv' : KLv n (L ++ [(a, b)]) := by
    intro k p1 p2 q
    by_cases e : k < L.length
    · rw [List.getElem?_append_left e] at q; exact hv k p1 p2 q
    · rw [List.getElem?_append_right (by omega)] at q
      have hq := kl_lt q
      have hq : k - L.length < 1 := hq
      rw [show k - L.length = 0 by omega] at q
      obtain ⟨rfl, rfl⟩ := Prod.mk.inj (Option.some.inj (show some (a, b) = some (p1, p2) from q))
      exact ⟨hab, hb⟩
  obtain ⟨hW', hR'⟩ := WR.k hW hR c5 c1 c2 hL' hC' hv'
  have hll : (L ++ [(a, b)]).length = kc + 1 := by rw [List.length_append, hl]; rfl
  rw [hll] at hW' hR'
  refine ⟨nxV V x G', g', ?_, KK.nx q1 q2 q4 q5 hW' hR', hL', c5⟩
  unfold dnX4_keep
  rw [strC hc n40 hab hb, bx_r, hc3, if_pos (show nI kc < (8 : Int32) from nI_lt (b := 8) h8 (by decide)), q5, wi_ok q2 (by decide), bw_s, e4, bp_s, c3, hl]
  rfl
theorem kk_most {V : gX} {g : Nat → Int32} {n kc m : Nat} (h : KK V g n kc) (h1 : 1 ≤ m) (h8 : m ≤ 8) : ∃ V' : gX, dnX4_rule V 2 (nI m) = some (.inr (g 2, V')) ∧ KK V' (upd g 2 (nI m)) n kc := by
  obtain ⟨hW, hR, u, x, q1, q2, q4, q5⟩ := h
  obtain ⟨hW', hR'⟩ := most_b hW hR h1 h8
  refine ⟨nxV V x (wR V.2.1 0 5 (nI m)), ?_, KK.nx q1 q2 q4 q5 hW' hR'⟩
  unfold dnX4_rule dnX1_changeMost
  rw [if_neg (by decide), if_pos rfl, if_neg (show ¬ nI m < (1 : Int32) from nI_nlt (b := 1) (by omega) (by omega)), if_neg (show ¬ (8 : Int32) < nI m from nI_nlt (b := m) (a := 8) (by omega) (by omega)), q5, wi_ok q2 (by decide), bw_s, bw_s, bs_s, hR.1.2.2.1]
  rfl
theorem kk_cell {V : gX} {g : Nat → Int32} {n kc l p : Nat} (h : KK V g n kc) (h1 : 1 ≤ l) (h5 : l ≤ 5) (hp : p + 2 ^ l ≤ n) : dnX4_cell V (nI l) (nI p) = some (.inr (g (92 + 40 * (l - 1) + p))) := by
  obtain ⟨hW, hR, -⟩ := h
  obtain ⟨⟨n1, n40, hn⟩, -⟩ := id hW
  have hc : V.2.1.1 0 3 = nI n := hR.1.1.trans hn
  have hl : l < 6 := by omega
  have hpw := pw hl
  obtain ⟨hW', hR'⟩ := WRst (F := F0r) (w := 0) hW hR (fun k hk => row_st (F := F0r) (w := 0) (g := g) hk)
  have hcb := cellB (V := V) (F := st F0r 0 g) (w := 0) (F0r_M.s g) hW' hR' hl hp
  rw [toldM (F0r_M.s g) hl (by omega), if_neg (by omega), row_st (by omega)] at hcb
  unfold dnX4_cell dnX1_hasCell
  rw [demC hc n40 (show p < n by omega), bx_r, if_neg (nI_pos (by omega)), if_neg (show ¬ (6 : Int32) ≤ nI l from fun q => absurd ((nI_leI (a := 6) (by decide) (by omega)).mp q) (by omega)), if_neg (nI_pos (by omega)), cellsC hc n40 hl, bp_s, if_neg (nI_ge (by omega) (by omega)), bp_s, if_neg (by decide), hcb, bp_s]
theorem kk_kept {V : gX} {g : Nat → Int32} {n kc k : Nat} (h : KK V g n kc) (hk : k < kc) : dnX4_kept V (nI k) = some (.inr (100 * g (292 + 2 * k) + g (293 + 2 * k))) := by
  obtain ⟨hW, hR, -⟩ := h
  obtain ⟨k8, h6⟩ := hW.2.1
  have hc : V.2.1.1 3 2 = nI kc := hR.1.2.2.2.2.2.2.2.trans h6
  have hd : dnX4_demandKept V (nI k) = some (.inr ()) := by
    unfold dnX4_demandKept
    rw [if_neg (nI_pos (by omega)), hc, if_pos (nI_lt hk (by omega))]
  have hq := hR.2.2.2.2 k hk
  obtain ⟨c1, c2⟩ := keptC (G := V.2.1) (show k < 8 by omega)
  unfold dnX4_kept dnX4_keptAsNumber
  rw [hd, bx_r, c1, bp_s, c2, bp_s, bp_s, hq.1, hq.2]
theorem allM {F : gF} {w n : Nat} (h : MS F w) (h0 : row F w 0 = nI n) (hn : n ≤ 40) : ∀ (N l t : Nat), 1 ≤ l → l ≤ 6 → 6 < N + l → lpX5_allCells_4 F N (nI t) (nI l) = some (0, nI (t + cs (fun l => n + 1 - 2 ^ l) (6 - l))) := by
  intro N
  induction N with
  | zero => intro l t h1 h2 h3; omega
  | succ N ih =>
    intro l t h1 h2 h3
    unfold lpX5_allCells_4
    by_cases hl : 5 < l
    · rw [if_pos (show (5 : Int32) < nI l from nI_lt (a := 5) hl (by omega)), show 6 - l = 0 by omega]; rfl
    · rw [if_neg (show ¬ (5 : Int32) < nI l from nI_nlt (b := l) (a := 5) (by omega) (by omega)), cellsM h h0 hn (by omega), bp_s, nI_add, nI_1, ih (l + 1) _ (by omega) (by omega) (by omega), show 6 - l = (6 - (l + 1)) + 1 by omega, cs, show 5 - (6 - (l + 1)) = l by omega, Nat.add_assoc]
theorem kk_state {V : gX} {g : Nat → Int32} {n kc m : Nat} (h : KK V g n kc) (hm : m ≤ 10) : ∃ r : Int32, dnX4_state V (nI m) = some (.inr r) ∧ dnX5_toldOf (st F0r 0 g) (nI m) = some r := by
  obtain ⟨hW, hR, -⟩ := h
  obtain ⟨hW', hR'⟩ := WRst (F := F0r) (w := 0) hW hR (fun k hk => row_st (F := F0r) (w := 0) (g := g) hk)
  obtain ⟨r, e4, e5⟩ := told_b (V := V) (F0r_M.s g) hW' hR' m hm
  refine ⟨r, ?_, e5⟩
  unfold dnX4_state
  rw [if_neg (nI_pos (by omega)), if_pos (show nI m < (11 : Int32) from nI_lt (b := 11) (by omega) (by decide)), e4, bp_s]
theorem kk_st {V : gX} {g : Nat → Int32} {n kc m : Nat} (h : KK V g n kc) (hm : m ≤ 10) (h3 : m ≠ 3) (h4 : m ≠ 4) (h5 : m ≠ 5) : dnX4_state V (nI m) = some (.inr (g m)) := by
  obtain ⟨r, e, e5⟩ := kk_state h hm
  rw [e]
  unfold dnX5_toldOf at e5
  rw [if_neg (show ¬ nI m = 3 from fun q => h3 ((nI_eq (b := 3) (by omega) (by decide)).mp q)), if_neg (show ¬ nI m = 4 from fun q => h4 ((nI_eq (b := 4) (by omega) (by decide)).mp q)), if_neg (show ¬ nI m = 5 from fun q => h5 ((nI_eq (b := 5) (by omega) (by decide)).mp q)), getr (F0r_M.s g) (by omega), bp_s, row_st (by omega)] at e5
  rw [Option.some.inj e5]
theorem kk_st4 {V : gX} {g : Nat → Int32} {n kc : Nat} (h : KK V g n kc) : dnX4_state V 4 = some (.inr (nI (cs (fun l => n + 1 - 2 ^ l) 5))) := by
  obtain ⟨r, e, e5⟩ := kk_state (m := 4) h (by decide)
  obtain ⟨⟨n1, n40, hn⟩, -⟩ := h.1
  rw [show (4 : Int32) = nI 4 from rfl, e]
  unfold dnX5_toldOf at e5
  rw [if_neg (by decide), if_pos (by decide)] at e5
  unfold dnX5_allCells at e5
  rw [show lpX5_allCells_4 (st F0r 0 g) FU 0 1 = _ from allM (F0r_M.s g) (by rw [row_st (by decide)]; exact hn) n40 FU 1 0 (by decide) (by decide) (by unfold FU; omega), bp_s, bp_s, Nat.zero_add] at e5
  rw [← Option.some.inj e5]
theorem kk_st5 {V : gX} {g : Nat → Int32} {n kc : Nat} (h : KK V g n kc) : dnX4_state V 5 = some (.inr (nI (wc g n))) := by
  obtain ⟨r, e, e5⟩ := kk_state (m := 5) h (by decide)
  obtain ⟨⟨n1, n40, hn⟩, -, -, -, ⟨hB, -⟩, -⟩ := h.1
  rw [show (5 : Int32) = nI 5 from rfl, e]
  unfold dnX5_toldOf at e5
  rw [if_neg (by decide), if_neg (by decide), if_pos (by decide), waitingM0 (F0r_M.s g) (by rw [row_st (by decide)]; exact hn) n40 (fun p hp => by rw [row_st (by omega)]; exact hB p hp), bp_s, wc_st n n40] at e5
  rw [← Option.some.inj e5]
