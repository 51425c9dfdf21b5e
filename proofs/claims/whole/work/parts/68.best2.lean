/-! bestRule, both sides -/
theorem costM {F : gF} {w n kc x r : Nat} {L : kL} (hM : MS F w) (hW : WF (row F w) n kc) (hL : RKL (row F w) L) (hv : KLv n L) (hx : x < n) (hr : r ≤ 2) : ∃ F' : gF, dnX5_costBy F (nI r) (nI x) = some (nI (costN n x L r), F') ∧ MS F' w ∧ (∀ a : Nat, a ≠ 3 → F' a = F a) := by
  obtain ⟨⟨n1, n40, hn⟩, ⟨k8, hk⟩, hrr, hm, ⟨w1, w2, w3⟩, hK, hvv, hc⟩ := hW
  have hM3 : MS (Bj F (row F w) 310) w := ⟨by rw [Bj_b (by decide)]; exact hM.1, hM.2⟩
  have hrow : row (Bj F (row F w) 310) w = row F w := row_b (Bj_b (by decide))
  have e2 := costBy2 (x1 := nI r) (x2 := nI x) hM FU 0 (by omega) (by unfold FU; omega)
  have e0 : Bj F (row F w) 0 = F := by funext a i; unfold Bj; rw [if_neg (by omega)]
  rw [e0] at e2
  have ek : ∀ k : Nat, k ≠ 1 → (k < 52 ∨ 92 ≤ k) → clr 0 (upd (row F w) 1 (nI r)) k = row F w k := fun k k1 k2 => by
    simp only [clr, upd]; rw [if_neg (by omega), if_neg k1]
  have hval : clr 0 (upd (row F w) 1 (nI r)) (12 + x) ≤ 999 := by rw [ek _ (by omega) (by omega)]; exact (hvv x hx).2
  have hC : CW False (clr 0 (upd (row F w) 1 (nI r))) n := fun l p k1 k2 k3 => by
    have hw := pw (show l < 6 by omega)
    obtain ⟨c, c1, c2, c3, -⟩ := hc l p k1 k2 k3
    exact ⟨c, by rw [ek _ (by omega) (by omega)]; exact c1, c2, c3, fun z => z.elim⟩
  obtain ⟨g1, g2, p1, p2, p3⟩ := played (x3 := clr 0 (upd (row F w) 1 (nI r)) 7 + clr 0 (upd (row F w) 1 (nI r)) 8) hM3 hr n40 hx hv (by rw [ek 0 (by decide) (by decide)]; exact hn) (show clr 0 (upd (row F w) 1 (nI r)) 1 = nI r from by simp [clr, upd]) (by rw [ek 2 (by decide) (by decide)]; exact hm) (fun p hp => by simp only [clr]; rw [if_pos (by omega)]) hC (hL.cg (fun k hk => ek k (by omega) (by omega))) hval
  have e152 := costBy152 (x5 := (g2 7 + g2 8) - (clr 0 (upd (row F w) 1 (nI r)) 7 + clr 0 (upd (row F w) 1 (nI r)) 8)) (g := row F w) (g' := g2) hM3 (fun j hj => by unfold Bj; rw [if_pos ⟨rfl, hj⟩]) FU 0 (by omega) (by unfold FU; omega)
  have ec0 : cpM (row F w) g2 0 = g2 := by funext k; simp [cpM]
  rw [ec0, st_ext (g := cpM (row F w) g2 310) (g' := row F w) (fun k hk => by simp [cpM, hk])] at e152
  have eS : st (Bj F (row F w) 310) w (row F w) = Bj F (row F w) 310 := by
    have := st_row (Bj F (row F w) 310) w
    rw [hrow] at this; exact this
  have eput : dnX5_put0 (Bj F (row F w) 310) 1 (nI r) = some (st (Bj F (row F w) 310) w (upd (row F w) 1 (nI r))) := by
    have := put_ (g := row F w) (v := nI r) hM3 (show 1 < 310 by decide)
    rw [eS] at this; exact this
  refine ⟨Bj F (row F w) 310, ?_, hM3, fun a ha => Bj_b ha⟩
  unfold dnX5_costBy
  rw [show lpX5_costBy_2 (nI r) (nI x) FU 0 F = _ from e2, bp_s, eput, bp_s, show lpX5_costBy_34 (nI x) FU 0 (st (Bj F (row F w) 310) w (upd (row F w) 1 (nI r))) = _ from costBy34 hM3 FU 0 _ (by omega) (by unfold FU; omega), bp_s]
  rw [show (7 : Int32) = nI 7 from rfl, show (8 : Int32) = nI 8 from rfl, get_ hM3 (by decide), bp_s, get_ hM3 (by decide), bp_s, valueM (hM3.s _) (by omega), row_st (by omega), bp_s, p1, bs_s, p2, bp_s, get_ hM3 (by decide), bp_s, get_ hM3 (by decide), bp_s, show lpX5_costBy_152 ((g2 7 + g2 8) - (clr 0 (upd (row F w) 1 (nI r)) 7 + clr 0 (upd (row F w) 1 (nI r)) 8)) FU 0 (st (Bj F (row F w) 310) w g2) = _ from e152, bp_s, p3, eS]
theorem countC {G : gR} {n : Nat} (h0 : G.1 0 3 = nI n) (hn : n ≤ 40) : dnX1_cellCount G = some (nI (cs (fun l => n + 1 - 2 ^ l) 5)) := by
  have K : ∀ (N l t : Nat), 1 ≤ l → l ≤ 6 → 6 < N + l → lpX1_cellCount_4 G N (nI t) (nI l) = some (0, nI (t + cs (fun l => n + 1 - 2 ^ l) (6 - l))) := by
    intro N
    induction N with
    | zero => intro l t q0 q1 q2; omega
    | succ N ih =>
      intro l t q0 q1 q2
      unfold lpX1_cellCount_4
      by_cases hl : 6 ≤ l
      · rw [if_pos (show (6 : Int32) ≤ nI l from nI_le (a := 6) hl (by omega)), show 6 - l = 0 by omega]; rfl
      · rw [if_neg (show ¬ (6 : Int32) ≤ nI l from nI_ge (b := 6) (by omega) (by omega)), cellsC h0 hn (by omega), bp_s, nI_add, nI_1, ih (l + 1) _ (by omega) (by omega) (by omega), show 6 - l = (6 - (l + 1)) + 1 by omega, cs, show 5 - (6 - (l + 1)) = l by omega, ← Nat.add_assoc]
  unfold dnX1_cellCount
  rw [show lpX1_cellCount_4 G FU 0 1 = _ from K FU 1 0 (by decide) (by decide) (by unfold FU; omega), bp_s, Nat.zero_add]
theorem lkC {V : gX} {n : Nat} {x : Int64} {L : kL} (hC : CKL V.2.1 L) (hv : KLv n L) (hn : n ≤ 40) : dnX4_looksForKept V x = some (nI (lkS (wb x) L)) := by
  have h8 := hC.1
  have K : ∀ (N k t : Nat), k ≤ L.length → L.length < N + k → lpX4_looksForKept_5 V x N (nI t) (nI k) = some (0, nI (t + lkS (wb x) (L.drop k))) := by
    intro N
    induction N with
    | zero => intro k t q1 q2; omega
    | succ N ih =>
      intro k t q1 q2
      unfold lpX4_looksForKept_5
      rw [hC.2.1]
      by_cases hk : L.length ≤ k
      · rw [if_pos (nI_le hk (by omega)), List.drop_eq_nil_of_le hk]; rfl
      · obtain ⟨a, b, q⟩ := kl_get (show k < L.length by omega)
        obtain ⟨v1, v2⟩ := hv k a b q
        obtain ⟨f1, f2⟩ := hC.2.2 k a b q
        obtain ⟨c1, c2⟩ := keptC (G := V.2.1) (show k < 8 by omega)
        rw [if_neg (nI_ge (by omega) (by omega)), c1, bp_s, c2, bp_s, f1, f2, looksC v1 (by omega), bp_s, nI_add, nI_1, ih (k + 1) _ (by omega) (by omega), drop_s q, lkS, ← Nat.add_assoc]
  unfold dnX4_looksForKept
  rw [show lpX4_looksForKept_5 V x FU 0 0 = _ from K FU 0 0 (by omega) (by unfold FU; omega), bp_s, List.drop_zero, Nat.zero_add]
/-- which of three numbers is the least, the first of several -/
def best3 (a b c : Nat) : Int32 := if b < a then (if c < b then 2 else 1) else if c < a then 2 else 0
theorem s_bestRule (x1 x2 x3 x4 x5 : Int32) (V : gX) (F : gF) (fo : Nat → Int64) (h : JJ V F) : ∃ V' F' fo', LR 16 x1 x2 x3 x4 x5 V F fo V' F' fo' ∧ JJ V' F' := by
  obtain ⟨w, n, kc, hM, hW, hR⟩ := h.r
  obtain ⟨⟨n1, n40, hn⟩, -⟩ := id hW
  have hc : V.2.1.1 0 3 = nI n := hR.1.1.trans hn
  show ∃ V' F' fo', WI _ V fo (dnX4_bestRule V x1) (dnX5_bestRule F x1) V' F' fo' ∧ JJ V' F'
  rcases pl_em n40 x1 with ⟨p, hp, rfl⟩ | hx
  · obtain ⟨L, hl, hL, hC, hv⟩ := kl_of hW hR
    have h8 := hL.1
    have hC3 : V.2.1.1 3 2 = nI L.length := hC.2.1
    obtain ⟨F1, e1, hM1, hF1⟩ := costM (r := 0) hM hW hL hv hp (by decide)
    have r1 : row F1 w = row (wr F 0 0 0) w := row_b (hF1 1 (by decide))
    obtain ⟨F2, e2, hM2, hF2⟩ := costM (r := 1) hM1 (by rw [r1]; exact hW) (by rw [r1]; exact hL) hv hp (by decide)
    have r2 : row F2 w = row (wr F 0 0 0) w := by rw [← r1]; exact row_b (hF2 1 (by decide))
    obtain ⟨F3, e3, hM3, hF3⟩ := costM (r := 2) hM2 (by rw [r2]; exact hW) (by rw [r2]; exact hL) hv hp (by decide)
    have hF : ∀ a : Nat, a ≠ 3 → F3 a = (wr F 0 0 0) a := fun a ha => by rw [hF3 a ha, hF2 a ha, hF1 a ha]
    have hJ3 : JJ V F3 := by
      obtain ⟨⟨w, h1, ⟨n, kc, h2, h3⟩, u, x, q1, q2, q3, q4, q5, q6⟩, h4, f, f1, f2, f3, f4⟩ := h.t 0
      have er : ∀ w : Nat, row F3 w = row (wr F 0 0 0) w := fun w => row_b (hF 1 (by decide))
      refine ⟨⟨w, ⟨by rw [hF 0 (by decide)]; exact h1.1, h1.2⟩, ⟨n, kc, by rw [er]; exact h2, by rw [er]; exact h3⟩, u, x, q1, q2, by rw [hF 0 (by decide)]; exact q3, q4, q5, fun j hj => ?_⟩, by rw [hF 0 (by decide)]; exact h4, f, f1, by rw [hF 0 (by decide)]; exact f2, f3, fun j hj => by rw [hF 4 (by decide)]; exact f4 j hj⟩
      obtain ⟨n1, kc1, p1, p2⟩ := q6 j hj
      exact ⟨n1, kc1, by rw [er]; exact p1, by rw [er]; exact p2⟩
    have hv2 : ∀ q ∈ L, q.2 < n := fun q hq => by
      obtain ⟨i, hi⟩ := List.getElem?_of_mem hq
      exact (hv i q.1 q.2 hi).2
    have b0 := lkS_le (W := wb 0) L hv2 n40
    have b1 := lkS_le (W := wb ((1 : Int64) <<< ((nI p).toInt64 &&& 63))) L hv2 n40
    have b2 : cs (ov n p p) 5 ≤ 40 * 5 := by
      have := cs_le (f := fun l => min (ov n p p l) 40) (fun l => Nat.min_le_right _ _) 5
      rw [cs_cg (f' := fun l => min (ov n p p l) 40) (fun l k1 k2 => by have := pw (show l < 6 by omega); unfold ov; omega) 5 (by decide)]
      exact this
    have b3 : cs (fun l => n + 1 - 2 ^ l) 5 ≤ 40 * 5 := by
      have := cs_le (f := fun l => min (n + 1 - 2 ^ l) 40) (fun l => Nat.min_le_right _ _) 5
      rw [cs_cg (f' := fun l => min (n + 1 - 2 ^ l) 40) (fun l k1 k2 => by have := pw (show l < 6 by omega); omega) 5 (by decide)]
      exact this
    have c0b : costN n p L 0 ≤ 2000 := by
      show (if L.length = 0 then 0 else cs (fun l => n + 1 - 2 ^ l) 5 + lkS (wb 0) L) ≤ 2000
      split <;> omega
    have c1b : costN n p L 1 ≤ 2000 := by
      show cs (ov n p p) 5 + lkS (wb 0) L ≤ 2000
      omega
    have c2b : costN n p L 2 ≤ 2000 := by
      show lkS (wb ((1 : Int64) <<< ((nI p).toInt64 &&& 63))) L ≤ 2000
      omega
    have h5 : dnX5_bestRule F (nI p) = some (best3 (costN n p L 0) (costN n p L 1) (costN n p L 2), F3) := by
      unfold dnX5_bestRule
      rw [bw_s, placeM hM hn n40 hp, bp_s, right1, bs_s, if_neg (by decide), show dnX5_costBy (wr F 0 0 0) 0 (nI p) = _ from e1, bs_s, show FU = FU - 3 + 1 + 1 + 1 from rfl]
      have e2' : dnX5_costBy F1 1 (nI p) = some (nI (costN n p L 1), F2) := e2
      have e3' : dnX5_costBy F2 (1 + 1) (nI p) = some (nI (costN n p L 2), F3) := by
        rw [show (1 : Int32) + 1 = nI 2 from by decide]; exact e3
      unfold best3
      by_cases h1 : costN n p L 1 < costN n p L 0
      · rw [if_pos h1]
        by_cases h2 : costN n p L 2 < costN n p L 1
        · rw [if_pos h2]
          simp only [lpX5_bestRule_32]
          rw [if_neg (by decide), e2', bs_s, if_pos (nI_lt h1 (by omega)), if_neg (by decide), e3', bs_s, if_pos (nI_lt h2 (by omega)), if_pos (by decide), bp_s]
          rfl
        · rw [if_neg h2]
          simp only [lpX5_bestRule_32]
          rw [if_neg (by decide), e2', bs_s, if_pos (nI_lt h1 (by omega)), if_neg (by decide), e3', bs_s, if_neg (nI_nlt (by omega) (by omega)), if_pos (by decide), bp_s]
      · rw [if_neg h1]
        by_cases h2 : costN n p L 2 < costN n p L 0
        · rw [if_pos h2]
          simp only [lpX5_bestRule_32]
          rw [if_neg (by decide), e2', bs_s, if_neg (nI_nlt (by omega) (by omega)), if_neg (by decide), e3', bs_s, if_pos (nI_lt h2 (by omega)), if_pos (by decide), bp_s]
          rfl
        · rw [if_neg h2]
          simp only [lpX5_bestRule_32]
          rw [if_neg (by decide), e2', bs_s, if_neg (nI_nlt (by omega) (by omega)), if_neg (by decide), e3', bs_s, if_neg (nI_nlt (by omega) (by omega)), if_pos (by decide), bp_s]
    have h4 : dnX4_bestRule V (nI p) = some (.inr (best3 (costN n p L 0) (costN n p L 1) (costN n p L 2))) := by
      unfold dnX4_bestRule
      rw [demC hc n40 hp, bx_r, lkC hC hv n40, bp_s, hC3, overC hc n40 hp, lkC hC hv n40]
      by_cases hk : L.length = 0
      · have e0 : L = [] := List.eq_nil_of_length_eq_zero hk
        rw [if_pos (by rw [hk]; rfl), bp_s, bp_s, nI_add, if_neg (nI_pos (by omega)), if_neg (nI_pos (by omega))]
        unfold best3
        rw [show costN n p L 0 = 0 from if_pos hk, if_neg (by omega), if_neg (by omega)]
      · have e0 : costN n p L 0 = cs (fun l => n + 1 - 2 ^ l) 5 + lkS (wb 0) L := if_neg hk
        rw [if_neg (nI_ne0 (by omega) (by omega)), countC hc n40, bp_s, bp_s, bp_s, nI_add, nI_add, ← e0, show cs (ov n p p) 5 + lkS (wb 0) L = costN n p L 1 from rfl, show lkS (wb ((1 : Int64) <<< ((nI p).toInt64 &&& 63))) L = costN n p L 2 from rfl]
        unfold best3
        by_cases h1 : costN n p L 1 < costN n p L 0
        · rw [if_pos h1, if_pos (nI_lt h1 (by omega))]
          by_cases h2 : costN n p L 2 < costN n p L 1
          · rw [if_pos h2, if_pos (nI_lt h2 (by omega))]
          · rw [if_neg h2, if_neg (nI_nlt (by omega) (by omega))]
        · rw [if_neg h1, if_neg (nI_nlt (by omega) (by omega))]
          by_cases h2 : costN n p L 2 < costN n p L 0
          · rw [if_pos h2, if_pos (nI_lt h2 (by omega)), if_pos (nI_lt (by omega) (by omega))]
          · rw [if_neg h2, if_neg (nI_nlt (by omega) (by omega))]
    exact ⟨V, F3, vp_updL fo 0 (best3 (costN n p L 0) (costN n p L 1) (costN n p L 2)).toInt64, ⟨.inr _, _, h4, (fun E h => by cases h), h5, by rw [hF 0 (by decide)]; exact wr_i .., (fun _ => by simp [lwI, vp_updL]), rfl, rfl⟩, hJ3⟩
  · refine wi_th (b := 0) (t := 1) (E := "java/lang/IndexOutOfBoundsException") h (by decide) (by decide) (by decide) ?_ ?_
    · unfold dnX4_bestRule
      rw [demC0 hc hx, bx_l]
    · unfold dnX5_bestRule
      rw [bw_s, placeM0 hM hn n1 n40 hx, bp_s, right0 F (by decide), bs_s, if_pos rfl]
