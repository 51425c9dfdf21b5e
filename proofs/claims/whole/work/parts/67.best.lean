/-! bestRule: the reference plays it on the row and puts it back -/
def lkS (W : Nat → Bool) : kL → Nat
  | [] => 0
  | q :: L => cl W (q.2 + 1 - q.1) q.1 0 + lkS W L
theorem lkS_le {W : Nat → Bool} {n : Nat} : ∀ L : kL, (∀ q ∈ L, q.2 < n) → n ≤ 40 → lkS W L ≤ 122 * L.length := by
  intro L
  induction L with
  | nil => intro _ _; exact Nat.le_refl _
  | cons q L ih =>
    intro h hn
    have h1 := h q List.mem_cons_self
    have h2 := ih (fun p hp => h p (List.mem_cons_of_mem _ hp)) hn
    have h3 := cl_le W (q.2 + 1 - q.1) q.1 0
    rw [lkS, List.length_cons]
    omega
theorem i4 (p q A B : Int32) : (p + A) + (q + B) - (p + q) = A + B := by
  rw [show (p + A) + (q + B) = (A + B) + (p + q) from by
    rw [Int32.add_comm p A, Int32.add_assoc A p, ← Int32.add_assoc p q B, Int32.add_comm (p + q) B, ← Int32.add_assoc A B], Int32.add_sub_cancel]
def Bj (F : gF) (g : Nat → Int32) (j : Nat) : gF := fun a i => if a = 3 ∧ i < j then g i else F a i
theorem Bj_b {F : gF} {g : Nat → Int32} {j a : Nat} (h : a ≠ 3) : Bj F g j a = F a := by
  funext i; unfold Bj; rw [if_neg (fun q => h q.1)]
theorem Bj_u (F : gF) (g : Nat → Int32) (j : Nat) : wr (Bj F g j) 3 j (g j) = Bj F g (j + 1) := by
  funext a i
  by_cases ha : a = 3
  · subst ha
    simp only [wr, Bj, if_true, upd, true_and]
    by_cases e : i = j
    · rw [if_pos e, if_pos (by omega), e]
    · rw [if_neg e]
      by_cases h : i < j
      · rw [if_pos h, if_pos (by omega)]
      · rw [if_neg h, if_neg (by omega)]
  · simp only [wr, if_neg ha]
    rw [Bj_b ha, Bj_b ha]
theorem row_b {F F' : gF} {w : Nat} (h : F' 1 = F 1) : row F' w = row F w := by funext k; unfold row; rw [h]
theorem costBy2 {F : gF} {w : Nat} {x1 x2 : Int32} (hM : MS F w) : ∀ (N j : Nat), j ≤ 310 → 310 < N + j → lpX5_costBy_2 x1 x2 N (nI j) (Bj F (row F w) j) = some (0, Bj F (row F w) 310) := by
  intro N
  induction N with
  | zero => intro j q1 q2; omega
  | succ N ih =>
    intro j q1 q2
    unfold lpX5_costBy_2
    by_cases hj : 310 ≤ j
    · rw [if_pos (show (310 : Int32) ≤ nI j from nI_le (a := 310) hj (by omega)), show j = 310 by omega]
    · have hM2 : MS (Bj F (row F w) j) w := ⟨by rw [Bj_b (by decide)]; exact hM.1, hM.2⟩
      rw [if_neg (show ¬ (310 : Int32) ≤ nI j from nI_ge (b := 310) (by omega) (by omega)), getr hM2 (by omega), bp_s, row_b (F := F) (Bj_b (by decide)), wi_ok (by omega) (by decide), bw_s, Bj_u, nI_1]
      exact ih (j + 1) (by omega) (by omega)
theorem costBy34 {F : gF} {w : Nat} {x2 : Int32} (h : MS F w) : ∀ (N j : Nat) (g : Nat → Int32), j ≤ 40 → 40 < N + j → lpX5_costBy_34 x2 N (nI j) (st F w g) = some (0, st F w (clr j g)) := by
  intro N
  induction N with
  | zero => intro j g q1 q2; omega
  | succ N ih =>
    intro j g q1 q2
    unfold lpX5_costBy_34
    by_cases hj : 40 ≤ j
    · rw [if_pos (show (40 : Int32) ≤ nI j from nI_le (a := 40) hj (by omega)), show j = 40 by omega, clr_40]
    · rw [if_neg (show ¬ (40 : Int32) ≤ nI j from nI_ge (b := 40) (by omega) (by omega)), show (52 : Int32) = nI 52 from rfl, nI_add, put_ h (by omega), bp_s, nI_1, ih (j + 1) _ (by omega) (by omega), clr_u (by omega)]
theorem costBy152 {F : gF} {w : Nat} {x5 : Int32} {g g' : Nat → Int32} (h : MS F w) (h3 : ∀ j : Nat, j < 310 → F 3 j = g j) : ∀ (N j : Nat), j ≤ 310 → 310 < N + j → lpX5_costBy_152 x5 N (nI j) (st F w (cpM g g' j)) = some (0, st F w (cpM g g' 310)) := by
  intro N
  induction N with
  | zero => intro j q1 q2; omega
  | succ N ih =>
    intro j q1 q2
    unfold lpX5_costBy_152
    by_cases hj : 310 ≤ j
    · rw [if_pos (show (310 : Int32) ≤ nI j from nI_le (a := 310) hj (by omega)), show j = 310 by omega]
    · rw [if_neg (show ¬ (310 : Int32) ≤ nI j from nI_ge (b := 310) (by omega) (by omega)), ra_ok (by omega) (by decide), st_b (by decide), h3 j (by omega), put_ h (by omega), bp_s, cpM_u, nI_1]
      exact ih (j + 1) (by omega) (by omega)
theorem cost84 {F : gF} {w n : Nat} {x3 : Int32} {xw : Int64} {L : kL} (hM : MS F w) (hn : n ≤ 40) (hv : KLv n L) : ∀ (N k : Nat) (x4 : Int32) (g : Nat → Int32), k ≤ L.length → L.length < N + k → x4 ≤ 999 → g 0 = nI n → (∀ p : Nat, p < 40 → g (52 + p) = 0 ∨ g (52 + p) = 1) → (∀ p : Nat, p < 40 → (wb xw p = true ↔ g (52 + p) = 1)) → CW False g n → RKL g L → (¬ g 1 = 0 ∨ wc g n = 0) → ∃ g' : Nat → Int32, lpX5_costBy_84 x3 N x4 (nI k) (st F w g) = some (0, st F w g') ∧ g' 7 = g 7 + nI (lkS (wb xw) (L.drop k)) ∧ g' 8 = g 8 := by
  intro N
  induction N with
  | zero => intro k x4 g h1 h2; omega
  | succ N ih =>
    intro k x4 g h1 h2 hx4 h0 hB hx hC hL hnb
    have h8 := hL.1
    unfold lpX5_costBy_84
    rw [show (6 : Int32) = nI 6 from rfl, get_ hM (by decide), bp_s, hL.2.1]
    by_cases hk : L.length ≤ k
    · rw [if_pos (nI_le hk (by omega)), List.drop_eq_nil_of_le hk]
      exact ⟨g, rfl, by rw [lkS, show nI 0 = 0 from rfl, Int32.add_zero], rfl⟩
    · obtain ⟨a, b, q⟩ := kl_get (show k < L.length by omega)
      obtain ⟨v1, v2⟩ := hv k a b q
      obtain ⟨f1, f2⟩ := hL.2.2 k a b q
      obtain ⟨m1, m2⟩ := keptM (hM.s g) (show k < 8 by omega)
      rw [row_st (by omega), f1] at m1
      rw [row_st (by omega), f2] at m2
      obtain ⟨c, c1, c2, -, c3⟩ := asksM (S := False) hM h0 hn hB hx hC v1 v2 hnb
      have ek : ∀ i : Nat, i ≠ 7 → i ≠ 9 → upd (upd g 9 (g 9 + 1)) 7 (g 7 + nI (cl (wb xw) (b + 1 - a) a 0)) i = g i := fun i i1 i2 => by
        simp only [upd]; rw [if_neg i1, if_neg i2]
      obtain ⟨g', e, e7, e8⟩ := ih (k + 1) (if nI c < x4 then nI c else x4) (upd (upd g 9 (g 9 + 1)) 7 (g 7 + nI (cl (wb xw) (b + 1 - a) a 0))) (by omega) (by omega) (by
          by_cases z : nI c < x4
          · rw [if_pos z]; exact Int32.le_trans (Int32.le_of_lt z) hx4
          · rw [if_neg z]; exact hx4) (by rw [ek 0 (by decide) (by decide)]; exact h0) (fun p hp => by rw [ek _ (by omega) (by omega)]; exact hB p hp) (fun p hp => by rw [ek _ (by omega) (by omega)]; exact hx p hp) (fun l p k1 k2 k3 => by
          have hw := pw (show l < 6 by omega)
          obtain ⟨c, c1, c2, c3, -⟩ := hC l p k1 k2 k3
          exact ⟨c, by rw [ek _ (by omega) (by omega)]; exact c1, c2, c3, fun z => z.elim⟩) (hL.cg (fun i hi => ek i (by omega) (by omega))) (by
          rw [ek 1 (by decide) (by decide)]
          refine hnb.imp id (fun z => ?_)
          have : ∀ m : Nat, m ≤ 40 → wc (upd (upd g 9 (g 9 + 1)) 7 (g 7 + nI (cl (wb xw) (b + 1 - a) a 0))) m = wc g m := by
            intro m
            induction m with
            | zero => intro _; rfl
            | succ m ih => intro hm; rw [wc, wc, ih (by omega), ek _ (by omega) (by omega)]
          rw [this n hn]; exact z)
      rw [if_neg (nI_ge (by omega) (by omega)), if_neg (Int32.not_lt.mpr hx4), m1, bp_s, m2, bp_s, c3, bs_s, nI_1]
      refine ⟨g', e, ?_, ?_⟩
      · rw [e7, drop_s q, lkS]
        simp only [upd, if_true]
        rw [Int32.add_assoc, nI_add]
      · rw [e8]; exact ek 8 (by decide) (by decide)
theorem wc_1 {g : Nat → Int32} {x : Nat} (h : ∀ p : Nat, p < 40 → g (52 + p) = if p = x then 1 else 0) : ∀ m : Nat, m ≤ 40 → wc g m = if x < m then 1 else 0 := by
  intro m
  induction m with
  | zero => intro _; rw [if_neg (by omega)]; rfl
  | succ m ih =>
    intro hm
    rw [wc, ih (by omega), h m (by omega)]
    by_cases e : m = x
    · rw [if_pos e, if_neg (by omega), if_pos rfl, if_pos (by omega)]
    · rw [if_neg e]
      rw [if_neg (show ¬ (0 : Int32) = 1 by decide)]
      by_cases h2 : x < m
      · rw [if_pos h2, if_pos (by omega)]
      · rw [if_neg h2, if_neg (by omega)]
def costN (n x : Nat) (L : kL) : Nat → Nat
  | 0 => if L.length = 0 then 0 else cs (fun l => n + 1 - 2 ^ l) 5 + lkS (wb 0) L
  | 1 => cs (ov n x x) 5 + lkS (wb 0) L
  | _ => lkS (wb ((1 : Int64) <<< ((nI x).toInt64 &&& 63))) L
theorem played {F : gF} {w n x : Nat} {r : Nat} {x3 : Int32} {g0 : Nat → Int32} {L : kL} (hM : MS F w) (hr : r ≤ 2) (hn : n ≤ 40) (hx : x < n) (hv : KLv n L) (h0 : g0 0 = nI n) (h1 : g0 1 = nI r) (hm : ∃ m : Nat, 1 ≤ m ∧ m ≤ 8 ∧ g0 2 = nI m) (hz : ∀ p : Nat, p < 40 → g0 (52 + p) = 0) (hC : CW False g0 n) (hL : RKL g0 L) (hval : g0 (12 + x) ≤ 999) : ∃ g1 g2 : Nat → Int32, dnX5_sets (st F w g0) (nI x) (g0 (12 + x)) = some (g0 (12 + x), st F w g1) ∧ lpX5_costBy_84 x3 FU (g0 (12 + x)) 0 (st F w g1) = some (0, st F w g2) ∧ (g2 7 + g2 8) - (g0 7 + g0 8) = nI (costN n x L r) := by
  have h8 := hL.1
  have hB : ∀ p : Nat, p < 40 → g0 (52 + p) = 0 ∨ g0 (52 + p) = 1 := fun p hp => Or.inl (hz p hp)
  by_cases hr1 : r = 1
  · subst hr1
    obtain ⟨g1, e1, hI, hW⟩ := setsM1 (v := g0 (12 + x)) (Q := fun _ _ => False) hM h0 hn hx h1 (fun l p _ _ _ q => q.elim)
    have ek : ∀ k : Nat, k ≠ 8 → (k < 92 ∨ 292 ≤ k) → g1 k = g0 k := fun k k1 k2 => by
      rw [hI.1 k k1 k2]; simp only [upd]
      by_cases e : k = 12 + x
      · rw [if_pos e, e]
      · rw [if_neg e]
    obtain ⟨g2, e2, e7, e8⟩ := cost84 (x3 := x3) (xw := 0) (L := L) hM hn hv FU 0 (g0 (12 + x)) g1 (by omega) (by unfold FU; omega) hval (by rw [ek 0 (by decide) (by decide)]; exact h0) (fun p hp => by rw [ek _ (by omega) (by omega)]; exact hB p hp) (fun p hp => ⟨fun q => absurd q (wb0 p), fun q => by rw [ek _ (by omega) (by omega), hz p hp] at q; exact absurd q (by decide)⟩) (hW hC) (hL.cg (fun k hk => ek k (by omega) (by omega))) (Or.inl (by rw [ek 1 (by decide) (by decide), h1]; decide))
    refine ⟨g1, g2, e1, e2, ?_⟩
    rw [e7, e8, hI.2.1, ek 7 (by decide) (by decide)]
    simp only [upd]
    rw [if_neg (by omega), i4, nI_add]
    show nI (lkS (wb 0) L + cs (ov n x x) 5) = nI (cs (ov n x x) 5 + lkS (wb 0) L)
    rw [Nat.add_comm]
  · have hne : ¬ g0 1 = 1 := by
      rw [h1]; intro q
      have := (nI_eq (b := 1) (by omega) (by omega)).mp q
      exact hr1 this
    have ew : ∀ p : Nat, p < 40 → upd (upd g0 (12 + x) (g0 (12 + x))) (52 + x) 1 (52 + p) = if p = x then 1 else 0 := fun p hp => by
      simp only [upd]
      by_cases e : p = x
      · rw [if_pos e, if_pos (by omega)]
      · rw [if_neg e, if_neg (by omega), if_neg (by omega)]; exact hz p hp
    have ek : ∀ k : Nat, k ≠ 52 + x → upd (upd g0 (12 + x) (g0 (12 + x))) (52 + x) 1 k = g0 k := fun k k1 => by
      simp only [upd]; rw [if_neg k1]
      by_cases e : k = 12 + x
      · rw [if_pos e, e]
      · rw [if_neg e]
    have hwc : wc (upd (upd g0 (12 + x) (g0 (12 + x))) (52 + x) 1) n = 1 := by rw [wc_1 ew n hn, if_pos hx]
    have hBn : ∀ p : Nat, p < 40 → upd (upd g0 (12 + x) (g0 (12 + x))) (52 + x) 1 (52 + p) = 0 ∨ upd (upd g0 (12 + x) (g0 (12 + x))) (52 + x) 1 (52 + p) = 1 := fun p hp => by
      rw [ew p hp]; by_cases e : p = x
      · rw [if_pos e]; exact Or.inr rfl
      · rw [if_neg e]; exact Or.inl rfl
    have hCn : CW False (upd (upd g0 (12 + x) (g0 (12 + x))) (52 + x) 1) n := fun l p k1 k2 k3 => by
      have hw := pw (show l < 6 by omega)
      obtain ⟨c, c1, c2, c3, -⟩ := hC l p k1 k2 k3
      exact ⟨c, by rw [ek _ (by omega)]; exact c1, c2, c3, fun z => z.elim⟩
    have hLn : RKL (upd (upd g0 (12 + x) (g0 (12 + x))) (52 + x) 1) L := hL.cg (fun k hk => ek k (by omega))
    obtain ⟨m, m1, m8, hm2⟩ := hm
    have e1 := setsM0 (v := g0 (12 + x)) hM h0 hn hx hB hne (Or.inr (by rw [hwc, hm2]; exact nI_le m1 (by omega)))
    by_cases hr0 : r = 0
    · subst hr0
      by_cases hk : L.length = 0
      · refine ⟨_, upd (upd g0 (12 + x) (g0 (12 + x))) (52 + x) 1, e1, ?_, ?_⟩
        · rw [show FU = (FU - 1) + 1 from rfl]
          unfold lpX5_costBy_84
          rw [show (6 : Int32) = nI 6 from rfl, get_ hM (by decide), bp_s, hLn.2.1, hk, if_pos (show nI 0 ≤ 0 from Int32.le_refl _)]
        · rw [ek 7 (by omega), ek 8 (by omega), costN, if_pos hk, Int32.sub_self]; rfl
      · obtain ⟨a, b, q⟩ := kl_get (show 0 < L.length by omega)
        obtain ⟨v1, v2⟩ := hv 0 a b q
        obtain ⟨f1, f2⟩ := hLn.2.2 0 a b q
        have hM3 := hM.s (upd (upd g0 (12 + x) (g0 (12 + x))) (52 + x) 1)
        obtain ⟨m1', m2'⟩ := keptM hM3 (show 0 < 8 by omega)
        rw [row_st (by omega), f1] at m1'
        rw [row_st (by omega), f2] at m2'
        obtain ⟨gb, eB, b0, b8, b10, bw, bc⟩ := buildsM hM (show upd (upd g0 (12 + x) (g0 (12 + x))) (52 + x) 1 0 = nI n by rw [ek 0 (by omega)]; exact h0) hn
        have hCb : CW False gb n := fun l p k1 k2 k3 => by
          have hw := pw (show l < 6 by omega)
          have hb := lm_b (upd (upd g0 (12 + x) (g0 (12 + x))) (52 + x) 1) p (2 ^ l - 1)
          exact ⟨_, bc l p k1 k2 k3, hb.1, by omega, fun z => z.elim⟩
        have hgb0 : gb 0 = nI n := by rw [b0 0 (by decide) (by decide) (by decide), ek 0 (by omega)]; exact h0
        obtain ⟨c, c1, c2, -, c3⟩ := asksB (S := False) hM (show upd (upd g0 (12 + x) (g0 (12 + x))) (52 + x) 1 0 = nI n by rw [ek 0 (by omega)]; exact h0) hn hBn (by rw [ek 1 (by omega)]; exact h1) (by rw [hwc]; decide) eB hgb0 bw hCb v1 v2
        have ek2 : ∀ i : Nat, i ≠ 7 → i ≠ 9 → upd (upd gb 9 (gb 9 + 1)) 7 (gb 7 + nI (cl (wb 0) (b + 1 - a) a 0)) i = gb i := fun i i1 i2 => by
          simp only [upd]; rw [if_neg i1, if_neg i2]
        obtain ⟨g2, e2, e7, e8⟩ := cost84 (x3 := x3) (xw := 0) (L := L) hM hn hv (FU - 1) 1 (if nI c < g0 (12 + x) then nI c else g0 (12 + x)) (upd (upd gb 9 (gb 9 + 1)) 7 (gb 7 + nI (cl (wb 0) (b + 1 - a) a 0))) (by omega) (by unfold FU; omega) (by
          by_cases z : nI c < g0 (12 + x)
          · rw [if_pos z]; exact Int32.le_trans (Int32.le_of_lt z) hval
          · rw [if_neg z]; exact hval) (by rw [ek2 0 (by decide) (by decide)]; exact hgb0) (fun p hp => by rw [ek2 _ (by omega) (by omega)]; exact Or.inl (bw p hp)) (fun p hp => ⟨fun q => absurd q (wb0 p), fun q => by rw [ek2 _ (by omega) (by omega), bw p hp] at q; exact absurd q (by decide)⟩) (fun l p k1 k2 k3 => by
          have hw := pw (show l < 6 by omega)
          obtain ⟨c, c1, c2, c3, -⟩ := hCb l p k1 k2 k3
          exact ⟨c, by rw [ek2 _ (by omega) (by omega)]; exact c1, c2, c3, fun z => z.elim⟩) (hLn.cg (fun i hi => by rw [ek2 i (by omega) (by omega), b0 i (by omega) (by omega) (by omega)])) (Or.inr (by
          have : ∀ m : Nat, m ≤ 40 → wc (upd (upd gb 9 (gb 9 + 1)) 7 (gb 7 + nI (cl (wb 0) (b + 1 - a) a 0))) m = 0 := fun m hm => wc_0 m (fun p hp => by rw [ek2 _ (by omega) (by omega)]; exact bw p (by omega))
          exact this n hn))
        refine ⟨_, g2, e1, ?_, ?_⟩
        · rw [show FU = (FU - 1) + 1 from rfl]
          conv => lhs; unfold lpX5_costBy_84
          rw [show (6 : Int32) = nI 6 from rfl, get_ hM (by decide), bp_s, hLn.2.1, if_neg (show ¬ nI L.length ≤ 0 from nI_nle (by omega) (by omega)), if_neg (Int32.not_lt.mpr hval), show (0 : Int32) = nI 0 from rfl, m1', bp_s, m2', bp_s, c3, bs_s, nI_1]
          exact e2
        · rw [e7, e8, ek2 8 (by decide) (by decide), b8, ek 8 (by omega)]
          simp only [upd, if_true]
          rw [b0 7 (by decide) (by decide) (by decide), ek 7 (by omega), Int32.add_assoc (g0 7), i4, nI_add, nI_add]
          have ed : lkS (wb 0) L = cl (wb 0) (b + 1 - a) a 0 + lkS (wb 0) (L.drop 1) := by
            have := drop_s q
            rw [List.drop_zero] at this
            rw [this]; rfl
          rw [costN, if_neg hk, ed]
          congr 1
          omega
    · have hr2 : r = 2 := by omega
      subst hr2
      obtain ⟨g2, e2, e7, e8⟩ := cost84 (x3 := x3) (xw := (1 : Int64) <<< ((nI x).toInt64 &&& 63)) (L := L) hM hn hv FU 0 (g0 (12 + x)) _ (by omega) (by unfold FU; omega) hval (by rw [ek 0 (by omega)]; exact h0) hBn (fun p hp => by
        rw [shl_b x (by omega) p (by omega), ew p hp]
        by_cases e : p = x
        · rw [if_pos e]; exact ⟨fun _ => rfl, fun _ => e⟩
        · rw [if_neg e]; exact ⟨fun z => absurd z e, fun z => absurd z (by decide)⟩) hCn hLn (Or.inl (by rw [ek 1 (by omega), h1]; decide))
      refine ⟨_, g2, e1, e2, ?_⟩
      have e := i4 (g0 7) (g0 8) (nI (lkS (wb ((1 : Int64) <<< ((nI x).toInt64 &&& 63))) (L.drop 0))) 0
      rw [Int32.add_zero, Int32.add_zero] at e
      rw [e7, e8, ek 7 (by omega), ek 8 (by omega), e]
      rfl
