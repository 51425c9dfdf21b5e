/-! the law's loop and its start -/
def cst (w : Int32) : Nat := (w &&& 31).toBitVec.toNat
theorem cst_lt (w : Int32) : cst w < 32 := by
  unfold cst
  have e : (w &&& 31).toBitVec = w.toBitVec &&& 31#32 := rfl
  rw [e, BitVec.toNat_and]
  exact Nat.lt_of_le_of_lt Nat.and_le_right (by decide)
theorem cst_eq (w : Int32) : w &&& 31 = nI (cst w) := by
  apply Int32.toBitVec_inj.mp
  show (w &&& 31).toBitVec = BitVec.ofNat 32 (w &&& 31).toBitVec.toNat
  simp
theorem sub6 {L i : Nat} (hL : L ≤ 3072) (hi : i ≤ 4000) : (nI L - 6 < nI i) ↔ L < i + 6 := by
  rw [Int32.lt_iff_toInt_lt, Int32.toInt_sub, nI_toInt (by omega), nI_toInt (by omega), show (6 : Int32).toInt = 6 from by decide, Int.bmod_def]
  split <;> omega
section LAWR
variable {p : Program} {l : Launch} {e : Env} {R : Room} {s : State} {m : MethodId} {args : Array Value} {below : List Frame} {meth : Method} {c : Code} {H : Heap} {locs : List Loc} {cells slots : Nat} {Q : State → Prop}
variable {Dd : va_G} {Y : yT} {A : Nat → Prop} {ls : Array Slot}
set_option maxRecDepth 100000 in
set_option maxHeartbeats 4000000 in
theorem law_loop (X : cx p s m args c cL_law 9 wsL_law RL Dd Y A) (hst : l.stackTraces = false) {cL : ClassId} (hKL : va_K Dd vwCl [(cL, .long)] s) {b L q : Nat} {xs : Nat → Int32} {ad : Nat → Nat → Nat} {am : Nat → Nat} (hX : va_X b L xs s s.heap) (hbl : b < s.heap.size) (hbA : ¬ A b) (hL : L ≤ 3072) (J : gX → gF → Prop)
    (HJ : ∀ (w x1 x2 x3 x4 x5 : Int32) (V : gX) (F : gF) (fo : Nat → Int64), J V F → ∃ V' F' fo', LR (cst w) x1 x2 x3 x4 x5 V F fo V' F' fo' ∧ J V' F')
    (hend : ∀ (H : Heap) (locs : List Loc) (ls : Array Slot) (cells slots : Nat), va_S A s.heap H locs → cells ≤ 601024 → slots ≤ 7293034 → W p l e room_1 s m args below meth c H locs cells slots Q (F0 m 1725 ls [.int 1])) :
    ∀ (n k : Nat), 6 * k ≤ L + 5 → L + 6 < n + 6 * k → ∀ (V : gX) (F : gF) (fo : Nat → Int64) (H : Heap) (locs : List Loc) (ls : Array Slot) (cells slots : Nat), J V F → cells ≤ 72 + 4 * k → slots ≤ 7560 + 24 * k → Wd Dd A s.heap (WL Y ad am q cL V fo F) H locs → lv_has ls 9 (LV b q (am 0) (ad 0 0) (6 * k)) → W p l e room_1 s m args below meth c H locs cells slots Q (F0 m 23 ls []) := by
  have hx := X.x
  have hb := X.b
  intro n
  induction n with
  | zero => intro k h1 h2; omega
  | succ n ih =>
    intro k hk1 hk2 V F fo H locs ls cells slots hJ hcl hsl hW hl
    generalize hik : 6 * k = i at hl
    refine lv_iload hx hb dL_law_23 (lv_at hl 0 rfl) ?_
    refine lv_aload_n hx hb dL_law_25 rfl (lv_at hl 4 rfl) ?_
    refine va_slen hx hb hX hbl hbA hW.2.2 dL_law_26 ?_
    refine lv_bipush (v := 6) hx hb dL_law_27 (by decide) ?_
    refine lv_isub hx hb dL_law_29 ?_
    refine lv_icmp_gt (tgt := 1724) hx hb dL_law_30 (by decide) (fun hc => ?_) (fun hc => ?_)
    · refine lv_iconst (v := 1) hx hb dL_law_1724 (by decide) ?_
      exact hend H locs ls cells slots hW.2.2 (by omega) (by omega)
    · have hi : i + 6 ≤ L := by
        rcases Nat.lt_or_ge L (i + 6) with h | h
        · exact absurd ((sub6 hL (by omega)).mpr h) hc
        · exact h
      refine lv_aload_n hx hb dL_law_33 rfl (lv_at hl 4 rfl) ?_
      refine lv_iload hx hb dL_law_34 (lv_at hl 0 rfl) ?_
      refine va_sld hx hb hX hbl hbA hW.2.2 (vp_in_nI (show i < L by omega) (by omega)) dL_law_36 ?_
      rw [nI_clamp (show i < 2 ^ 31 by omega)]
      refine lv_bipush (v := 31) hx hb dL_law_37 (by decide) ?_
      refine lv_iand hx hb dL_law_39 ?_
      obtain ⟨V', F', fo', hLR, hJ'⟩ := HJ (xs i) (xs (i + 1)) (xs (i + 2)) (xs (i + 3)) (xs (i + 4)) (xs (i + 5)) V F fo hJ
      rw [cst_eq]
      have hlt := cst_lt (xs i)
      have hcc : cells + 4 ≤ room_1.cells := Nat.le_trans (show cells + 4 ≤ 72 + 4 * 513 by omega) (by decide)
      have hss : slots + 24 ≤ room_1.slots := Nat.le_trans (show slots + 24 ≤ 7560 + 24 * 513 by omega) (by decide)
      have cont : ∀ (H : Heap) (locs : List Loc) (ls : Array Slot) (cells' slots' : Nat), cells' ≤ cells + 4 → slots' ≤ slots + 24 → Wd Dd A s.heap (WL Y ad am q cL V' fo' F') H locs → lv_has ls 9 (LV b q (am 0) (ad 0 0) i) → W p l e room_1 s m args below meth c H locs cells' slots' Q (F0 m 1718 ls []) := by
        intro H locs ls cells' slots' h1 h2 hW hl
        refine lv_iinc (v := nI (i + 6)) (lv' := LV b q (am 0) (ad 0 0) (i + 6)) hx hb dL_law_1718 hl (k := 0) rfl (nI_add i 6) (by decide) rfl (fun ls hl => ?_)
        refine lv_goto (tgt := 23) hx hb dL_law_1721 (by decide) ?_
        exact ih (k + 1) (by omega) (by omega) V' F' fo' H locs ls cells' slots' hJ' (by omega) (by omega) hW (by rw [show 6 * (k + 1) = i + 6 by omega]; exact hl)
      generalize cst (xs i) = n at hLR hlt ⊢
      match n, hlt, hLR with
      | 0, _, h =>
        refine lv_tableIn (off := 136) (tgt := 176) hx hb dL_law_40 (by decide) (by decide) rfl (by decide) ?_
        exact lc_0 X hst hKL hX hbl hbA hi hL h hW hl hcc hss cont
      | 1, _, h =>
        refine lv_tableIn (off := 209) (tgt := 249) hx hb dL_law_40 (by decide) (by decide) rfl (by decide) ?_
        exact lc_1 X hst hKL hX hbl hbA hi hL h hW hl hcc hss cont
      | 2, _, h =>
        refine lv_tableIn (off := 265) (tgt := 305) hx hb dL_law_40 (by decide) (by decide) rfl (by decide) ?_
        exact lc_2 X hst hKL hX hbl hbA hi hL h hW hl hcc hss cont
      | 3, _, h =>
        refine lv_tableIn (off := 278) (tgt := 318) hx hb dL_law_40 (by decide) (by decide) rfl (by decide) ?_
        exact lc_3 X hst hKL hX hbl hbA hi hL h hW hl hcc hss cont
      | 4, _, h =>
        refine lv_tableIn (off := 334) (tgt := 374) hx hb dL_law_40 (by decide) (by decide) rfl (by decide) ?_
        exact lc_4 X hst hKL hX hbl hbA hi hL h hW hl hcc hss cont
      | 5, _, h =>
        refine lv_tableIn (off := 390) (tgt := 430) hx hb dL_law_40 (by decide) (by decide) rfl (by decide) ?_
        exact lc_5 X hst hKL hX hbl hbA hi hL h hW hl hcc hss cont
      | 6, _, h =>
        refine lv_tableIn (off := 458) (tgt := 498) hx hb dL_law_40 (by decide) (by decide) rfl (by decide) ?_
        exact lc_6 X hst hKL hX hbl hbA hi hL h hW hl hcc hss cont
      | 7, _, h =>
        refine lv_tableIn (off := 521) (tgt := 561) hx hb dL_law_40 (by decide) (by decide) rfl (by decide) ?_
        exact lc_7 X hst hKL hX hbl hbA hi hL h hW hl hcc hss cont
      | 8, _, h =>
        refine lv_tableIn (off := 589) (tgt := 629) hx hb dL_law_40 (by decide) (by decide) rfl (by decide) ?_
        exact lc_8 X hst hKL hX hbl hbA hi hL h hW hl hcc hss cont
      | 9, _, h =>
        refine lv_tableIn (off := 657) (tgt := 697) hx hb dL_law_40 (by decide) (by decide) rfl (by decide) ?_
        exact lc_9 X hst hKL hX hbl hbA hi hL h hW hl hcc hss cont
      | 10, _, h =>
        refine lv_tableIn (off := 670) (tgt := 710) hx hb dL_law_40 (by decide) (by decide) rfl (by decide) ?_
        exact lc_10 X hst hKL hX hbl hbA hi hL h hW hl hcc hss cont
      | 11, _, h =>
        refine lv_tableIn (off := 726) (tgt := 766) hx hb dL_law_40 (by decide) (by decide) rfl (by decide) ?_
        exact lc_11 X hst hKL hX hbl hbA hi hL h hW hl hcc hss cont
      | 12, _, h =>
        refine lv_tableIn (off := 782) (tgt := 822) hx hb dL_law_40 (by decide) (by decide) rfl (by decide) ?_
        exact lc_12 X hst hKL hX hbl hbA hi hL h hW hl hcc hss cont
      | 13, _, h =>
        refine lv_tableIn (off := 838) (tgt := 878) hx hb dL_law_40 (by decide) (by decide) rfl (by decide) ?_
        exact lc_13 X hst hKL hX hbl hbA hi hL h hW hl hcc hss cont
      | 14, _, h =>
        refine lv_tableIn (off := 906) (tgt := 946) hx hb dL_law_40 (by decide) (by decide) rfl (by decide) ?_
        exact lc_14 X hst hKL hX hbl hbA hi hL h hW hl hcc hss cont
      | 15, _, h =>
        refine lv_tableIn (off := 962) (tgt := 1002) hx hb dL_law_40 (by decide) (by decide) rfl (by decide) ?_
        exact lc_15 X hst hKL hX hbl hbA hi hL h hW hl hcc hss cont
      | 16, _, h =>
        refine lv_tableIn (off := 975) (tgt := 1015) hx hb dL_law_40 (by decide) (by decide) rfl (by decide) ?_
        exact lc_16 X hst hKL hX hbl hbA hi hL h hW hl hcc hss cont
      | 17, _, h =>
        refine lv_tableIn (off := 1031) (tgt := 1071) hx hb dL_law_40 (by decide) (by decide) rfl (by decide) ?_
        exact lc_17 X hst hKL hX hbl hbA hi hL h hW hl hcc hss cont
      | 18, _, h =>
        refine lv_tableIn (off := 1087) (tgt := 1127) hx hb dL_law_40 (by decide) (by decide) rfl (by decide) ?_
        exact lc_18 X hst hKL hX hbl hbA hi hL h hW hl hcc hss cont
      | 19, _, h =>
        refine lv_tableIn (off := 1100) (tgt := 1140) hx hb dL_law_40 (by decide) (by decide) rfl (by decide) ?_
        exact lc_19 X hst hKL hX hbl hbA hi hL h hW hl hcc hss cont
      | 20, _, h =>
        refine lv_tableIn (off := 1143) (tgt := 1183) hx hb dL_law_40 (by decide) (by decide) rfl (by decide) ?_
        exact lc_20 X hst hKL hX hbl hbA hi hL h hW hl hcc hss cont
      | 21, _, h =>
        refine lv_tableIn (off := 1211) (tgt := 1251) hx hb dL_law_40 (by decide) (by decide) rfl (by decide) ?_
        exact lc_21 X hst hKL hX hbl hbA hi hL h hW hl hcc hss cont
      | 22, _, h =>
        refine lv_tableIn (off := 1279) (tgt := 1319) hx hb dL_law_40 (by decide) (by decide) rfl (by decide) ?_
        exact lc_22 X hst hKL hX hbl hbA hi hL h hW hl hcc hss cont
      | 23, _, h =>
        refine lv_tableIn (off := 1347) (tgt := 1387) hx hb dL_law_40 (by decide) (by decide) rfl (by decide) ?_
        exact lc_23 X hst hKL hX hbl hbA hi hL h hW hl hcc hss cont
      | 24, _, h =>
        refine lv_tableIn (off := 1403) (tgt := 1443) hx hb dL_law_40 (by decide) (by decide) rfl (by decide) ?_
        exact lc_24 X hst hKL hX hbl hbA hi hL h hW hl hcc hss cont
      | 25, _, h =>
        refine lv_tableIn (off := 1459) (tgt := 1499) hx hb dL_law_40 (by decide) (by decide) rfl (by decide) ?_
        exact lc_25 X hst hKL hX hbl hbA hi hL h hW hl hcc hss cont
      | 26, _, h =>
        refine lv_tableIn (off := 1527) (tgt := 1567) hx hb dL_law_40 (by decide) (by decide) rfl (by decide) ?_
        exact lc_26 X hst hKL hX hbl hbA hi hL h hW hl hcc hss cont
      | 27, _, h =>
        refine lv_tableIn (off := 1583) (tgt := 1623) hx hb dL_law_40 (by decide) (by decide) rfl (by decide) ?_
        exact lc_27 X hst hKL hX hbl hbA hi hL h hW hl hcc hss cont
      | 28, _, h =>
        refine lv_tableIn (off := 1651) (tgt := 1691) hx hb dL_law_40 (by decide) (by decide) rfl (by decide) ?_
        exact lc_28 X hst hKL hX hbl hbA hi hL h hW hl hcc hss cont
      | 29, _, h =>
        refine lv_tableIn (off := 1664) (tgt := 1704) hx hb dL_law_40 (by decide) (by decide) rfl (by decide) ?_
        exact lc_29 X hst hKL hX hbl hbA hi hL h hW hl hcc hss cont
      | 30, _, h =>
        obtain ⟨rfl, rfl, rfl⟩ := h
        refine lv_tableOut (tgt := 1718) hx hb dL_law_40 (Or.inr (by decide)) (by decide) ?_
        exact cont H locs ls cells slots (Nat.le_add_right _ _) (Nat.le_add_right _ _) hW hl
      | 31, _, h =>
        obtain ⟨rfl, rfl, rfl⟩ := h
        refine lv_tableOut (tgt := 1718) hx hb dL_law_40 (Or.inr (by decide)) (by decide) ?_
        exact cont H locs ls cells slots (Nat.le_add_right _ _) (Nat.le_add_right _ _) hW hl
      | n + 32, h, _ => omega
set_option maxRecDepth 100000 in
set_option maxHeartbeats 4000000 in
theorem law_start (X : cx p s m args c cL_law 9 wsL_law RL Dd Y A) (hst : l.stackTraces = false) {b L : Nat} {xs : Nat → Int32} (hX : va_X b L xs s s.heap) (hbl : b < s.heap.size) (hbA : ¬ A b) (hL : L ≤ 3072) (J : gX → gF → Prop)
    (HJ : ∀ (w x1 x2 x3 x4 x5 : Int32) (V : gX) (F : gF) (fo : Nat → Int64), J V F → ∃ V' F' fo', LR (cst w) x1 x2 x3 x4 x5 V F fo V' F' fo' ∧ J V' F')
    {G1 G2 G3 : gR} (g1 : dnX1_start G0 0 2 = some G1) (g2 : dnX1_addAtEnd G1 0 = some G2) (g3 : dnX1_buildAll G2 = some G3) {F1 F2 F3 : gF} (f1 : dnX5_put0 m0F 0 1 = some F1) (f2 : dnX5_put0 F1 2 2 = some F2) (f3 : dnX5_builds F2 = some F3) (hJ0 : J (X0g G3) F3)
    (hend : ∀ (H : Heap) (locs : List Loc) (ls : Array Slot) (cells slots : Nat), va_S A s.heap H locs → cells ≤ 601024 → slots ≤ 7293034 → W p l e room_1 s m args below meth c H locs cells slots Q (F0 m 1725 ls [.int 1]))
    (hl : lv_has ls 9 [(0, .ref b)]) : W p l e room_1 s m args below meth c s.heap [] 0 0 Q (F0 m 0 ls []) := by
  have hx := X.x
  have hb := X.b
  have hinX4 : ∀ w ∈ wsX40, w ∈ wsL_law := inlX4
  have hinX5 : ∀ w ∈ wsX50, w ∈ wsL_law := inlX5
  have hW : Wd Dd A s.heap ([] : va_W) s.heap [] := ⟨fun k q h => by simp at h, ⟨fun i j p q h => by simp at h, fun k q h => by simp at h⟩, va_S.rf⟩
  refine nw_ (ci := 4) X hinX4 tyX4 tyX4_ok 0 1 2 rfl rfl rfl hW rfl f4 (fun j hj => by rcases (show j = 0 ∨ j = 1 ∨ j = 2 ∨ j = 3 by omega) with rfl | rfl | rfl | rfl <;> rfl) (Nat.le_of_ble_eq_true rfl) (Nat.le_of_ble_eq_true rfl) dL_law_0 (fun qx H hW => ?_)
  refine lv_dup hx hb dL_law_3 rfl ?_
  refine cI_ (pre := []) X (kX4_init l Dd Y qx G1 G2 G3 g1 g2 g3) (cwI 0 X.1.2.2.2.2 gL_law_X4_init rfl rfl rfl (X.w (i := 2) rfl) (X.w (i := 7) rfl) (X.w (i := 8) rfl) rfl (by decide +kernel) ⟨(Nat.le_of_ble_eq_true rfl), (Nat.le_of_ble_eq_true rfl)⟩) hW hl.1 (Nat.le_of_ble_eq_true rfl) dL_law_4 ⟨(Nat.le_of_ble_eq_true rfl), (Nat.le_of_ble_eq_true rfl)⟩ (fun u H locs hW => ?_)
  obtain ⟨ad, had⟩ := u
  have hW : Wd Dd A s.heap (WX Y ad (X0g G3)) H locs := hW
  subst had
  refine lv_astore_n (lv' := [(1, .ref (ad 0 0)), (0, .ref b)]) hx hb dL_law_7 rfl hl (by decide) rfl (fun ls hl => ?_)
  refine nw_ (ci := 5) X hinX5 tyX5 tyX5_ok 3 4 5 rfl rfl rfl hW rfl f5 (fun j hj => by rcases (show j = 0 ∨ j = 1 ∨ j = 2 ∨ j = 3 ∨ j = 4 ∨ j = 5 ∨ j = 6 ∨ j = 7 ∨ j = 8 ∨ j = 9 ∨ j = 10 ∨ j = 11 ∨ j = 12 ∨ j = 13 ∨ j = 14 by omega) with rfl | rfl | rfl | rfl | rfl | rfl | rfl | rfl | rfl | rfl | rfl | rfl | rfl | rfl | rfl <;> rfl) (Nat.le_of_ble_eq_true rfl) (Nat.le_of_ble_eq_true rfl) dL_law_8 (fun qm H hW => ?_)
  refine lv_dup hx hb dL_law_11 rfl ?_
  refine cI_ (pre := WX Y ad (X0g G3)) X (kX5_init l Dd Y qm F1 F2 F3 f1 f2 f3) (cwI 0 X.1.2.2.2.2 gL_law_X5_init rfl rfl rfl (X.w (i := 5) rfl) (X.w (i := 108) rfl) (X.w (i := 109) rfl) rfl (by decide +kernel) ⟨(Nat.le_of_ble_eq_true rfl), (Nat.le_of_ble_eq_true rfl)⟩) hW hl.1 (Nat.le_of_ble_eq_true rfl) dL_law_12 ⟨(Nat.le_of_ble_eq_true rfl), (Nat.le_of_ble_eq_true rfl)⟩ (fun u H locs hW => ?_)
  obtain ⟨am, ham⟩ := u
  have hW : Wd Dd A s.heap (WX Y ad (X0g G3) ++ WM Y am F3) H locs := hW
  subst ham
  refine lv_astore_n (lv' := [(2, .ref (am 0)), (1, .ref (ad 0 0)), (0, .ref b)]) hx hb dL_law_15 rfl hl (by decide) rfl (fun ls hl => ?_)
  refine lv_iconst (v := 1) hx hb dL_law_16 (by decide) ?_
  refine va_newa (atype := .long) (ty := .long) (N' := 1) (a0 := (1, .inr (.inl (fun _ => 0)))) hx hb (X.w (i := 6) rfl) rfl X.2.1 hW.1 hW.2.1 hW.2.2 X.2.2.1 (fun cA => rfl) (by decide) rfl (by decide) (Nat.le_of_ble_eq_true rfl) (Nat.le_of_ble_eq_true rfl) dL_law_17 (fun q cL H hK2 h1 h2 h3 => ?_)
  have hKL : va_K Dd vwCl [(cL, .long)] s := hK2.sub [3] rfl
  have hW : Wd Dd A s.heap (WL Y ad am q cL (X0g G3) (fun _ => 0) F3) H locs := by
    refine Wd.perm ?_ (⟨h1, h2, h3⟩ : Wd Dd A s.heap ((WX Y ad (X0g G3) ++ WM Y am F3) ++ [(q, .inl (cL, 1, .inr (.inl (fun _ => 0))))]) H locs)
    exact pm _ _ (fun x => by simp only [WL, WQ, List.count_append]; omega)
  refine lv_astore_n (lv' := [(3, .ref q), (2, .ref (am 0)), (1, .ref (ad 0 0)), (0, .ref b)]) hx hb dL_law_19 rfl hl (by decide) rfl (fun ls hl => ?_)
  refine lv_iconst (v := 0) hx hb dL_law_20 (by decide) ?_
  refine lv_istore (lv' := LV b q (am 0) (ad 0 0) 0) hx hb dL_law_21 hl (by decide) rfl (fun ls hl => ?_)
  exact law_loop X hst hKL hX hbl hbA hL J HJ hend (L + 7) 0 (by omega) (by omega) (X0g G3) F3 _ H locs ls _ _ hJ0 (by decide) (by decide) hW hl
end LAWR
