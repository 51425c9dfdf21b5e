abbrev rmX4_append : Room := { frames := 1, cells := 0, slots := 0, locals := 22 }
set_option maxRecDepth 100000 in
set_option maxHeartbeats 4000000 in
theorem kX4_append (l : Launch) (Dd : va_G) (Y : yT) (ad : Nat → Nat → Nat) (V : gX) (x1 : Int32) (x2 : Int32) (x3 : Int32) (x4 : Int32) (x5 : Int32) (r : Int32) (V' : gX) (hd : dnX4_append V x1 x2 x3 x4 x5 = some (r, V')) : MG l yX4_append wsX4_append rmX4_append Dd Y [.ref (ad 0 0), .int x1, .int x2, .int x3, .int x4, .int x5] (WX Y ad V) (WX Y ad V') (some (.int r)) := by
  refine MGi (cc := cX4_append) (maxL := 6) (ty := .int) (by decide) rfl (Nat.le_of_ble_eq_true rfl) (fun {p e s m args below meth c A} ls Q X hW hl hQ => ?_)
  have hx := X.x
  have hb := X.b
  have hl : lv_has ls 6 [(0, .ref (ad 0 0)), (1, .int x1), (2, .int x2), (3, .int x3), (4, .int x4), (5, .int x5)] := hl
  have hinX2 : ∀ w ∈ wsX20, w ∈ wsX4_append := fun w h => List.mem_cons_of_mem _ (List.mem_append_right _ h)
  have hinX4 : ∀ w ∈ wsX40, w ∈ wsX4_append := fun w h => List.mem_cons_of_mem _ (List.mem_append_left _ (List.mem_append_right _ h))
  unfold dnX4_append at hd
  refine lv_aload_n hx hb dX4_append_0 rfl (lv_at hl 0 rfl) ?_
  refine g_ X hinX4 hW 0 rfl rfl 2 (by decide) 1 rfl rfl rfl dX4_append_1 ?_
  refine g_ X hinX2 hW 7 rfl rfl 1 (by decide) 2 rfl rfl rfl dX4_append_4 ?_
  refine lv_sipush (v := 480) hx hb dX4_append_7 (by decide) ?_
  refine lv_icmp_le (tgt := 15) hx hb dX4_append_10 (by decide) (fun c1 => ?_) (fun c1 => ?_)
  · replace hd := if_t c1 hd
    refine lv_aload_n hx hb dX4_append_15 rfl (lv_at hl 0 rfl) ?_
    refine g_ X hinX4 hW 0 rfl rfl 2 (by decide) 1 rfl rfl rfl dX4_append_16 ?_
    refine lv_iload_n hx hb dX4_append_19 rfl (lv_at hl 1 rfl) ?_
    obtain ⟨D3, h2, hd⟩ := bp_e hd
    refine cVmv_ (wc := (WD Y (ad 3) (ad 4) V.2.2.1)) (w1 := (WD Y (ad 3) (ad 4) D3)) (ws' := (WX Y ad (V.1, V.2.1, D3, V.2.2.2))) (rest := []) X (kX2_addWord l Dd Y (ad 3) (ad 4) V.2.2.1 x1 D3 h2) (cwV 1 X.1.2.2.2.2 gX4_append_X2_addWord rfl rfl rfl (by decide +kernel) ⟨Nat.le_of_ble_eq_true rfl, Nat.le_of_ble_eq_true rfl⟩) hW (px_d Y ad V) (px_d Y ad (V.1, V.2.1, D3, V.2.2.2)).symm 0 2 rfl rfl rfl rfl hl.1 rfl (Nat.le_of_ble_eq_true rfl) dX4_append_20 ⟨Nat.zero_le _, Nat.zero_le _⟩ (fun H locs hW => ?_)
    refine lv_aload_n hx hb dX4_append_23 rfl (lv_at hl 0 rfl) ?_
    refine g_ X hinX4 hW 0 rfl rfl 2 (by decide) 1 rfl rfl rfl dX4_append_24 ?_
    refine lv_iload_n hx hb dX4_append_27 rfl (lv_at hl 2 rfl) ?_
    obtain ⟨D5, h4, hd⟩ := bp_e hd
    refine cVmv_ (wc := (WD Y (ad 3) (ad 4) D3)) (w1 := (WD Y (ad 3) (ad 4) D5)) (ws' := (WX Y ad (V.1, V.2.1, D5, V.2.2.2))) (rest := []) X (kX2_addWord l Dd Y (ad 3) (ad 4) D3 x2 D5 h4) (cwV 1 X.1.2.2.2.2 gX4_append_X2_addWord rfl rfl rfl (by decide +kernel) ⟨Nat.le_of_ble_eq_true rfl, Nat.le_of_ble_eq_true rfl⟩) hW (px_d Y ad (V.1, V.2.1, D3, V.2.2.2)) (px_d Y ad (V.1, V.2.1, D5, V.2.2.2)).symm 0 2 rfl rfl rfl rfl hl.1 rfl (Nat.le_of_ble_eq_true rfl) dX4_append_28 ⟨Nat.zero_le _, Nat.zero_le _⟩ (fun H locs hW => ?_)
    refine lv_aload_n hx hb dX4_append_31 rfl (lv_at hl 0 rfl) ?_
    refine g_ X hinX4 hW 0 rfl rfl 2 (by decide) 1 rfl rfl rfl dX4_append_32 ?_
    refine lv_iload_n hx hb dX4_append_35 rfl (lv_at hl 3 rfl) ?_
    obtain ⟨D7, h6, hd⟩ := bp_e hd
    refine cVmv_ (wc := (WD Y (ad 3) (ad 4) D5)) (w1 := (WD Y (ad 3) (ad 4) D7)) (ws' := (WX Y ad (V.1, V.2.1, D7, V.2.2.2))) (rest := []) X (kX2_addWord l Dd Y (ad 3) (ad 4) D5 x3 D7 h6) (cwV 1 X.1.2.2.2.2 gX4_append_X2_addWord rfl rfl rfl (by decide +kernel) ⟨Nat.le_of_ble_eq_true rfl, Nat.le_of_ble_eq_true rfl⟩) hW (px_d Y ad (V.1, V.2.1, D5, V.2.2.2)) (px_d Y ad (V.1, V.2.1, D7, V.2.2.2)).symm 0 2 rfl rfl rfl rfl hl.1 rfl (Nat.le_of_ble_eq_true rfl) dX4_append_36 ⟨Nat.zero_le _, Nat.zero_le _⟩ (fun H locs hW => ?_)
    refine lv_aload_n hx hb dX4_append_39 rfl (lv_at hl 0 rfl) ?_
    refine g_ X hinX4 hW 0 rfl rfl 2 (by decide) 1 rfl rfl rfl dX4_append_40 ?_
    refine lv_iload hx hb dX4_append_43 (lv_at hl 4 rfl) ?_
    obtain ⟨D9, h8, hd⟩ := bp_e hd
    refine cVmv_ (wc := (WD Y (ad 3) (ad 4) D7)) (w1 := (WD Y (ad 3) (ad 4) D9)) (ws' := (WX Y ad (V.1, V.2.1, D9, V.2.2.2))) (rest := []) X (kX2_addWord l Dd Y (ad 3) (ad 4) D7 x4 D9 h8) (cwV 1 X.1.2.2.2.2 gX4_append_X2_addWord rfl rfl rfl (by decide +kernel) ⟨Nat.le_of_ble_eq_true rfl, Nat.le_of_ble_eq_true rfl⟩) hW (px_d Y ad (V.1, V.2.1, D7, V.2.2.2)) (px_d Y ad (V.1, V.2.1, D9, V.2.2.2)).symm 0 2 rfl rfl rfl rfl hl.1 rfl (Nat.le_of_ble_eq_true rfl) dX4_append_45 ⟨Nat.zero_le _, Nat.zero_le _⟩ (fun H locs hW => ?_)
    refine lv_aload_n hx hb dX4_append_48 rfl (lv_at hl 0 rfl) ?_
    refine g_ X hinX4 hW 0 rfl rfl 2 (by decide) 1 rfl rfl rfl dX4_append_49 ?_
    refine lv_iload hx hb dX4_append_52 (lv_at hl 5 rfl) ?_
    obtain ⟨D11, h10, hd⟩ := bp_e hd
    refine cVmv_ (wc := (WD Y (ad 3) (ad 4) D9)) (w1 := (WD Y (ad 3) (ad 4) D11)) (ws' := (WX Y ad (V.1, V.2.1, D11, V.2.2.2))) (rest := []) X (kX2_addWord l Dd Y (ad 3) (ad 4) D9 x5 D11 h10) (cwV 1 X.1.2.2.2.2 gX4_append_X2_addWord rfl rfl rfl (by decide +kernel) ⟨Nat.le_of_ble_eq_true rfl, Nat.le_of_ble_eq_true rfl⟩) hW (px_d Y ad (V.1, V.2.1, D9, V.2.2.2)) (px_d Y ad (V.1, V.2.1, D11, V.2.2.2)).symm 0 2 rfl rfl rfl rfl hl.1 rfl (Nat.le_of_ble_eq_true rfl) dX4_append_54 ⟨Nat.zero_le _, Nat.zero_le _⟩ (fun H locs hW => ?_)
    refine lv_aload_n hx hb dX4_append_57 rfl (lv_at hl 0 rfl) ?_
    refine g_ X hinX4 hW 0 rfl rfl 2 (by decide) 1 rfl rfl rfl dX4_append_58 ?_
    refine g_ X hinX2 hW 7 rfl rfl 1 (by decide) 2 rfl rfl rfl dX4_append_61 ?_
    obtain ⟨rfl, rfl⟩ := Prod.mk.inj (Option.some.inj hd)
    exact hQ _ _ _ _ rfl hW dX4_append_64
  · replace hd := if_f c1 hd
    refine lv_iconst (v := (-1)) hx hb dX4_append_13 (by decide) ?_
    obtain ⟨rfl, rfl⟩ := Prod.mk.inj (Option.some.inj hd)
    exact hQ _ _ _ _ rfl hW dX4_append_14
abbrev rmX4_load : Room := { frames := 7, cells := 1, slots := 6, locals := 157 }
set_option maxRecDepth 100000 in
set_option maxHeartbeats 4000000 in
theorem kX4_load (l : Launch) (hst : l.stackTraces = false) (Dd : va_G) (Y : yT) (ad : Nat → Nat → Nat) (V : gX) (x1 : Int32) (o : oX (Int32 × gX)) (hd : dnX4_load V x1 = some o) : MX l yX4_load wsX4_load rmX4_load Dd Y [.ref (ad 0 0), .int x1] (WX Y ad V) (oS Y ad o) 1 6 := by
  refine MXk (cc := cX4_load) (maxL := 3) (ret := some .int) hst rfl (by decide) rfl (Nat.le_of_ble_eq_true rfl) rfl rfl (fun {p e s m args below meth c A} ls Q X hW hl hI hV hT hN => ?_)
  have hx := X.x
  have hb := X.b
  have hl : lv_has ls 3 [(0, .ref (ad 0 0)), (1, .int x1)] := hl
  have hinX2 : ∀ w ∈ wsX20, w ∈ wsX4_load := fun w h => List.mem_cons_of_mem _ (List.mem_append_left _ (List.mem_append_left _ (List.mem_append_left _ (List.mem_append_left _ (List.mem_append_left _ (List.mem_append_right _ h))))))
  have hinX4 : ∀ w ∈ wsX40, w ∈ wsX4_load := fun w h => List.mem_cons_of_mem _ (List.mem_append_left _ (List.mem_append_left _ (List.mem_append_left _ (List.mem_append_left _ (List.mem_append_left _ (List.mem_append_left _ (List.mem_append_right _ h)))))))
  unfold dnX4_load at hd
  refine lv_iload_n hx hb dX4_load_0 rfl (lv_at hl 1 rfl) ?_
  refine lv_if_lt (tgt := 15) hx hb dX4_load_1 (by decide) (fun c1 => ?_) (fun c1 => ?_)
  · replace hd := if_t c1 hd
    obtain rfl := Option.some.inj hd
    exact hN _ _ _ _ _ 15 _ "java/lang/IllegalArgumentException" "length is not within the buffer" 51 53 55 1 2 0 rfl (by decide) rfl rfl rfl (by rw [show atE 55 "java/lang/IllegalArgumentException" = _ from atE_s (by decide)]; exact fun w h => List.mem_cons_of_mem _ (List.mem_append_right _ h)) hW hl.1 (Nat.le_of_ble_eq_true rfl) dX4_load_15 dX4_load_18 dX4_load_19 dX4_load_21 dX4_load_24 (Nat.le_of_ble_eq_true rfl) (Nat.le_of_ble_eq_true rfl) (Nat.le_of_ble_eq_true rfl) (Nat.le_of_ble_eq_true rfl)
  · replace hd := if_f c1 hd
    refine lv_iload_n hx hb dX4_load_4 rfl (lv_at hl 1 rfl) ?_
    refine lv_aload_n hx hb dX4_load_5 rfl (lv_at hl 0 rfl) ?_
    refine g_ X hinX4 hW 0 rfl rfl 2 (by decide) 3 rfl rfl rfl dX4_load_6 ?_
    refine g_ X hinX2 hW 7 rfl rfl 1 (by decide) 4 rfl rfl rfl dX4_load_9 ?_
    refine lv_icmp_le (tgt := 25) hx hb dX4_load_12 (by decide) (fun c2 => ?_) (fun c2 => ?_)
    · replace hd := if_t c2 hd
      refine lv_aload_n hx hb dX4_load_25 rfl (lv_at hl 0 rfl) ?_
      refine g_ X hinX4 hW 0 rfl rfl 2 (by decide) 3 rfl rfl rfl dX4_load_26 ?_
      refine lv_iload_n hx hb dX4_load_29 rfl (lv_at hl 1 rfl) ?_
      obtain ⟨r4, D5, h3, hd⟩ := bs_e hd
      refine cVmi_ (wc := (WD Y (ad 3) (ad 4) V.2.2.1)) (w1 := (WD Y (ad 3) (ad 4) D5)) (ws' := (WX Y ad (V.1, V.2.1, D5, V.2.2.2))) (rest := []) X (kX2_read l Dd Y (ad 3) (ad 4) V.2.2.1 x1 r4 D5 h3) (cwV 1 X.1.2.2.2.2 gX4_load_X2_read rfl rfl rfl (by decide +kernel) ⟨Nat.le_of_ble_eq_true rfl, Nat.le_of_ble_eq_true rfl⟩) hW (px_d Y ad V) (px_d Y ad (V.1, V.2.1, D5, V.2.2.2)).symm 0 2 rfl rfl rfl rfl hl.1 rfl (Nat.le_of_ble_eq_true rfl) dX4_load_30 ⟨Nat.le_of_ble_eq_true rfl, Nat.le_of_ble_eq_true rfl⟩ (fun H locs hW => ?_)
      refine lv_istore_n (lv' := [(2, .int r4), (0, .ref (ad 0 0)), (1, .int x1)]) hx hb dX4_load_33 rfl hl (by decide) rfl (fun ls hl => ?_)
      refine lv_aload_n hx hb dX4_load_34 rfl (lv_at hl 1 rfl) ?_
      refine g_ X hinX4 hW 0 rfl rfl 2 (by decide) 3 rfl rfl rfl dX4_load_35 ?_
      refine lv_iconst (v := 0) hx hb dX4_load_38 (by decide) ?_
      obtain ⟨F6, eF6, hd⟩ := bw_e hd
      refine p_ (ty := .int) X hinX2 tyX2 tyX2_ok nmX2 hW 7 rfl rfl 1 (by decide) 4 rfl rfl rfl (by decide +kernel) rfl rfl (Nat.le_of_ble_eq_true rfl) dX4_load_39 (ws' := (WX Y ad (V.1, V.2.1, (F6, D5.2), V.2.2.2))) (by rw [eF6]; rfl) (fun H locs hW => ?_)
      refine lv_aload_n hx hb dX4_load_42 rfl (lv_at hl 1 rfl) ?_
      refine lv_aload_n hx hb dX4_load_43 rfl (lv_at hl 1 rfl) ?_
      refine g_ X hinX4 hW 0 rfl rfl 2 (by decide) 3 rfl rfl rfl dX4_load_44 ?_
      refine g_ X hinX2 hW 7 rfl rfl 4 (by decide) 5 rfl rfl rfl dX4_load_47 ?_
      obtain ⟨F7, eF7, hd⟩ := bw_e hd
      refine p_ (ty := .int) X hinX4 tyX4 tyX4_ok nmX4 hW 0 rfl rfl 3 (by decide) 6 rfl rfl rfl (by decide +kernel) rfl rfl (Nat.le_of_ble_eq_true rfl) dX4_load_50 (ws' := (WX Y ad (F7, V.2.1, (F6, D5.2), V.2.2.2))) (by rw [eF7]; rfl) (fun H locs hW => ?_)
      refine lv_aload_n hx hb dX4_load_53 rfl (lv_at hl 1 rfl) ?_
      refine g_ X hinX4 hW 0 rfl rfl 2 (by decide) 3 rfl rfl rfl dX4_load_54 ?_
      refine g_ X hinX2 hW 7 rfl rfl 3 (by decide) 7 rfl rfl rfl dX4_load_57 ?_
      refine lv_if_ne (tgt := 88) hx hb dX4_load_60 (by decide) (fun c8 => ?_) (fun c8 => ?_)
      · replace hd := if_f c8 hd
        refine lv_iload_n hx hb dX4_load_88 rfl (lv_at hl 0 rfl) ?_
        obtain rfl := Option.some.inj hd
        exact hI _ _ _ _ _ _ _ _ _ rfl rfl rfl (Nat.le_of_ble_eq_true rfl) (Nat.le_of_ble_eq_true rfl) hW dX4_load_89
      · replace hd := if_t c8 hd
        refine lv_aload_n hx hb dX4_load_63 rfl (lv_at hl 1 rfl) ?_
        refine g_ X hinX4 hW 0 rfl rfl 1 (by decide) 8 rfl rfl rfl dX4_load_64 ?_
        refine lv_aload_n hx hb dX4_load_67 rfl (lv_at hl 1 rfl) ?_
        refine g_ X hinX4 hW 0 rfl rfl 0 (by decide) 9 rfl rfl rfl dX4_load_68 ?_
        obtain ⟨hi12, hd⟩ := wi_e hd
        obtain ⟨H13, eH13, hd⟩ := bw_e hd
        obtain ⟨j11, hjj11, ejj11⟩ := vp_in_of hi12 (by decide)
        rw [show (V.2.2.2.1 0 1).toNatClampNeg = j11 from by rw [ejj11]; exact nI_clamp (by omega)] at eH13
        refine cVmv_ (rest := []) (post := px_hh Y ad (F7, V.2.1, (F6, D5.2), V.2.2.2)) (ws' := (WX Y ad (F7, V.2.1, (F6, D5.2), H13))) X (kX0_save l Dd Y (ad 2) (fun k => ad (5 + k)) (ad 1) V.2.2.2.1 V.2.2.2.2 V.2.1 j11 hjj11 ejj11) (cwV 1 X.1.2.2.2.2 gX4_load_X0_save rfl rfl rfl (by decide +kernel) ⟨Nat.le_of_ble_eq_true rfl, Nat.le_of_ble_eq_true rfl⟩) hW (px_h Y ad (F7, V.2.1, (F6, D5.2), V.2.2.2)) (by rw [eH13]; exact (px_h Y ad (F7, V.2.1, (F6, D5.2), (hSave V.2.2.2.1, va_up V.2.2.2.2 j11 V.2.1))).symm) 0 0 rfl rfl rfl rfl hl.1 rfl (Nat.le_of_ble_eq_true rfl) dX4_load_71 ⟨Nat.le_of_ble_eq_true rfl, Nat.le_of_ble_eq_true rfl⟩ (fun H locs hW => ?_)
        refine lv_aload_n hx hb dX4_load_74 rfl (lv_at hl 1 rfl) ?_
        refine g_ X hinX4 hW 0 rfl rfl 0 (by decide) 9 rfl rfl rfl dX4_load_75 ?_
        refine lv_aload_n hx hb dX4_load_78 rfl (lv_at hl 1 rfl) ?_
        refine g_ X hinX4 hW 0 rfl rfl 2 (by decide) 3 rfl rfl rfl dX4_load_79 ?_
        refine g_ X hinX2 hW 7 rfl rfl 2 (by decide) 10 rfl rfl rfl dX4_load_82 ?_
        refine cVmv_ (rest := []) X (kX1_copy l Dd Y (ad 1) (ad 4) V.2.1 D5.2) (cwV 1 X.1.2.2.2.2 gX4_load_X1_copyFrom rfl rfl rfl (by decide +kernel) ⟨Nat.le_of_ble_eq_true rfl, Nat.le_of_ble_eq_true rfl⟩) hW (px_q Y ad (F7, V.2.1, (F6, D5.2), H13)) (px_q Y ad (F7, D5.2, (F6, D5.2), H13)).symm 0 1 rfl rfl rfl rfl hl.1 rfl (Nat.le_of_ble_eq_true rfl) dX4_load_85 ⟨Nat.le_of_ble_eq_true rfl, Nat.le_of_ble_eq_true rfl⟩ (fun H locs hW => ?_)
        refine lv_iload_n hx hb dX4_load_88 rfl (lv_at hl 0 rfl) ?_
        obtain rfl := Option.some.inj hd
        exact hI _ _ _ _ _ _ _ _ _ rfl rfl rfl (Nat.le_of_ble_eq_true rfl) (Nat.le_of_ble_eq_true rfl) hW dX4_load_89
    · replace hd := if_f c2 hd
      obtain rfl := Option.some.inj hd
      exact hN _ _ _ _ _ 15 _ "java/lang/IllegalArgumentException" "length is not within the buffer" 51 53 55 1 2 0 rfl (by decide) rfl rfl rfl (by rw [show atE 55 "java/lang/IllegalArgumentException" = _ from atE_s (by decide)]; exact fun w h => List.mem_cons_of_mem _ (List.mem_append_right _ h)) hW hl.1 (Nat.le_of_ble_eq_true rfl) dX4_load_15 dX4_load_18 dX4_load_19 dX4_load_21 dX4_load_24 (Nat.le_of_ble_eq_true rfl) (Nat.le_of_ble_eq_true rfl) (Nat.le_of_ble_eq_true rfl) (Nat.le_of_ble_eq_true rfl)
abbrev rmX4_numberOfState : Room := { frames := 3, cells := 0, slots := 0, locals := 64 }
set_option maxRecDepth 100000 in
set_option maxHeartbeats 4000000 in
theorem kX4_numberOfState (l : Launch) (Dd : va_G) (Y : yT) (ad : Nat → Nat → Nat) (V : gX) (x1 : Int32) (r : Int32) (hd : dnX4_numberOfState V x1 = some r) : MG l yX4_numberOfState wsX4_numberOfState rmX4_numberOfState Dd Y [.ref (ad 0 0), .int x1] (WX Y ad V) (WX Y ad V) (some (.int r)) := by
  refine MGi (cc := cX4_numberOfState) (maxL := 2) (ty := .int) (by decide) rfl (Nat.le_of_ble_eq_true rfl) (fun {p e s m args below meth c A} ls Q X hW hl hQ => ?_)
  have hx := X.x
  have hb := X.b
  have hl : lv_has ls 2 [(0, .ref (ad 0 0)), (1, .int x1)] := hl
  have hinX1 : ∀ w ∈ wsX10, w ∈ wsX4_numberOfState := fun w h => List.mem_cons_of_mem _ (List.mem_append_left _ (List.mem_append_right _ h))
  have hinX3 : ∀ w ∈ wsX30, w ∈ wsX4_numberOfState := fun w h => List.mem_cons_of_mem _ (List.mem_append_right _ h)
  have hinX4 : ∀ w ∈ wsX40, w ∈ wsX4_numberOfState := fun w h => List.mem_cons_of_mem _ (List.mem_append_left _ (List.mem_append_left _ (List.mem_append_right _ h)))
  unfold dnX4_numberOfState at hd
  refine lv_iload_n hx hb dX4_numberOfState_0 rfl (lv_at hl 1 rfl) ?_
  by_cases t1 : x1 = 0
  · replace hd := if_t t1 hd
    refine lv_tableIn (off := 55) (tgt := 56) hx hb dX4_numberOfState_1 (by rw [t1]; decide) (by rw [t1]; decide) (by rw [t1]; rfl) (by decide) ?_
    refine lv_aload_n hx hb dX4_numberOfState_56 rfl (lv_at hl 0 rfl) ?_
    refine g_ X hinX4 hW 0 rfl rfl 0 (by decide) 1 rfl rfl rfl dX4_numberOfState_57 ?_
    refine g_ X hinX1 hW 1 rfl rfl 3 (by decide) 2 rfl rfl rfl dX4_numberOfState_60 ?_
    have hd := Option.some.inj hd
    subst hd
    exact hQ _ _ _ _ rfl hW dX4_numberOfState_63
  replace hd := if_f t1 hd
  have ot1 : ¬ x1.toInt = 0 := fun h => t1 (Int32.toInt_inj.mp (h.trans (by decide)))
  by_cases t2 : x1 = 1
  · replace hd := if_t t2 hd
    refine lv_tableIn (off := 63) (tgt := 64) hx hb dX4_numberOfState_1 (by rw [t2]; decide) (by rw [t2]; decide) (by rw [t2]; rfl) (by decide) ?_
    refine lv_aload_n hx hb dX4_numberOfState_64 rfl (lv_at hl 0 rfl) ?_
    refine g_ X hinX4 hW 0 rfl rfl 0 (by decide) 1 rfl rfl rfl dX4_numberOfState_65 ?_
    refine g_ X hinX1 hW 1 rfl rfl 4 (by decide) 3 rfl rfl rfl dX4_numberOfState_68 ?_
    have hd := Option.some.inj hd
    subst hd
    exact hQ _ _ _ _ rfl hW dX4_numberOfState_71
  replace hd := if_f t2 hd
  have ot2 : ¬ x1.toInt = 1 := fun h => t2 (Int32.toInt_inj.mp (h.trans (by decide)))
  by_cases t3 : x1 = 2
  · replace hd := if_t t3 hd
    refine lv_tableIn (off := 71) (tgt := 72) hx hb dX4_numberOfState_1 (by rw [t3]; decide) (by rw [t3]; decide) (by rw [t3]; rfl) (by decide) ?_
    refine lv_aload_n hx hb dX4_numberOfState_72 rfl (lv_at hl 0 rfl) ?_
    refine g_ X hinX4 hW 0 rfl rfl 0 (by decide) 1 rfl rfl rfl dX4_numberOfState_73 ?_
    refine g_ X hinX1 hW 1 rfl rfl 5 (by decide) 4 rfl rfl rfl dX4_numberOfState_76 ?_
    have hd := Option.some.inj hd
    subst hd
    exact hQ _ _ _ _ rfl hW dX4_numberOfState_79
  replace hd := if_f t3 hd
  have ot3 : ¬ x1.toInt = 2 := fun h => t3 (Int32.toInt_inj.mp (h.trans (by decide)))
  by_cases t4 : x1 = 3
  · replace hd := if_t t4 hd
    refine lv_tableIn (off := 79) (tgt := 80) hx hb dX4_numberOfState_1 (by rw [t4]; decide) (by rw [t4]; decide) (by rw [t4]; rfl) (by decide) ?_
    refine lv_aload_n hx hb dX4_numberOfState_80 rfl (lv_at hl 0 rfl) ?_
    refine g_ X hinX4 hW 0 rfl rfl 0 (by decide) 1 rfl rfl rfl dX4_numberOfState_81 ?_
    refine g_ X hinX1 hW 1 rfl rfl 3 (by decide) 2 rfl rfl rfl dX4_numberOfState_84 ?_
    obtain ⟨r6, h5, hd⟩ := bp_e hd
    refine cSi_ (rest := []) X (kX4_greatestLevel l Dd Y (V.2.1.1 0 3) r6 h5) (va_cwS 1 X.1.2.2.2.2 gX4_numberOfState_X4_greatestLevel rfl rfl rfl (by decide +kernel) ⟨Nat.le_of_ble_eq_true rfl, Nat.le_of_ble_eq_true rfl⟩) hW rfl hl.1 rfl (Nat.le_of_ble_eq_true rfl) dX4_numberOfState_87 ⟨Nat.zero_le _, Nat.zero_le _⟩ (fun H locs hW => ?_)
    refine lv_iconst (v := 1) hx hb dX4_numberOfState_90 (by decide) ?_
    refine lv_iadd hx hb dX4_numberOfState_91 ?_
    have hd := Option.some.inj hd
    subst hd
    exact hQ _ _ _ _ rfl hW dX4_numberOfState_92
  replace hd := if_f t4 hd
  have ot4 : ¬ x1.toInt = 3 := fun h => t4 (Int32.toInt_inj.mp (h.trans (by decide)))
  by_cases t7 : x1 = 4
  · replace hd := if_t t7 hd
    refine lv_tableIn (off := 92) (tgt := 93) hx hb dX4_numberOfState_1 (by rw [t7]; decide) (by rw [t7]; decide) (by rw [t7]; rfl) (by decide) ?_
    refine lv_aload_n hx hb dX4_numberOfState_93 rfl (lv_at hl 0 rfl) ?_
    refine g_ X hinX4 hW 0 rfl rfl 0 (by decide) 1 rfl rfl rfl dX4_numberOfState_94 ?_
    obtain ⟨r9, h8, hd⟩ := bp_e hd
    refine cVmi_ (wc := (WR Y (ad 1) V.2.1)) (w1 := (WR Y (ad 1) V.2.1)) (ws' := (WX Y ad V)) (rest := []) X (kX1_cellCount l Dd Y (ad 1) V.2.1 r9 h8) (cwV 0 X.1.2.2.2.2 gX4_numberOfState_X1_cellCount rfl rfl rfl (by decide +kernel) ⟨Nat.le_of_ble_eq_true rfl, Nat.le_of_ble_eq_true rfl⟩) hW (px_r Y ad V) (px_r Y ad V).symm 0 1 rfl rfl rfl rfl hl.1 rfl (Nat.le_of_ble_eq_true rfl) dX4_numberOfState_97 ⟨Nat.zero_le _, Nat.zero_le _⟩ (fun H locs hW => ?_)
    have hd := Option.some.inj hd
    subst hd
    exact hQ _ _ _ _ rfl hW dX4_numberOfState_100
  replace hd := if_f t7 hd
  have ot7 : ¬ x1.toInt = 4 := fun h => t7 (Int32.toInt_inj.mp (h.trans (by decide)))
  by_cases t10 : x1 = 5
  · replace hd := if_t t10 hd
    refine lv_tableIn (off := 100) (tgt := 101) hx hb dX4_numberOfState_1 (by rw [t10]; decide) (by rw [t10]; decide) (by rw [t10]; rfl) (by decide) ?_
    refine lv_aload_n hx hb dX4_numberOfState_101 rfl (lv_at hl 0 rfl) ?_
    refine g_ X hinX4 hW 0 rfl rfl 0 (by decide) 1 rfl rfl rfl dX4_numberOfState_102 ?_
    refine g_ X hinX1 hW 1 rfl rfl 6 (by decide) 5 rfl rfl rfl dX4_numberOfState_105 ?_
    obtain ⟨r12, h11, hd⟩ := bp_e hd
    refine cSi_ (rest := []) X (kJ13_bitCount_95d88 l Dd Y V.2.1.2 r12 h11) (va_cwS 1 X.1.2.2.2.2 gX4_numberOfState_J13_bitCount_95d88 rfl rfl rfl (by decide +kernel) ⟨Nat.le_of_ble_eq_true rfl, Nat.le_of_ble_eq_true rfl⟩) hW rfl hl.1 rfl (Nat.le_of_ble_eq_true rfl) dX4_numberOfState_108 ⟨Nat.zero_le _, Nat.zero_le _⟩ (fun H locs hW => ?_)
    have hd := Option.some.inj hd
    subst hd
    exact hQ _ _ _ _ rfl hW dX4_numberOfState_111
  replace hd := if_f t10 hd
  have ot10 : ¬ x1.toInt = 5 := fun h => t10 (Int32.toInt_inj.mp (h.trans (by decide)))
  by_cases t13 : x1 = 6
  · replace hd := if_t t13 hd
    refine lv_tableIn (off := 111) (tgt := 112) hx hb dX4_numberOfState_1 (by rw [t13]; decide) (by rw [t13]; decide) (by rw [t13]; rfl) (by decide) ?_
    refine lv_aload_n hx hb dX4_numberOfState_112 rfl (lv_at hl 0 rfl) ?_
    refine g_ X hinX4 hW 0 rfl rfl 0 (by decide) 1 rfl rfl rfl dX4_numberOfState_113 ?_
    refine g_ X hinX1 hW 1 rfl rfl 2 (by decide) 6 rfl rfl rfl dX4_numberOfState_116 ?_
    refine g_ X hinX3 hW 4 rfl rfl 2 (by decide) 7 rfl rfl rfl dX4_numberOfState_119 ?_
    have hd := Option.some.inj hd
    subst hd
    exact hQ _ _ _ _ rfl hW dX4_numberOfState_122
  replace hd := if_f t13 hd
  have ot13 : ¬ x1.toInt = 6 := fun h => t13 (Int32.toInt_inj.mp (h.trans (by decide)))
  by_cases t14 : x1 = 7
  · replace hd := if_t t14 hd
    refine lv_tableIn (off := 122) (tgt := 123) hx hb dX4_numberOfState_1 (by rw [t14]; decide) (by rw [t14]; decide) (by rw [t14]; rfl) (by decide) ?_
    refine lv_aload_n hx hb dX4_numberOfState_123 rfl (lv_at hl 0 rfl) ?_
    refine g_ X hinX4 hW 0 rfl rfl 0 (by decide) 1 rfl rfl rfl dX4_numberOfState_124 ?_
    refine g_ X hinX1 hW 1 rfl rfl 7 (by decide) 8 rfl rfl rfl dX4_numberOfState_127 ?_
    have hd := Option.some.inj hd
    subst hd
    exact hQ _ _ _ _ rfl hW dX4_numberOfState_130
  replace hd := if_f t14 hd
  have ot14 : ¬ x1.toInt = 7 := fun h => t14 (Int32.toInt_inj.mp (h.trans (by decide)))
  by_cases t15 : x1 = 8
  · replace hd := if_t t15 hd
    refine lv_tableIn (off := 130) (tgt := 131) hx hb dX4_numberOfState_1 (by rw [t15]; decide) (by rw [t15]; decide) (by rw [t15]; rfl) (by decide) ?_
    refine lv_aload_n hx hb dX4_numberOfState_131 rfl (lv_at hl 0 rfl) ?_
    refine g_ X hinX4 hW 0 rfl rfl 0 (by decide) 1 rfl rfl rfl dX4_numberOfState_132 ?_
    refine g_ X hinX1 hW 1 rfl rfl 8 (by decide) 9 rfl rfl rfl dX4_numberOfState_135 ?_
    have hd := Option.some.inj hd
    subst hd
    exact hQ _ _ _ _ rfl hW dX4_numberOfState_138
  replace hd := if_f t15 hd
  have ot15 : ¬ x1.toInt = 8 := fun h => t15 (Int32.toInt_inj.mp (h.trans (by decide)))
  by_cases t16 : x1 = 9
  · replace hd := if_t t16 hd
    refine lv_tableIn (off := 138) (tgt := 139) hx hb dX4_numberOfState_1 (by rw [t16]; decide) (by rw [t16]; decide) (by rw [t16]; rfl) (by decide) ?_
    refine lv_aload_n hx hb dX4_numberOfState_139 rfl (lv_at hl 0 rfl) ?_
    refine g_ X hinX4 hW 0 rfl rfl 0 (by decide) 1 rfl rfl rfl dX4_numberOfState_140 ?_
    refine g_ X hinX1 hW 1 rfl rfl 9 (by decide) 10 rfl rfl rfl dX4_numberOfState_143 ?_
    have hd := Option.some.inj hd
    subst hd
    exact hQ _ _ _ _ rfl hW dX4_numberOfState_146
  replace hd := if_f t16 hd
  have ot16 : ¬ x1.toInt = 9 := fun h => t16 (Int32.toInt_inj.mp (h.trans (by decide)))
  refine lv_tableOut (tgt := 147) hx hb dX4_numberOfState_1 (by omega) (by decide) ?_
  refine lv_aload_n hx hb dX4_numberOfState_147 rfl (lv_at hl 0 rfl) ?_
  refine g_ X hinX4 hW 0 rfl rfl 0 (by decide) 1 rfl rfl rfl dX4_numberOfState_148 ?_
  refine g_ X hinX1 hW 1 rfl rfl 10 (by decide) 11 rfl rfl rfl dX4_numberOfState_151 ?_
  have hd := Option.some.inj hd
  subst hd
  exact hQ _ _ _ _ rfl hW dX4_numberOfState_154
abbrev rmX4_state : Room := { frames := 6, cells := 1, slots := 6, locals := 90 }
set_option maxRecDepth 100000 in
set_option maxHeartbeats 4000000 in
theorem kX4_state (l : Launch) (hst : l.stackTraces = false) (Dd : va_G) (Y : yT) (ad : Nat → Nat → Nat) (V : gX) (x1 : Int32) (o : oX Int32) (hd : dnX4_state V x1 = some o) : MX l yX4_state wsX4_state rmX4_state Dd Y [.ref (ad 0 0), .int x1] (WX Y ad V) (oI Y ad V o) 1 6 := by
  refine MXk (cc := cX4_state) (maxL := 2) (ret := some .int) hst rfl (by decide) rfl (Nat.le_of_ble_eq_true rfl) rfl rfl (fun {p e s m args below meth c A} ls Q X hW hl hI hV hT hN => ?_)
  have hx := X.x
  have hb := X.b
  have hl : lv_has ls 2 [(0, .ref (ad 0 0)), (1, .int x1)] := hl
  unfold dnX4_state at hd
  refine lv_iload_n hx hb dX4_state_0 rfl (lv_at hl 1 rfl) ?_
  refine lv_if_lt (tgt := 10) hx hb dX4_state_1 (by decide) (fun c1 => ?_) (fun c1 => ?_)
  · replace hd := if_t c1 hd
    obtain rfl := Option.some.inj hd
    exact hN _ _ _ _ _ 10 _ "java/lang/IllegalArgumentException" "what is not 0 to 10" 51 78 55 1 2 1 rfl (by decide) rfl rfl rfl (by rw [show atE 55 "java/lang/IllegalArgumentException" = _ from atE_s (by decide)]; exact fun w h => List.mem_cons_of_mem _ (List.mem_append_right _ h)) hW hl.1 (Nat.le_of_ble_eq_true rfl) dX4_state_10 dX4_state_13 dX4_state_14 dX4_state_16 dX4_state_19 (Nat.le_of_ble_eq_true rfl) (Nat.le_of_ble_eq_true rfl) (Nat.le_of_ble_eq_true rfl) (Nat.le_of_ble_eq_true rfl)
  · replace hd := if_f c1 hd
    refine lv_iload_n hx hb dX4_state_4 rfl (lv_at hl 1 rfl) ?_
    refine lv_bipush (v := 11) hx hb dX4_state_5 (by decide) ?_
    refine lv_icmp_lt (tgt := 20) hx hb dX4_state_7 (by decide) (fun c2 => ?_) (fun c2 => ?_)
    · replace hd := if_t c2 hd
      refine lv_aload_n hx hb dX4_state_20 rfl (lv_at hl 0 rfl) ?_
      refine lv_iload_n hx hb dX4_state_21 rfl (lv_at hl 1 rfl) ?_
      obtain ⟨r4, h3, hd⟩ := bp_e hd
      refine cVi_ (rest := []) X (kX4_numberOfState l Dd Y ad V x1 r4 h3) (cwV 1 X.1.2.2.2.2 gX4_state_X4_numberOfState rfl rfl rfl (by decide +kernel) ⟨Nat.le_of_ble_eq_true rfl, Nat.le_of_ble_eq_true rfl⟩) hW 0 4 rfl rfl rfl rfl hl.1 rfl (Nat.le_of_ble_eq_true rfl) dX4_state_22 ⟨Nat.le_of_ble_eq_true rfl, Nat.le_of_ble_eq_true rfl⟩ (fun H locs hW => ?_)
      obtain rfl := Option.some.inj hd
      exact hI _ _ _ _ _ _ _ _ _ rfl rfl rfl (Nat.le_of_ble_eq_true rfl) (Nat.le_of_ble_eq_true rfl) hW dX4_state_25
    · replace hd := if_f c2 hd
      obtain rfl := Option.some.inj hd
      exact hN _ _ _ _ _ 10 _ "java/lang/IllegalArgumentException" "what is not 0 to 10" 51 78 55 1 2 1 rfl (by decide) rfl rfl rfl (by rw [show atE 55 "java/lang/IllegalArgumentException" = _ from atE_s (by decide)]; exact fun w h => List.mem_cons_of_mem _ (List.mem_append_right _ h)) hW hl.1 (Nat.le_of_ble_eq_true rfl) dX4_state_10 dX4_state_13 dX4_state_14 dX4_state_16 dX4_state_19 (Nat.le_of_ble_eq_true rfl) (Nat.le_of_ble_eq_true rfl) (Nat.le_of_ble_eq_true rfl) (Nat.le_of_ble_eq_true rfl)
abbrev rmX4_demandPlace : Room := { frames := 6, cells := 1, slots := 6, locals := 90 }
set_option maxRecDepth 100000 in
set_option maxHeartbeats 4000000 in
theorem kX4_demandPlace (l : Launch) (hst : l.stackTraces = false) (Dd : va_G) (Y : yT) (ad : Nat → Nat → Nat) (V : gX) (x1 : Int32) (o : oX Unit) (hd : dnX4_demandPlace V x1 = some o) : MX l yX4_demandPlace wsX4_demandPlace rmX4_demandPlace Dd Y [.ref (ad 0 0), .int x1] (WX Y ad V) (oV Y ad V o) 1 6 := by
  refine MXk (cc := cX4_demandPlace) (maxL := 2) (ret := none) hst rfl (by decide) rfl (Nat.le_of_ble_eq_true rfl) rfl rfl (fun {p e s m args below meth c A} ls Q X hW hl hI hV hT hN => ?_)
  have hx := X.x
  have hb := X.b
  have hl : lv_has ls 2 [(0, .ref (ad 0 0)), (1, .int x1)] := hl
  have hinX4 : ∀ w ∈ wsX40, w ∈ wsX4_demandPlace := fun w h => List.mem_cons_of_mem _ (List.mem_append_left _ (List.mem_append_left _ (List.mem_append_right _ h)))
  unfold dnX4_demandPlace at hd
  refine lv_aload_n hx hb dX4_demandPlace_0 rfl (lv_at hl 0 rfl) ?_
  refine g_ X hinX4 hW 0 rfl rfl 0 (by decide) 3 rfl rfl rfl dX4_demandPlace_1 ?_
  refine lv_iload_n hx hb dX4_demandPlace_4 rfl (lv_at hl 1 rfl) ?_
  obtain ⟨r2, h1, hd⟩ := bp_e hd
  refine cVmi_ (wc := (WR Y (ad 1) V.2.1)) (w1 := (WR Y (ad 1) V.2.1)) (ws' := (WX Y ad V)) (rest := []) X (kX1_isPlace l Dd Y (ad 1) V.2.1 x1 r2 h1) (cwV 1 X.1.2.2.2.2 gX4_demandPlace_X1_isPlace rfl rfl rfl (by decide +kernel) ⟨Nat.le_of_ble_eq_true rfl, Nat.le_of_ble_eq_true rfl⟩) hW (px_r Y ad V) (px_r Y ad V).symm 0 1 rfl rfl rfl rfl hl.1 rfl (Nat.le_of_ble_eq_true rfl) dX4_demandPlace_5 ⟨Nat.le_of_ble_eq_true rfl, Nat.le_of_ble_eq_true rfl⟩ (fun H locs hW => ?_)
  refine lv_if_ne (tgt := 21) hx hb dX4_demandPlace_8 (by decide) (fun c3 => ?_) (fun c3 => ?_)
  · replace hd := if_f c3 hd
    obtain rfl := Option.some.inj hd
    exact hV _ _ _ _ _ _ _ rfl rfl (Nat.le_of_ble_eq_true rfl) (Nat.le_of_ble_eq_true rfl) hW dX4_demandPlace_21
  · replace hd := if_t c3 hd
    obtain rfl := Option.some.inj hd
    exact hN _ _ _ _ _ 11 _ "java/lang/IndexOutOfBoundsException" "no such place" 233 235 237 1 2 8 rfl (by decide) rfl rfl rfl (by rw [show atE 237 "java/lang/IndexOutOfBoundsException" = _ from atE_s (by decide)]; exact fun w h => List.mem_cons_of_mem _ (List.mem_append_right _ h)) hW hl.1 (Nat.le_of_ble_eq_true rfl) dX4_demandPlace_11 dX4_demandPlace_14 dX4_demandPlace_15 dX4_demandPlace_17 dX4_demandPlace_20 (Nat.le_of_ble_eq_true rfl) (Nat.le_of_ble_eq_true rfl) (Nat.le_of_ble_eq_true rfl) (Nat.le_of_ble_eq_true rfl)
abbrev rmX4_value : Room := { frames := 7, cells := 1, slots := 6, locals := 111 }
set_option maxRecDepth 100000 in
set_option maxHeartbeats 4000000 in
theorem kX4_value (l : Launch) (hst : l.stackTraces = false) (Dd : va_G) (Y : yT) (ad : Nat → Nat → Nat) (V : gX) (x1 : Int32) (o : oX Int32) (hd : dnX4_value V x1 = some o) : MX l yX4_value wsX4_value rmX4_value Dd Y [.ref (ad 0 0), .int x1] (WX Y ad V) (oI Y ad V o) 1 6 := by
  refine MXk (cc := cX4_value) (maxL := 2) (ret := some .int) hst rfl (by decide) rfl (Nat.le_of_ble_eq_true rfl) rfl rfl (fun {p e s m args below meth c A} ls Q X hW hl hI hV hT hN => ?_)
  have hx := X.x
  have hb := X.b
  have hl : lv_has ls 2 [(0, .ref (ad 0 0)), (1, .int x1)] := hl
  have hinX4 : ∀ w ∈ wsX40, w ∈ wsX4_value := fun w h => List.mem_cons_of_mem _ (List.mem_append_left _ (List.mem_append_left _ (List.mem_append_right _ h)))
  unfold dnX4_value at hd
  refine lv_aload_n hx hb dX4_value_0 rfl (lv_at hl 0 rfl) ?_
  refine lv_iload_n hx hb dX4_value_1 rfl (lv_at hl 1 rfl) ?_
  obtain ⟨q2, h1, hd⟩ := bx_e hd
  refine xV_ (rest := []) X (kX4_demandPlace l hst Dd Y ad V x1 q2 h1) (cwV 1 X.1.2.2.2.2 gX4_value_X4_demandPlace rfl rfl rfl (by decide +kernel) ⟨Nat.le_of_ble_eq_true rfl, Nat.le_of_ble_eq_true rfl⟩) hW 0 4 rfl rfl rfl rfl hl.1 rfl (Nat.le_of_ble_eq_true rfl) dX4_value_2 ⟨Nat.le_of_ble_eq_true rfl, Nat.le_of_ble_eq_true rfl⟩ (fun E H locs ce q9 ho hW g1 g2 g3 => ?_) (fun rv w H locs ho hW => ?_)
  · rcases hd with ⟨E5, e5, e6⟩ | ⟨a5, e5, -⟩
    · subst e5; subst e6
      have ho : (.inl E5 : oW) = .inl E := ho
      cases ho
      exact hT _ _ _ _ _ _ _ _ _ _ rfl (Nat.le_of_ble_eq_true rfl) (Nat.le_of_ble_eq_true rfl) hW g1 g2 g3
    · subst e5; cases ho
  · rcases hd with ⟨E5, e5, -⟩ | ⟨a5, e5, hd⟩
    · subst e5; cases ho
    · subst e5
      have ho : (.inr (none, (WX Y ad V)) : oW) = .inr (rv, w) := ho
      cases ho
      refine W.eq (g2 := F0 m 5 ls []) rfl ?_
      refine lv_aload_n hx hb dX4_value_5 rfl (lv_at hl 0 rfl) ?_
      refine g_ X hinX4 hW 0 rfl rfl 0 (by decide) 1 rfl rfl rfl dX4_value_6 ?_
      refine lv_iload_n hx hb dX4_value_9 rfl (lv_at hl 1 rfl) ?_
      obtain ⟨r4, h3, hd⟩ := bp_e hd
      refine cVmi_ (wc := (WR Y (ad 1) V.2.1)) (w1 := (WR Y (ad 1) V.2.1)) (ws' := (WX Y ad V)) (rest := []) X (kX1_valueAt l Dd Y (ad 1) V.2.1 x1 r4 h3) (cwV 1 X.1.2.2.2.2 gX4_value_X1_valueAt rfl rfl rfl (by decide +kernel) ⟨Nat.le_of_ble_eq_true rfl, Nat.le_of_ble_eq_true rfl⟩) hW (px_r Y ad V) (px_r Y ad V).symm 0 1 rfl rfl rfl rfl hl.1 rfl (Nat.le_of_ble_eq_true rfl) dX4_value_10 ⟨Nat.le_of_ble_eq_true rfl, Nat.le_of_ble_eq_true rfl⟩ (fun H locs hW => ?_)
      obtain rfl := Option.some.inj hd
      exact hI _ _ _ _ _ _ _ _ _ rfl rfl rfl (Nat.le_of_ble_eq_true rfl) (Nat.le_of_ble_eq_true rfl) hW dX4_value_13
abbrev rmX4_cell : Room := { frames := 7, cells := 2, slots := 12, locals := 111 }
set_option maxRecDepth 100000 in
set_option maxHeartbeats 4000000 in
theorem kX4_cell (l : Launch) (hst : l.stackTraces = false) (Dd : va_G) (Y : yT) (ad : Nat → Nat → Nat) (V : gX) (x1 : Int32) (x2 : Int32) (o : oX Int32) (hd : dnX4_cell V x1 x2 = some o) : MX l yX4_cell wsX4_cell rmX4_cell Dd Y [.ref (ad 0 0), .int x1, .int x2] (WX Y ad V) (oI Y ad V o) 2 12 := by
  refine MXk (cc := cX4_cell) (maxL := 3) (ret := some .int) hst rfl (by decide) rfl (Nat.le_of_ble_eq_true rfl) rfl rfl (fun {p e s m args below meth c A} ls Q X hW hl hI hV hT hN => ?_)
  have hx := X.x
  have hb := X.b
  have hl : lv_has ls 3 [(0, .ref (ad 0 0)), (1, .int x1), (2, .int x2)] := hl
  have hinX4 : ∀ w ∈ wsX40, w ∈ wsX4_cell := fun w h => List.mem_cons_of_mem _ (List.mem_append_left _ (List.mem_append_left _ (List.mem_append_left _ (List.mem_append_right _ h))))
  unfold dnX4_cell at hd
  refine lv_aload_n hx hb dX4_cell_0 rfl (lv_at hl 0 rfl) ?_
  refine lv_iload_n hx hb dX4_cell_1 rfl (lv_at hl 2 rfl) ?_
  obtain ⟨q2, h1, hd⟩ := bx_e hd
  refine xV_ (rest := []) X (kX4_demandPlace l hst Dd Y ad V x2 q2 h1) (cwV 1 X.1.2.2.2.2 gX4_cell_X4_demandPlace rfl rfl rfl (by decide +kernel) ⟨Nat.le_of_ble_eq_true rfl, Nat.le_of_ble_eq_true rfl⟩) hW 0 4 rfl rfl rfl rfl hl.1 rfl (Nat.le_of_ble_eq_true rfl) dX4_cell_2 ⟨Nat.le_of_ble_eq_true rfl, Nat.le_of_ble_eq_true rfl⟩ (fun E H locs ce q9 ho hW g1 g2 g3 => ?_) (fun rv w H locs ho hW => ?_)
  · rcases hd with ⟨E5, e5, e6⟩ | ⟨a5, e5, -⟩
    · subst e5; subst e6
      have ho : (.inl E5 : oW) = .inl E := ho
      cases ho
      exact hT _ _ _ _ _ _ _ _ _ _ rfl (Nat.le_of_ble_eq_true rfl) (Nat.le_of_ble_eq_true rfl) hW g1 g2 g3
    · subst e5; cases ho
  · rcases hd with ⟨E5, e5, -⟩ | ⟨a5, e5, hd⟩
    · subst e5; cases ho
    · subst e5
      have ho : (.inr (none, (WX Y ad V)) : oW) = .inr (rv, w) := ho
      cases ho
      refine W.eq (g2 := F0 m 5 ls []) rfl ?_
      refine lv_aload_n hx hb dX4_cell_5 rfl (lv_at hl 0 rfl) ?_
      refine g_ X hinX4 hW 0 rfl rfl 0 (by decide) 3 rfl rfl rfl dX4_cell_6 ?_
      refine lv_iload_n hx hb dX4_cell_9 rfl (lv_at hl 1 rfl) ?_
      refine lv_iload_n hx hb dX4_cell_10 rfl (lv_at hl 2 rfl) ?_
      obtain ⟨r4, h3, hd⟩ := bp_e hd
      refine cVmi_ (wc := (WR Y (ad 1) V.2.1)) (w1 := (WR Y (ad 1) V.2.1)) (ws' := (WX Y ad V)) (rest := []) X (kX1_hasCell l Dd Y (ad 1) V.2.1 x1 x2 r4 h3) (cwV 2 X.1.2.2.2.2 gX4_cell_X1_hasCell rfl rfl rfl (by decide +kernel) ⟨Nat.le_of_ble_eq_true rfl, Nat.le_of_ble_eq_true rfl⟩) hW (px_r Y ad V) (px_r Y ad V).symm 0 1 rfl rfl rfl rfl hl.1 rfl (Nat.le_of_ble_eq_true rfl) dX4_cell_11 ⟨Nat.le_of_ble_eq_true rfl, Nat.le_of_ble_eq_true rfl⟩ (fun H locs hW => ?_)
      refine lv_if_ne (tgt := 27) hx hb dX4_cell_14 (by decide) (fun c5 => ?_) (fun c5 => ?_)
      · replace hd := if_f c5 hd
        refine lv_aload_n hx hb dX4_cell_27 rfl (lv_at hl 0 rfl) ?_
        refine g_ X hinX4 hW 0 rfl rfl 0 (by decide) 3 rfl rfl rfl dX4_cell_28 ?_
        refine lv_iload_n hx hb dX4_cell_31 rfl (lv_at hl 1 rfl) ?_
        refine lv_iload_n hx hb dX4_cell_32 rfl (lv_at hl 2 rfl) ?_
        obtain ⟨r7, h6, hd⟩ := bp_e hd
        refine cVmi_ (wc := (WR Y (ad 1) V.2.1)) (w1 := (WR Y (ad 1) V.2.1)) (ws' := (WX Y ad V)) (rest := []) X (kX1_cellAt l Dd Y (ad 1) V.2.1 x1 x2 r7 h6) (cwV 2 X.1.2.2.2.2 gX4_cell_X1_cellAt rfl rfl rfl (by decide +kernel) ⟨Nat.le_of_ble_eq_true rfl, Nat.le_of_ble_eq_true rfl⟩) hW (px_r Y ad V) (px_r Y ad V).symm 0 1 rfl rfl rfl rfl hl.1 rfl (Nat.le_of_ble_eq_true rfl) dX4_cell_33 ⟨Nat.le_of_ble_eq_true rfl, Nat.le_of_ble_eq_true rfl⟩ (fun H locs hW => ?_)
        obtain rfl := Option.some.inj hd
        exact hI _ _ _ _ _ _ _ _ _ rfl rfl rfl (Nat.le_of_ble_eq_true rfl) (Nat.le_of_ble_eq_true rfl) hW dX4_cell_36
      · replace hd := if_t c5 hd
        obtain rfl := Option.some.inj hd
        exact hN _ _ _ _ _ 17 _ "java/util/NoSuchElementException" "no such cell" 93 95 97 1 2 2 rfl (by decide) rfl rfl rfl (by rw [show atE 97 "java/util/NoSuchElementException" = _ from atE_n 97]; exact fun w h => List.mem_cons_of_mem _ (List.mem_append_left _ (List.mem_append_right _ h))) hW hl.1 (Nat.le_of_ble_eq_true rfl) dX4_cell_17 dX4_cell_20 dX4_cell_21 dX4_cell_23 dX4_cell_26 (Nat.le_of_ble_eq_true rfl) (Nat.le_of_ble_eq_true rfl) (Nat.le_of_ble_eq_true rfl) (Nat.le_of_ble_eq_true rfl)
abbrev rmX4_waits : Room := { frames := 7, cells := 1, slots := 6, locals := 111 }
set_option maxRecDepth 100000 in
set_option maxHeartbeats 4000000 in
theorem kX4_waits (l : Launch) (hst : l.stackTraces = false) (Dd : va_G) (Y : yT) (ad : Nat → Nat → Nat) (V : gX) (x1 : Int32) (o : oX Int32) (hd : dnX4_waits V x1 = some o) : MX l yX4_waits wsX4_waits rmX4_waits Dd Y [.ref (ad 0 0), .int x1] (WX Y ad V) (oI Y ad V o) 1 6 := by
  refine MXk (cc := cX4_waits) (maxL := 2) (ret := some .boolean) hst rfl (by decide) rfl (Nat.le_of_ble_eq_true rfl) rfl rfl (fun {p e s m args below meth c A} ls Q X hW hl hI hV hT hN => ?_)
  have hx := X.x
  have hb := X.b
  have hl : lv_has ls 2 [(0, .ref (ad 0 0)), (1, .int x1)] := hl
  have hinX4 : ∀ w ∈ wsX40, w ∈ wsX4_waits := fun w h => List.mem_cons_of_mem _ (List.mem_append_left _ (List.mem_append_left _ (List.mem_append_right _ h)))
  unfold dnX4_waits at hd
  refine lv_aload_n hx hb dX4_waits_0 rfl (lv_at hl 0 rfl) ?_
  refine lv_iload_n hx hb dX4_waits_1 rfl (lv_at hl 1 rfl) ?_
  obtain ⟨q2, h1, hd⟩ := bx_e hd
  refine xV_ (rest := []) X (kX4_demandPlace l hst Dd Y ad V x1 q2 h1) (cwV 1 X.1.2.2.2.2 gX4_waits_X4_demandPlace rfl rfl rfl (by decide +kernel) ⟨Nat.le_of_ble_eq_true rfl, Nat.le_of_ble_eq_true rfl⟩) hW 0 4 rfl rfl rfl rfl hl.1 rfl (Nat.le_of_ble_eq_true rfl) dX4_waits_2 ⟨Nat.le_of_ble_eq_true rfl, Nat.le_of_ble_eq_true rfl⟩ (fun E H locs ce q9 ho hW g1 g2 g3 => ?_) (fun rv w H locs ho hW => ?_)
  · rcases hd with ⟨E5, e5, e6⟩ | ⟨a5, e5, -⟩
    · subst e5; subst e6
      have ho : (.inl E5 : oW) = .inl E := ho
      cases ho
      exact hT _ _ _ _ _ _ _ _ _ _ rfl (Nat.le_of_ble_eq_true rfl) (Nat.le_of_ble_eq_true rfl) hW g1 g2 g3
    · subst e5; cases ho
  · rcases hd with ⟨E5, e5, -⟩ | ⟨a5, e5, hd⟩
    · subst e5; cases ho
    · subst e5
      have ho : (.inr (none, (WX Y ad V)) : oW) = .inr (rv, w) := ho
      cases ho
      refine W.eq (g2 := F0 m 5 ls []) rfl ?_
      refine lv_aload_n hx hb dX4_waits_5 rfl (lv_at hl 0 rfl) ?_
      refine g_ X hinX4 hW 0 rfl rfl 0 (by decide) 1 rfl rfl rfl dX4_waits_6 ?_
      refine lv_iload_n hx hb dX4_waits_9 rfl (lv_at hl 1 rfl) ?_
      obtain ⟨r4, h3, hd⟩ := bp_e hd
      refine cVmi_ (wc := (WR Y (ad 1) V.2.1)) (w1 := (WR Y (ad 1) V.2.1)) (ws' := (WX Y ad V)) (rest := []) X (kX1_isWaiting l Dd Y (ad 1) V.2.1 x1 r4 h3) (cwV 1 X.1.2.2.2.2 gX4_waits_X1_isWaiting rfl rfl rfl (by decide +kernel) ⟨Nat.le_of_ble_eq_true rfl, Nat.le_of_ble_eq_true rfl⟩) hW (px_r Y ad V) (px_r Y ad V).symm 0 1 rfl rfl rfl rfl hl.1 rfl (Nat.le_of_ble_eq_true rfl) dX4_waits_10 ⟨Nat.le_of_ble_eq_true rfl, Nat.le_of_ble_eq_true rfl⟩ (fun H locs hW => ?_)
      obtain ⟨hz5, hd⟩ := rzx_e hd
      subst hd
      exact hI _ _ _ _ _ _ _ _ _ rfl rfl (nz_b hz5) (Nat.le_of_ble_eq_true rfl) (Nat.le_of_ble_eq_true rfl) hW dX4_waits_13
abbrev rmX4_demandKept : Room := { frames := 6, cells := 1, slots := 6, locals := 90 }
set_option maxRecDepth 100000 in
set_option maxHeartbeats 4000000 in
theorem kX4_demandKept (l : Launch) (hst : l.stackTraces = false) (Dd : va_G) (Y : yT) (ad : Nat → Nat → Nat) (V : gX) (x1 : Int32) (o : oX Unit) (hd : dnX4_demandKept V x1 = some o) : MX l yX4_demandKept wsX4_demandKept rmX4_demandKept Dd Y [.ref (ad 0 0), .int x1] (WX Y ad V) (oV Y ad V o) 1 6 := by
  refine MXk (cc := cX4_demandKept) (maxL := 2) (ret := none) hst rfl (by decide) rfl (Nat.le_of_ble_eq_true rfl) rfl rfl (fun {p e s m args below meth c A} ls Q X hW hl hI hV hT hN => ?_)
  have hx := X.x
  have hb := X.b
  have hl : lv_has ls 2 [(0, .ref (ad 0 0)), (1, .int x1)] := hl
  have hinX1 : ∀ w ∈ wsX10, w ∈ wsX4_demandKept := fun w h => List.mem_cons_of_mem _ (List.mem_append_left _ (List.mem_append_left _ (List.mem_append_right _ h)))
  have hinX3 : ∀ w ∈ wsX30, w ∈ wsX4_demandKept := fun w h => List.mem_cons_of_mem _ (List.mem_append_left _ (List.mem_append_right _ h))
  have hinX4 : ∀ w ∈ wsX40, w ∈ wsX4_demandKept := fun w h => List.mem_cons_of_mem _ (List.mem_append_left _ (List.mem_append_left _ (List.mem_append_left _ (List.mem_append_right _ h))))
  unfold dnX4_demandKept at hd
  refine lv_iload_n hx hb dX4_demandKept_0 rfl (lv_at hl 1 rfl) ?_
  refine lv_if_lt (tgt := 18) hx hb dX4_demandKept_1 (by decide) (fun c1 => ?_) (fun c1 => ?_)
  · replace hd := if_t c1 hd
    obtain rfl := Option.some.inj hd
    exact hN _ _ _ _ _ 18 _ "java/util/NoSuchElementException" "not so many stretches are kept" 93 242 97 1 2 11 rfl (by decide) rfl rfl rfl (by rw [show atE 97 "java/util/NoSuchElementException" = _ from atE_n 97]; exact fun w h => List.mem_cons_of_mem _ (List.mem_append_right _ h)) hW hl.1 (Nat.le_of_ble_eq_true rfl) dX4_demandKept_18 dX4_demandKept_21 dX4_demandKept_22 dX4_demandKept_24 dX4_demandKept_27 (Nat.le_of_ble_eq_true rfl) (Nat.le_of_ble_eq_true rfl) (Nat.le_of_ble_eq_true rfl) (Nat.le_of_ble_eq_true rfl)
  · replace hd := if_f c1 hd
    refine lv_iload_n hx hb dX4_demandKept_4 rfl (lv_at hl 1 rfl) ?_
    refine lv_aload_n hx hb dX4_demandKept_5 rfl (lv_at hl 0 rfl) ?_
    refine g_ X hinX4 hW 0 rfl rfl 0 (by decide) 3 rfl rfl rfl dX4_demandKept_6 ?_
    refine g_ X hinX1 hW 1 rfl rfl 2 (by decide) 4 rfl rfl rfl dX4_demandKept_9 ?_
    refine g_ X hinX3 hW 4 rfl rfl 2 (by decide) 5 rfl rfl rfl dX4_demandKept_12 ?_
    refine lv_icmp_lt (tgt := 28) hx hb dX4_demandKept_15 (by decide) (fun c2 => ?_) (fun c2 => ?_)
    · replace hd := if_t c2 hd
      obtain rfl := Option.some.inj hd
      exact hV _ _ _ _ _ _ _ rfl rfl (Nat.le_of_ble_eq_true rfl) (Nat.le_of_ble_eq_true rfl) hW dX4_demandKept_28
    · replace hd := if_f c2 hd
      obtain rfl := Option.some.inj hd
      exact hN _ _ _ _ _ 18 _ "java/util/NoSuchElementException" "not so many stretches are kept" 93 242 97 1 2 11 rfl (by decide) rfl rfl rfl (by rw [show atE 97 "java/util/NoSuchElementException" = _ from atE_n 97]; exact fun w h => List.mem_cons_of_mem _ (List.mem_append_right _ h)) hW hl.1 (Nat.le_of_ble_eq_true rfl) dX4_demandKept_18 dX4_demandKept_21 dX4_demandKept_22 dX4_demandKept_24 dX4_demandKept_27 (Nat.le_of_ble_eq_true rfl) (Nat.le_of_ble_eq_true rfl) (Nat.le_of_ble_eq_true rfl) (Nat.le_of_ble_eq_true rfl)
abbrev rmX4_keptAsNumber : Room := { frames := 1, cells := 0, slots := 0, locals := 21 }
set_option maxRecDepth 100000 in
set_option maxHeartbeats 4000000 in
theorem kX4_keptAsNumber (l : Launch) (Dd : va_G) (Y : yT) (ad : Nat → Nat → Nat) (V : gX) (x1 : Int32) (r : Int32) (hd : dnX4_keptAsNumber V x1 = some r) : MG l yX4_keptAsNumber wsX4_keptAsNumber rmX4_keptAsNumber Dd Y [.ref (ad 0 0), .int x1] (WX Y ad V) (WX Y ad V) (some (.int r)) := by
  refine MGi (cc := cX4_keptAsNumber) (maxL := 2) (ty := .int) (by decide) rfl (Nat.le_of_ble_eq_true rfl) (fun {p e s m args below meth c A} ls Q X hW hl hQ => ?_)
  have hx := X.x
  have hb := X.b
  have hl : lv_has ls 2 [(0, .ref (ad 0 0)), (1, .int x1)] := hl
  have hinX1 : ∀ w ∈ wsX10, w ∈ wsX4_keptAsNumber := fun w h => List.mem_cons_of_mem _ (List.mem_append_left _ (List.mem_append_right _ h))
  have hinX4 : ∀ w ∈ wsX40, w ∈ wsX4_keptAsNumber := fun w h => List.mem_cons_of_mem _ (List.mem_append_left _ (List.mem_append_left _ (List.mem_append_right _ h)))
  unfold dnX4_keptAsNumber at hd
  refine lv_bipush (v := 100) hx hb dX4_keptAsNumber_0 (by decide) ?_
  refine lv_aload_n hx hb dX4_keptAsNumber_2 rfl (lv_at hl 0 rfl) ?_
  refine g_ X hinX4 hW 0 rfl rfl 0 (by decide) 1 rfl rfl rfl dX4_keptAsNumber_3 ?_
  refine g_ X hinX1 hW 1 rfl rfl 2 (by decide) 2 rfl rfl rfl dX4_keptAsNumber_6 ?_
  refine lv_iload_n hx hb dX4_keptAsNumber_9 rfl (lv_at hl 1 rfl) ?_
  obtain ⟨r2, h1, hd⟩ := bp_e hd
  refine cVmi_ (wc := (WR Y (ad 1) V.2.1)) (w1 := (WR Y (ad 1) V.2.1)) (ws' := (WX Y ad V)) (rest := [.int 100]) X (kX3_fromAt l Dd Y (ad 1) V.2.1 x1 r2 h1) (cwV 1 X.1.2.2.2.2 gX4_keptAsNumber_X3_fromAt rfl rfl rfl (by decide +kernel) ⟨Nat.le_of_ble_eq_true rfl, Nat.le_of_ble_eq_true rfl⟩) hW (px_r Y ad V) (px_r Y ad V).symm 3 3 rfl rfl rfl rfl hl.1 rfl (Nat.le_of_ble_eq_true rfl) dX4_keptAsNumber_10 ⟨Nat.zero_le _, Nat.zero_le _⟩ (fun H locs hW => ?_)
  refine lv_imul hx hb dX4_keptAsNumber_13 ?_
  refine lv_aload_n hx hb dX4_keptAsNumber_14 rfl (lv_at hl 0 rfl) ?_
  refine g_ X hinX4 hW 0 rfl rfl 0 (by decide) 1 rfl rfl rfl dX4_keptAsNumber_15 ?_
  refine g_ X hinX1 hW 1 rfl rfl 2 (by decide) 2 rfl rfl rfl dX4_keptAsNumber_18 ?_
  refine lv_iload_n hx hb dX4_keptAsNumber_21 rfl (lv_at hl 1 rfl) ?_
  obtain ⟨r4, h3, hd⟩ := bp_e hd
  refine cVmi_ (wc := (WR Y (ad 1) V.2.1)) (w1 := (WR Y (ad 1) V.2.1)) (ws' := (WX Y ad V)) (rest := [.int (100 * r2)]) X (kX3_toAt l Dd Y (ad 1) V.2.1 x1 r4 h3) (cwV 1 X.1.2.2.2.2 gX4_keptAsNumber_X3_toAt rfl rfl rfl (by decide +kernel) ⟨Nat.le_of_ble_eq_true rfl, Nat.le_of_ble_eq_true rfl⟩) hW (px_r Y ad V) (px_r Y ad V).symm 3 3 rfl rfl rfl rfl hl.1 rfl (Nat.le_of_ble_eq_true rfl) dX4_keptAsNumber_22 ⟨Nat.zero_le _, Nat.zero_le _⟩ (fun H locs hW => ?_)
  refine lv_iadd hx hb dX4_keptAsNumber_25 ?_
  have hd := Option.some.inj hd
  subst hd
  exact hQ _ _ _ _ rfl hW dX4_keptAsNumber_26
abbrev rmX4_kept : Room := { frames := 7, cells := 1, slots := 6, locals := 111 }
set_option maxRecDepth 100000 in
set_option maxHeartbeats 4000000 in
theorem kX4_kept (l : Launch) (hst : l.stackTraces = false) (Dd : va_G) (Y : yT) (ad : Nat → Nat → Nat) (V : gX) (x1 : Int32) (o : oX Int32) (hd : dnX4_kept V x1 = some o) : MX l yX4_kept wsX4_kept rmX4_kept Dd Y [.ref (ad 0 0), .int x1] (WX Y ad V) (oI Y ad V o) 1 6 := by
  refine MXk (cc := cX4_kept) (maxL := 2) (ret := some .int) hst rfl (by decide) rfl (Nat.le_of_ble_eq_true rfl) rfl rfl (fun {p e s m args below meth c A} ls Q X hW hl hI hV hT hN => ?_)
  have hx := X.x
  have hb := X.b
  have hl : lv_has ls 2 [(0, .ref (ad 0 0)), (1, .int x1)] := hl
  unfold dnX4_kept at hd
  refine lv_aload_n hx hb dX4_kept_0 rfl (lv_at hl 0 rfl) ?_
  refine lv_iload_n hx hb dX4_kept_1 rfl (lv_at hl 1 rfl) ?_
  obtain ⟨q2, h1, hd⟩ := bx_e hd
  refine xV_ (rest := []) X (kX4_demandKept l hst Dd Y ad V x1 q2 h1) (cwV 1 X.1.2.2.2.2 gX4_kept_X4_demandKept rfl rfl rfl (by decide +kernel) ⟨Nat.le_of_ble_eq_true rfl, Nat.le_of_ble_eq_true rfl⟩) hW 0 4 rfl rfl rfl rfl hl.1 rfl (Nat.le_of_ble_eq_true rfl) dX4_kept_2 ⟨Nat.le_of_ble_eq_true rfl, Nat.le_of_ble_eq_true rfl⟩ (fun E H locs ce q9 ho hW g1 g2 g3 => ?_) (fun rv w H locs ho hW => ?_)
  · rcases hd with ⟨E5, e5, e6⟩ | ⟨a5, e5, -⟩
    · subst e5; subst e6
      have ho : (.inl E5 : oW) = .inl E := ho
      cases ho
      exact hT _ _ _ _ _ _ _ _ _ _ rfl (Nat.le_of_ble_eq_true rfl) (Nat.le_of_ble_eq_true rfl) hW g1 g2 g3
    · subst e5; cases ho
  · rcases hd with ⟨E5, e5, -⟩ | ⟨a5, e5, hd⟩
    · subst e5; cases ho
    · subst e5
      have ho : (.inr (none, (WX Y ad V)) : oW) = .inr (rv, w) := ho
      cases ho
      refine W.eq (g2 := F0 m 5 ls []) rfl ?_
      refine lv_aload_n hx hb dX4_kept_5 rfl (lv_at hl 0 rfl) ?_
      refine lv_iload_n hx hb dX4_kept_6 rfl (lv_at hl 1 rfl) ?_
      obtain ⟨r4, h3, hd⟩ := bp_e hd
      refine cVi_ (rest := []) X (kX4_keptAsNumber l Dd Y ad V x1 r4 h3) (cwV 1 X.1.2.2.2.2 gX4_kept_X4_keptAsNumber rfl rfl rfl (by decide +kernel) ⟨Nat.le_of_ble_eq_true rfl, Nat.le_of_ble_eq_true rfl⟩) hW 0 4 rfl rfl rfl rfl hl.1 rfl (Nat.le_of_ble_eq_true rfl) dX4_kept_7 ⟨Nat.le_of_ble_eq_true rfl, Nat.le_of_ble_eq_true rfl⟩ (fun H locs hW => ?_)
      obtain rfl := Option.some.inj hd
      exact hI _ _ _ _ _ _ _ _ _ rfl rfl rfl (Nat.le_of_ble_eq_true rfl) (Nat.le_of_ble_eq_true rfl) hW dX4_kept_10
abbrev rmX4_gap : Room := { frames := 4, cells := 0, slots := 0, locals := 91 }
set_option maxRecDepth 100000 in
set_option maxHeartbeats 4000000 in
theorem kX4_gap (l : Launch) (Dd : va_G) (Y : yT) (ad : Nat → Nat → Nat) (V : gX) (r : Int32) (hd : dnX4_gap V = some r) : MG l yX4_gap wsX4_gap rmX4_gap Dd Y [.ref (ad 0 0)] (WX Y ad V) (WX Y ad V) (some (.int r)) := by
  refine MGi (cc := cX4_gap) (maxL := 5) (ty := .int) (by decide) rfl (Nat.le_of_ble_eq_true rfl) (fun {p e s m args below meth c A} ls Q X hW hl hQ => ?_)
  have hx := X.x
  have hb := X.b
  have hl : lv_has ls 5 [(0, .ref (ad 0 0))] := hl
  have hinX1 : ∀ w ∈ wsX10, w ∈ wsX4_gap := fun w h => List.mem_cons_of_mem _ (List.mem_append_left _ (List.mem_append_right _ h))
  have hinX3 : ∀ w ∈ wsX30, w ∈ wsX4_gap := fun w h => List.mem_cons_of_mem _ (List.mem_append_right _ h)
  have hinX4 : ∀ w ∈ wsX40, w ∈ wsX4_gap := fun w h => List.mem_cons_of_mem _ (List.mem_append_left _ (List.mem_append_left _ (List.mem_append_right _ h)))
  unfold dnX4_gap at hd
  have K22 : ∀ (V : gX) (x2 : Int32) (x3 : Int32) (n : Nat) (x1 : Int32) (x4 : Int32) (z : Nat × Int32), lpX4_gap_22 V x2 x3 n x1 x4 = some z → ∀ (H : Heap) (locs : List Loc) (ls : Array Slot), Wd Dd A s.heap (WX Y ad V) H locs → lv_has ls 5 [(0, .ref (ad 0 0)), (1, .int x1), (2, .int x2), (3, .int x3), (4, .int x4)] → (∀ (H : Heap) (locs : List Loc) (ls : Array Slot), z.1 = 0 → Wd Dd A s.heap (WX Y ad V) H locs → lv_has ls 5 [(0, .ref (ad 0 0)), (1, .int z.2), (2, .int x2)] → W p l e rmX4_gap s m args below meth c H locs 0 0 Q (F0 m 55 ls [])) → W p l e rmX4_gap s m args below meth c H locs 0 0 Q (F0 m 22 ls []) := by
    intro V x2 x3 n
    induction n with
    | zero => intro x1 x4 z hd; cases hd
    | succ n ih =>
      intro x1 x4 z hd H locs ls hW hl kx0
      unfold lpX4_gap_22 at hd
      refine lv_iload hx hb dX4_gap_22 (lv_at hl 4 rfl) ?_
      refine lv_iload_n hx hb dX4_gap_24 rfl (lv_at hl 3 rfl) ?_
      refine lv_icmp_ge (tgt := 55) hx hb dX4_gap_25 (by decide) (fun c1 => ?_) (fun c1 => ?_)
      · replace hd := if_t c1 hd
        cases hd
        exact kx0 _ _ _ rfl hW (lv_sub hl [0, 1, 2] rfl)
      · replace hd := if_f c1 hd
        refine lv_iload_n hx hb dX4_gap_28 rfl (lv_at hl 1 rfl) ?_
        refine lv_aload_n hx hb dX4_gap_29 rfl (lv_at hl 0 rfl) ?_
        refine g_ X hinX4 hW 0 rfl rfl 0 (by decide) 1 rfl rfl rfl dX4_gap_30 ?_
        refine lv_iload_n hx hb dX4_gap_33 rfl (lv_at hl 2 rfl) ?_
        refine lv_iload hx hb dX4_gap_34 (lv_at hl 4 rfl) ?_
        obtain ⟨r3, h2, hd⟩ := bp_e hd
        refine cVmi_ (wc := (WR Y (ad 1) V.2.1)) (w1 := (WR Y (ad 1) V.2.1)) (ws' := (WX Y ad V)) (rest := [.int x1]) X (kX1_isCellWrong l Dd Y (ad 1) V.2.1 x2 x4 r3 h2) (cwV 2 X.1.2.2.2.2 gX4_gap_X1_isCellWrong rfl rfl rfl (by decide +kernel) ⟨Nat.le_of_ble_eq_true rfl, Nat.le_of_ble_eq_true rfl⟩) hW (px_r Y ad V) (px_r Y ad V).symm 0 1 rfl rfl rfl rfl hl.1 rfl (Nat.le_of_ble_eq_true rfl) dX4_gap_36 ⟨Nat.zero_le _, Nat.zero_le _⟩ (fun H locs hW => ?_)
        refine lv_if_eq (tgt := 46) hx hb dX4_gap_39 (by decide) (fun c4 => ?_) (fun c4 => ?_)
        · replace hd := if_t c4 hd
          refine lv_iconst (v := 0) hx hb dX4_gap_46 (by decide) ?_
          refine lv_iadd hx hb dX4_gap_47 ?_
          refine lv_istore_n (lv' := [(1, .int (x1 + 0)), (0, .ref (ad 0 0)), (2, .int x2), (3, .int x3), (4, .int x4)]) hx hb dX4_gap_48 rfl hl (by decide) rfl (fun ls hl => ?_)
          refine lv_iinc (v := x4 + 1) (lv' := [(4, .int (x4 + 1)), (1, .int (x1 + 0)), (0, .ref (ad 0 0)), (2, .int x2), (3, .int x3)]) hx hb dX4_gap_49 hl (k := 4) rfl rfl (by decide) rfl (fun ls hl => ?_)
          refine lv_goto (tgt := 22) hx hb dX4_gap_52 (by decide) ?_
          exact ih (x1 + 0) (x4 + 1) z hd _ _ _ hW (lv_sub hl [2, 1, 3, 4, 0] rfl) kx0
        · replace hd := if_f c4 hd
          refine lv_iconst (v := 1) hx hb dX4_gap_42 (by decide) ?_
          refine lv_goto (tgt := 47) hx hb dX4_gap_43 (by decide) ?_
          refine lv_iadd hx hb dX4_gap_47 ?_
          refine lv_istore_n (lv' := [(1, .int (x1 + 1)), (0, .ref (ad 0 0)), (2, .int x2), (3, .int x3), (4, .int x4)]) hx hb dX4_gap_48 rfl hl (by decide) rfl (fun ls hl => ?_)
          refine lv_iinc (v := x4 + 1) (lv' := [(4, .int (x4 + 1)), (1, .int (x1 + 1)), (0, .ref (ad 0 0)), (2, .int x2), (3, .int x3)]) hx hb dX4_gap_49 hl (k := 4) rfl rfl (by decide) rfl (fun ls hl => ?_)
          refine lv_goto (tgt := 22) hx hb dX4_gap_52 (by decide) ?_
          exact ih (x1 + 1) (x4 + 1) z hd _ _ _ hW (lv_sub hl [2, 1, 3, 4, 0] rfl) kx0
  have K63 : ∀ (V : gX) (n : Nat) (x1 : Int32) (x2 : Int32) (z : Nat × Int32), lpX4_gap_63 V n x1 x2 = some z → ∀ (H : Heap) (locs : List Loc) (ls : Array Slot), Wd Dd A s.heap (WX Y ad V) H locs → lv_has ls 5 [(0, .ref (ad 0 0)), (1, .int x1), (2, .int x2)] → (∀ (H : Heap) (locs : List Loc) (ls : Array Slot), z.1 = 0 → Wd Dd A s.heap (WX Y ad V) H locs → lv_has ls 5 [(1, .int z.2)] → W p l e rmX4_gap s m args below meth c H locs 0 0 Q (F0 m 123 ls [])) → W p l e rmX4_gap s m args below meth c H locs 0 0 Q (F0 m 63 ls []) := by
    intro V n
    induction n with
    | zero => intro x1 x2 z hd; cases hd
    | succ n ih =>
      intro x1 x2 z hd H locs ls hW hl kx0
      unfold lpX4_gap_63 at hd
      refine lv_iload_n hx hb dX4_gap_63 rfl (lv_at hl 2 rfl) ?_
      refine lv_aload_n hx hb dX4_gap_64 rfl (lv_at hl 0 rfl) ?_
      refine g_ X hinX4 hW 0 rfl rfl 0 (by decide) 1 rfl rfl rfl dX4_gap_65 ?_
      refine g_ X hinX1 hW 1 rfl rfl 2 (by decide) 2 rfl rfl rfl dX4_gap_68 ?_
      refine g_ X hinX3 hW 4 rfl rfl 2 (by decide) 3 rfl rfl rfl dX4_gap_71 ?_
      refine lv_icmp_ge (tgt := 123) hx hb dX4_gap_74 (by decide) (fun c5 => ?_) (fun c5 => ?_)
      · replace hd := if_t c5 hd
        cases hd
        exact kx0 _ _ _ rfl hW (lv_sub hl [1] rfl)
      · replace hd := if_f c5 hd
        refine lv_iload_n hx hb dX4_gap_77 rfl (lv_at hl 1 rfl) ?_
        refine lv_aload_n hx hb dX4_gap_78 rfl (lv_at hl 0 rfl) ?_
        refine g_ X hinX4 hW 0 rfl rfl 0 (by decide) 1 rfl rfl rfl dX4_gap_79 ?_
        refine lv_aload_n hx hb dX4_gap_82 rfl (lv_at hl 0 rfl) ?_
        refine g_ X hinX4 hW 0 rfl rfl 0 (by decide) 1 rfl rfl rfl dX4_gap_83 ?_
        refine g_ X hinX1 hW 1 rfl rfl 2 (by decide) 2 rfl rfl rfl dX4_gap_86 ?_
        refine lv_iload_n hx hb dX4_gap_89 rfl (lv_at hl 2 rfl) ?_
        obtain ⟨r7, h6, hd⟩ := bp_e hd
        refine cVmi_ (wc := (WR Y (ad 1) V.2.1)) (w1 := (WR Y (ad 1) V.2.1)) (ws' := (WX Y ad V)) (rest := [.ref (ad 1 0), .int x1]) X (kX3_fromAt l Dd Y (ad 1) V.2.1 x2 r7 h6) (cwV 1 X.1.2.2.2.2 gX4_gap_X3_fromAt rfl rfl rfl (by decide +kernel) ⟨Nat.le_of_ble_eq_true rfl, Nat.le_of_ble_eq_true rfl⟩) hW (px_r Y ad V) (px_r Y ad V).symm 3 3 rfl rfl rfl rfl hl.1 rfl (Nat.le_of_ble_eq_true rfl) dX4_gap_90 ⟨Nat.zero_le _, Nat.zero_le _⟩ (fun H locs hW => ?_)
        refine lv_aload_n hx hb dX4_gap_93 rfl (lv_at hl 0 rfl) ?_
        refine g_ X hinX4 hW 0 rfl rfl 0 (by decide) 1 rfl rfl rfl dX4_gap_94 ?_
        refine g_ X hinX1 hW 1 rfl rfl 2 (by decide) 2 rfl rfl rfl dX4_gap_97 ?_
        refine lv_iload_n hx hb dX4_gap_100 rfl (lv_at hl 2 rfl) ?_
        obtain ⟨r9, h8, hd⟩ := bp_e hd
        refine cVmi_ (wc := (WR Y (ad 1) V.2.1)) (w1 := (WR Y (ad 1) V.2.1)) (ws' := (WX Y ad V)) (rest := [.int r7, .ref (ad 1 0), .int x1]) X (kX3_toAt l Dd Y (ad 1) V.2.1 x2 r9 h8) (cwV 1 X.1.2.2.2.2 gX4_gap_X3_toAt rfl rfl rfl (by decide +kernel) ⟨Nat.le_of_ble_eq_true rfl, Nat.le_of_ble_eq_true rfl⟩) hW (px_r Y ad V) (px_r Y ad V).symm 3 3 rfl rfl rfl rfl hl.1 rfl (Nat.le_of_ble_eq_true rfl) dX4_gap_101 ⟨Nat.zero_le _, Nat.zero_le _⟩ (fun H locs hW => ?_)
        obtain ⟨r11, h10, hd⟩ := bp_e hd
        refine cVmi_ (wc := (WR Y (ad 1) V.2.1)) (w1 := (WR Y (ad 1) V.2.1)) (ws' := (WX Y ad V)) (rest := [.int x1]) X (kX1_hasStretch l Dd Y (ad 1) V.2.1 r7 r9 r11 h10) (cwV 2 X.1.2.2.2.2 gX4_gap_X1_hasStretch rfl rfl rfl (by decide +kernel) ⟨Nat.le_of_ble_eq_true rfl, Nat.le_of_ble_eq_true rfl⟩) hW (px_r Y ad V) (px_r Y ad V).symm 0 1 rfl rfl rfl rfl hl.1 rfl (Nat.le_of_ble_eq_true rfl) dX4_gap_104 ⟨Nat.zero_le _, Nat.zero_le _⟩ (fun H locs hW => ?_)
        refine lv_if_eq (tgt := 114) hx hb dX4_gap_107 (by decide) (fun c12 => ?_) (fun c12 => ?_)
        · replace hd := if_t c12 hd
          refine lv_iconst (v := 1) hx hb dX4_gap_114 (by decide) ?_
          refine lv_iadd hx hb dX4_gap_115 ?_
          refine lv_istore_n (lv' := [(1, .int (x1 + 1)), (0, .ref (ad 0 0)), (2, .int x2)]) hx hb dX4_gap_116 rfl hl (by decide) rfl (fun ls hl => ?_)
          refine lv_iinc (v := x2 + 1) (lv' := [(2, .int (x2 + 1)), (1, .int (x1 + 1)), (0, .ref (ad 0 0))]) hx hb dX4_gap_117 hl (k := 2) rfl rfl (by decide) rfl (fun ls hl => ?_)
          refine lv_goto (tgt := 63) hx hb dX4_gap_120 (by decide) ?_
          exact ih (x1 + 1) (x2 + 1) z hd _ _ _ hW (lv_sub hl [2, 1, 0] rfl) kx0
        · replace hd := if_f c12 hd
          refine lv_iconst (v := 0) hx hb dX4_gap_110 (by decide) ?_
          refine lv_goto (tgt := 115) hx hb dX4_gap_111 (by decide) ?_
          refine lv_iadd hx hb dX4_gap_115 ?_
          refine lv_istore_n (lv' := [(1, .int (x1 + 0)), (0, .ref (ad 0 0)), (2, .int x2)]) hx hb dX4_gap_116 rfl hl (by decide) rfl (fun ls hl => ?_)
          refine lv_iinc (v := x2 + 1) (lv' := [(2, .int (x2 + 1)), (1, .int (x1 + 0)), (0, .ref (ad 0 0))]) hx hb dX4_gap_117 hl (k := 2) rfl rfl (by decide) rfl (fun ls hl => ?_)
          refine lv_goto (tgt := 63) hx hb dX4_gap_120 (by decide) ?_
          exact ih (x1 + 0) (x2 + 1) z hd _ _ _ hW (lv_sub hl [2, 1, 0] rfl) kx0
  have K4 : ∀ (V : gX) (n : Nat) (x1 : Int32) (x2 : Int32) (z : Nat × Int32), lpX4_gap_4 V n x1 x2 = some z → ∀ (H : Heap) (locs : List Loc) (ls : Array Slot), Wd Dd A s.heap (WX Y ad V) H locs → lv_has ls 5 [(0, .ref (ad 0 0)), (1, .int x1), (2, .int x2)] → (∀ (H : Heap) (locs : List Loc) (ls : Array Slot), z.1 = 0 → Wd Dd A s.heap (WX Y ad V) H locs → lv_has ls 5 [(0, .ref (ad 0 0)), (1, .int z.2)] → W p l e rmX4_gap s m args below meth c H locs 0 0 Q (F0 m 61 ls [])) → W p l e rmX4_gap s m args below meth c H locs 0 0 Q (F0 m 4 ls []) := by
    intro V n
    induction n with
    | zero => intro x1 x2 z hd; cases hd
    | succ n ih =>
      intro x1 x2 z hd H locs ls hW hl kx0
      unfold lpX4_gap_4 at hd
      refine lv_iload_n hx hb dX4_gap_4 rfl (lv_at hl 2 rfl) ?_
      refine lv_bipush (v := 6) hx hb dX4_gap_5 (by decide) ?_
      refine lv_icmp_ge (tgt := 61) hx hb dX4_gap_7 (by decide) (fun c13 => ?_) (fun c13 => ?_)
      · replace hd := if_t c13 hd
        cases hd
        exact kx0 _ _ _ rfl hW (lv_sub hl [0, 1] rfl)
      · replace hd := if_f c13 hd
        refine lv_aload_n hx hb dX4_gap_10 rfl (lv_at hl 0 rfl) ?_
        refine g_ X hinX4 hW 0 rfl rfl 0 (by decide) 1 rfl rfl rfl dX4_gap_11 ?_
        refine lv_iload_n hx hb dX4_gap_14 rfl (lv_at hl 2 rfl) ?_
        obtain ⟨r15, h14, hd⟩ := bp_e hd
        refine cVmi_ (wc := (WR Y (ad 1) V.2.1)) (w1 := (WR Y (ad 1) V.2.1)) (ws' := (WX Y ad V)) (rest := []) X (kX1_cellsOnLevel l Dd Y (ad 1) V.2.1 x2 r15 h14) (cwV 1 X.1.2.2.2.2 gX4_gap_X1_cellsOnLevel rfl rfl rfl (by decide +kernel) ⟨Nat.le_of_ble_eq_true rfl, Nat.le_of_ble_eq_true rfl⟩) hW (px_r Y ad V) (px_r Y ad V).symm 0 1 rfl rfl rfl rfl hl.1 rfl (Nat.le_of_ble_eq_true rfl) dX4_gap_15 ⟨Nat.zero_le _, Nat.zero_le _⟩ (fun H locs hW => ?_)
        refine lv_istore_n (lv' := [(3, .int r15), (0, .ref (ad 0 0)), (1, .int x1), (2, .int x2)]) hx hb dX4_gap_18 rfl hl (by decide) rfl (fun ls hl => ?_)
        refine lv_iconst (v := 0) hx hb dX4_gap_19 (by decide) ?_
        refine lv_istore (lv' := [(4, .int 0), (3, .int r15), (0, .ref (ad 0 0)), (1, .int x1), (2, .int x2)]) hx hb dX4_gap_20 hl (by decide) rfl (fun ls hl => ?_)
        obtain ⟨z22_15, hz22_15, hd⟩ := bp_e hd
        refine K22 V x2 r15 FU x1 0 z22_15 hz22_15 _ _ _ hW (lv_sub hl [2, 3, 4, 1, 0] rfl) (fun H locs ls e22 hW hl => ?_)
        refine lv_iinc (v := x2 + 1) (lv' := [(2, .int (x2 + 1)), (0, .ref (ad 0 0)), (1, .int z22_15.2)]) hx hb dX4_gap_55 hl (k := 2) rfl rfl (by decide) rfl (fun ls hl => ?_)
        refine lv_goto (tgt := 4) hx hb dX4_gap_58 (by decide) ?_
        exact ih z22_15.2 (x2 + 1) z hd _ _ _ hW (lv_sub hl [1, 2, 0] rfl) kx0
  refine lv_iconst (v := 0) hx hb dX4_gap_0 (by decide) ?_
  refine lv_istore_n (lv' := [(1, .int 0), (0, .ref (ad 0 0))]) hx hb dX4_gap_1 rfl hl (by decide) rfl (fun ls hl => ?_)
  refine lv_iconst (v := 1) hx hb dX4_gap_2 (by decide) ?_
  refine lv_istore_n (lv' := [(2, .int 1), (1, .int 0), (0, .ref (ad 0 0))]) hx hb dX4_gap_3 rfl hl (by decide) rfl (fun ls hl => ?_)
  obtain ⟨z4_16, hz4_16, hd⟩ := bp_e hd
  refine K4 V FU 0 1 z4_16 hz4_16 _ _ _ hW (lv_sub hl [2, 1, 0] rfl) (fun H locs ls e4 hW hl => ?_)
  refine lv_iconst (v := 0) hx hb dX4_gap_61 (by decide) ?_
  refine lv_istore_n (lv' := [(2, .int 0), (0, .ref (ad 0 0)), (1, .int z4_16.2)]) hx hb dX4_gap_62 rfl hl (by decide) rfl (fun ls hl => ?_)
  obtain ⟨z63_17, hz63_17, hd⟩ := bp_e hd
  refine K63 V FU z4_16.2 0 z63_17 hz63_17 _ _ _ hW (lv_sub hl [1, 2, 0] rfl) (fun H locs ls e63 hW hl => ?_)
  refine lv_iload_n hx hb dX4_gap_123 rfl (lv_at hl 0 rfl) ?_
  have hd := Option.some.inj hd
  subst hd
  exact hQ _ _ _ _ rfl hW dX4_gap_124
abbrev rmX4_demandValue : Room := { frames := 6, cells := 1, slots := 6, locals := 90 }
set_option maxRecDepth 100000 in
set_option maxHeartbeats 4000000 in
theorem kX4_demandValue (l : Launch) (hst : l.stackTraces = false) (Dd : va_G) (Y : yT) (ad : Nat → Nat → Nat) (V : gX) (x1 : Int32) (o : oX Unit) (hd : dnX4_demandValue V x1 = some o) : MX l yX4_demandValue wsX4_demandValue rmX4_demandValue Dd Y [.ref (ad 0 0), .int x1] (WX Y ad V) (oV Y ad V o) 1 6 := by
  refine MXk (cc := cX4_demandValue) (maxL := 2) (ret := none) hst rfl (by decide) rfl (Nat.le_of_ble_eq_true rfl) rfl rfl (fun {p e s m args below meth c A} ls Q X hW hl hI hV hT hN => ?_)
  have hx := X.x
  have hb := X.b
  have hl : lv_has ls 2 [(0, .ref (ad 0 0)), (1, .int x1)] := hl
  unfold dnX4_demandValue at hd
  refine lv_iload_n hx hb dX4_demandValue_0 rfl (lv_at hl 1 rfl) ?_
  refine lv_sipush (v := (-999)) hx hb dX4_demandValue_1 (by decide) ?_
  refine lv_icmp_lt (tgt := 14) hx hb dX4_demandValue_4 (by decide) (fun c1 => ?_) (fun c1 => ?_)
  · replace hd := if_t c1 hd
    obtain rfl := Option.some.inj hd
    exact hN _ _ _ _ _ 14 _ "java/lang/IllegalArgumentException" "value is not -999 to 999" 51 240 55 1 2 10 rfl (by decide) rfl rfl rfl (by rw [show atE 55 "java/lang/IllegalArgumentException" = _ from atE_s (by decide)]; exact fun w h => List.mem_cons_of_mem _ (List.mem_append_right _ h)) hW hl.1 (Nat.le_of_ble_eq_true rfl) dX4_demandValue_14 dX4_demandValue_17 dX4_demandValue_18 dX4_demandValue_20 dX4_demandValue_23 (Nat.le_of_ble_eq_true rfl) (Nat.le_of_ble_eq_true rfl) (Nat.le_of_ble_eq_true rfl) (Nat.le_of_ble_eq_true rfl)
  · replace hd := if_f c1 hd
    refine lv_iload_n hx hb dX4_demandValue_7 rfl (lv_at hl 1 rfl) ?_
    refine lv_sipush (v := 999) hx hb dX4_demandValue_8 (by decide) ?_
    refine lv_icmp_le (tgt := 24) hx hb dX4_demandValue_11 (by decide) (fun c2 => ?_) (fun c2 => ?_)
    · replace hd := if_t c2 hd
      obtain rfl := Option.some.inj hd
      exact hV _ _ _ _ _ _ _ rfl rfl (Nat.le_of_ble_eq_true rfl) (Nat.le_of_ble_eq_true rfl) hW dX4_demandValue_24
    · replace hd := if_f c2 hd
      obtain rfl := Option.some.inj hd
      exact hN _ _ _ _ _ 14 _ "java/lang/IllegalArgumentException" "value is not -999 to 999" 51 240 55 1 2 10 rfl (by decide) rfl rfl rfl (by rw [show atE 55 "java/lang/IllegalArgumentException" = _ from atE_s (by decide)]; exact fun w h => List.mem_cons_of_mem _ (List.mem_append_right _ h)) hW hl.1 (Nat.le_of_ble_eq_true rfl) dX4_demandValue_14 dX4_demandValue_17 dX4_demandValue_18 dX4_demandValue_20 dX4_demandValue_23 (Nat.le_of_ble_eq_true rfl) (Nat.le_of_ble_eq_true rfl) (Nat.le_of_ble_eq_true rfl) (Nat.le_of_ble_eq_true rfl)
abbrev rmX4_set : Room := { frames := 7, cells := 2, slots := 12, locals := 113 }
set_option maxRecDepth 100000 in
set_option maxHeartbeats 4000000 in
theorem kX4_set (l : Launch) (hst : l.stackTraces = false) (Dd : va_G) (Y : yT) (ad : Nat → Nat → Nat) (V : gX) (x1 : Int32) (x2 : Int32) (o : oX (Int32 × gX)) (hd : dnX4_set V x1 x2 = some o) : MX l yX4_set wsX4_set rmX4_set Dd Y [.ref (ad 0 0), .int x1, .int x2] (WX Y ad V) (oS Y ad o) 2 12 := by
  refine MXk (cc := cX4_set) (maxL := 3) (ret := some .int) hst rfl (by decide) rfl (Nat.le_of_ble_eq_true rfl) rfl rfl (fun {p e s m args below meth c A} ls Q X hW hl hI hV hT hN => ?_)
  have hx := X.x
  have hb := X.b
  have hl : lv_has ls 3 [(0, .ref (ad 0 0)), (1, .int x1), (2, .int x2)] := hl
  have hinX4 : ∀ w ∈ wsX40, w ∈ wsX4_set := fun w h => List.mem_cons_of_mem _ (List.mem_append_left _ (List.mem_append_left _ (List.mem_append_left _ (List.mem_append_left _ (List.mem_append_left _ (List.mem_append_right _ h))))))
  unfold dnX4_set at hd
  refine lv_aload_n hx hb dX4_set_0 rfl (lv_at hl 0 rfl) ?_
  refine lv_iload_n hx hb dX4_set_1 rfl (lv_at hl 1 rfl) ?_
  obtain ⟨q2, h1, hd⟩ := bx_e hd
  refine xV_ (rest := []) X (kX4_demandPlace l hst Dd Y ad V x1 q2 h1) (cwV 1 X.1.2.2.2.2 gX4_set_X4_demandPlace rfl rfl rfl (by decide +kernel) ⟨Nat.le_of_ble_eq_true rfl, Nat.le_of_ble_eq_true rfl⟩) hW 0 4 rfl rfl rfl rfl hl.1 rfl (Nat.le_of_ble_eq_true rfl) dX4_set_2 ⟨Nat.le_of_ble_eq_true rfl, Nat.le_of_ble_eq_true rfl⟩ (fun E H locs ce q9 ho hW g1 g2 g3 => ?_) (fun rv w H locs ho hW => ?_)
  · rcases hd with ⟨E5, e5, e6⟩ | ⟨a5, e5, -⟩
    · subst e5; subst e6
      have ho : (.inl E5 : oW) = .inl E := ho
      cases ho
      exact hT _ _ _ _ _ _ _ _ _ _ rfl (Nat.le_of_ble_eq_true rfl) (Nat.le_of_ble_eq_true rfl) hW g1 g2 g3
    · subst e5; cases ho
  · rcases hd with ⟨E5, e5, -⟩ | ⟨a5, e5, hd⟩
    · subst e5; cases ho
    · subst e5
      have ho : (.inr (none, (WX Y ad V)) : oW) = .inr (rv, w) := ho
      cases ho
      refine W.eq (g2 := F0 m 5 ls []) rfl ?_
      refine lv_aload_n hx hb dX4_set_5 rfl (lv_at hl 0 rfl) ?_
      refine lv_iload_n hx hb dX4_set_6 rfl (lv_at hl 2 rfl) ?_
      obtain ⟨q4, h3, hd⟩ := bx_e hd
      refine xV_ (rest := []) X (kX4_demandValue l hst Dd Y ad V x2 q4 h3) (cwV 1 X.1.2.2.2.2 gX4_set_X4_demandValue rfl rfl rfl (by decide +kernel) ⟨Nat.le_of_ble_eq_true rfl, Nat.le_of_ble_eq_true rfl⟩) hW 0 4 rfl rfl rfl rfl hl.1 rfl (Nat.le_of_ble_eq_true rfl) dX4_set_7 ⟨Nat.le_of_ble_eq_true rfl, Nat.le_of_ble_eq_true rfl⟩ (fun E H locs ce q9 ho hW g1 g2 g3 => ?_) (fun rv w H locs ho hW => ?_)
      · rcases hd with ⟨E5, e5, e6⟩ | ⟨a5, e5, -⟩
        · subst e5; subst e6
          have ho : (.inl E5 : oW) = .inl E := ho
          cases ho
          exact hT _ _ _ _ _ _ _ _ _ _ rfl (Nat.le_of_ble_eq_true rfl) (Nat.le_of_ble_eq_true rfl) hW g1 g2 g3
        · subst e5; cases ho
      · rcases hd with ⟨E5, e5, -⟩ | ⟨a5, e5, hd⟩
        · subst e5; cases ho
        · subst e5
          have ho : (.inr (none, (WX Y ad V)) : oW) = .inr (rv, w) := ho
          cases ho
          refine W.eq (g2 := F0 m 10 ls []) rfl ?_
          refine lv_aload_n hx hb dX4_set_10 rfl (lv_at hl 0 rfl) ?_
          refine g_ X hinX4 hW 0 rfl rfl 1 (by decide) 1 rfl rfl rfl dX4_set_11 ?_
          refine lv_aload_n hx hb dX4_set_14 rfl (lv_at hl 0 rfl) ?_
          refine g_ X hinX4 hW 0 rfl rfl 0 (by decide) 2 rfl rfl rfl dX4_set_15 ?_
          obtain ⟨hi8, hd⟩ := wi_e hd
          obtain ⟨H9, eH9, hd⟩ := bw_e hd
          obtain ⟨j7, hjj7, ejj7⟩ := vp_in_of hi8 (by decide)
          rw [show (V.2.2.2.1 0 1).toNatClampNeg = j7 from by rw [ejj7]; exact nI_clamp (by omega)] at eH9
          refine cVmv_ (rest := []) (post := px_hh Y ad V) (ws' := (WX Y ad (V.1, V.2.1, V.2.2.1, H9))) X (kX0_save l Dd Y (ad 2) (fun k => ad (5 + k)) (ad 1) V.2.2.2.1 V.2.2.2.2 V.2.1 j7 hjj7 ejj7) (cwV 1 X.1.2.2.2.2 gX4_set_X0_save rfl rfl rfl (by decide +kernel) ⟨Nat.le_of_ble_eq_true rfl, Nat.le_of_ble_eq_true rfl⟩) hW (px_h Y ad V) (by rw [eH9]; exact (px_h Y ad (V.1, V.2.1, V.2.2.1, (hSave V.2.2.2.1, va_up V.2.2.2.2 j7 V.2.1))).symm) 0 0 rfl rfl rfl rfl hl.1 rfl (Nat.le_of_ble_eq_true rfl) dX4_set_18 ⟨Nat.le_of_ble_eq_true rfl, Nat.le_of_ble_eq_true rfl⟩ (fun H locs hW => ?_)
          refine lv_aload_n hx hb dX4_set_21 rfl (lv_at hl 0 rfl) ?_
          refine g_ X hinX4 hW 0 rfl rfl 0 (by decide) 2 rfl rfl rfl dX4_set_22 ?_
          refine lv_iload_n hx hb dX4_set_25 rfl (lv_at hl 1 rfl) ?_
          refine lv_iload_n hx hb dX4_set_26 rfl (lv_at hl 2 rfl) ?_
          obtain ⟨r11, G12, h10, hd⟩ := bs_e hd
          refine cVmi_ (wc := (WR Y (ad 1) V.2.1)) (w1 := (WR Y (ad 1) G12)) (ws' := (WX Y ad (V.1, G12, V.2.2.1, H9))) (rest := []) X (kX1_change l Dd Y (ad 1) V.2.1 x1 x2 r11 G12 h10) (cwV 2 X.1.2.2.2.2 gX4_set_X1_change rfl rfl rfl (by decide +kernel) ⟨Nat.le_of_ble_eq_true rfl, Nat.le_of_ble_eq_true rfl⟩) hW (px_r Y ad (V.1, V.2.1, V.2.2.1, H9)) (px_r Y ad (V.1, G12, V.2.2.1, H9)).symm 0 1 rfl rfl rfl rfl hl.1 rfl (Nat.le_of_ble_eq_true rfl) dX4_set_27 ⟨Nat.le_of_ble_eq_true rfl, Nat.le_of_ble_eq_true rfl⟩ (fun H locs hW => ?_)
          obtain rfl := Option.some.inj hd
          exact hI _ _ _ _ _ _ _ _ _ rfl rfl rfl (Nat.le_of_ble_eq_true rfl) (Nat.le_of_ble_eq_true rfl) hW dX4_set_30
abbrev rmX4_demandStretch : Room := { frames := 7, cells := 3, slots := 18, locals := 111 }
set_option maxRecDepth 100000 in
set_option maxHeartbeats 4000000 in
theorem kX4_demandStretch (l : Launch) (hst : l.stackTraces = false) (Dd : va_G) (Y : yT) (ad : Nat → Nat → Nat) (V : gX) (x1 : Int32) (x2 : Int32) (o : oX Unit) (hd : dnX4_demandStretch V x1 x2 = some o) : MX l yX4_demandStretch wsX4_demandStretch rmX4_demandStretch Dd Y [.ref (ad 0 0), .int x1, .int x2] (WX Y ad V) (oV Y ad V o) 3 18 := by
  refine MXk (cc := cX4_demandStretch) (maxL := 3) (ret := none) hst rfl (by decide) rfl (Nat.le_of_ble_eq_true rfl) rfl rfl (fun {p e s m args below meth c A} ls Q X hW hl hI hV hT hN => ?_)
  have hx := X.x
  have hb := X.b
  have hl : lv_has ls 3 [(0, .ref (ad 0 0)), (1, .int x1), (2, .int x2)] := hl
  unfold dnX4_demandStretch at hd
  refine lv_aload_n hx hb dX4_demandStretch_0 rfl (lv_at hl 0 rfl) ?_
  refine lv_iload_n hx hb dX4_demandStretch_1 rfl (lv_at hl 1 rfl) ?_
  obtain ⟨q2, h1, hd⟩ := bx_e hd
  refine xV_ (rest := []) X (kX4_demandPlace l hst Dd Y ad V x1 q2 h1) (cwV 1 X.1.2.2.2.2 gX4_demandStretch_X4_demandPlace rfl rfl rfl (by decide +kernel) ⟨Nat.le_of_ble_eq_true rfl, Nat.le_of_ble_eq_true rfl⟩) hW 0 4 rfl rfl rfl rfl hl.1 rfl (Nat.le_of_ble_eq_true rfl) dX4_demandStretch_2 ⟨Nat.le_of_ble_eq_true rfl, Nat.le_of_ble_eq_true rfl⟩ (fun E H locs ce q9 ho hW g1 g2 g3 => ?_) (fun rv w H locs ho hW => ?_)
  · rcases hd with ⟨E5, e5, e6⟩ | ⟨a5, e5, -⟩
    · subst e5; subst e6
      have ho : (.inl E5 : oW) = .inl E := ho
      cases ho
      exact hT _ _ _ _ _ _ _ _ _ _ rfl (Nat.le_of_ble_eq_true rfl) (Nat.le_of_ble_eq_true rfl) hW g1 g2 g3
    · subst e5; cases ho
  · rcases hd with ⟨E5, e5, -⟩ | ⟨a5, e5, hd⟩
    · subst e5; cases ho
    · subst e5
      have ho : (.inr (none, (WX Y ad V)) : oW) = .inr (rv, w) := ho
      cases ho
      refine W.eq (g2 := F0 m 5 ls []) rfl ?_
      refine lv_aload_n hx hb dX4_demandStretch_5 rfl (lv_at hl 0 rfl) ?_
      refine lv_iload_n hx hb dX4_demandStretch_6 rfl (lv_at hl 2 rfl) ?_
      obtain ⟨q4, h3, hd⟩ := bx_e hd
      refine xV_ (rest := []) X (kX4_demandPlace l hst Dd Y ad V x2 q4 h3) (cwV 1 X.1.2.2.2.2 gX4_demandStretch_X4_demandPlace rfl rfl rfl (by decide +kernel) ⟨Nat.le_of_ble_eq_true rfl, Nat.le_of_ble_eq_true rfl⟩) hW 0 4 rfl rfl rfl rfl hl.1 rfl (Nat.le_of_ble_eq_true rfl) dX4_demandStretch_7 ⟨Nat.le_of_ble_eq_true rfl, Nat.le_of_ble_eq_true rfl⟩ (fun E H locs ce q9 ho hW g1 g2 g3 => ?_) (fun rv w H locs ho hW => ?_)
      · rcases hd with ⟨E5, e5, e6⟩ | ⟨a5, e5, -⟩
        · subst e5; subst e6
          have ho : (.inl E5 : oW) = .inl E := ho
          cases ho
          exact hT _ _ _ _ _ _ _ _ _ _ rfl (Nat.le_of_ble_eq_true rfl) (Nat.le_of_ble_eq_true rfl) hW g1 g2 g3
        · subst e5; cases ho
      · rcases hd with ⟨E5, e5, -⟩ | ⟨a5, e5, hd⟩
        · subst e5; cases ho
        · subst e5
          have ho : (.inr (none, (WX Y ad V)) : oW) = .inr (rv, w) := ho
          cases ho
          refine W.eq (g2 := F0 m 10 ls []) rfl ?_
          refine lv_iload_n hx hb dX4_demandStretch_10 rfl (lv_at hl 1 rfl) ?_
          refine lv_iload_n hx hb dX4_demandStretch_11 rfl (lv_at hl 2 rfl) ?_
          refine lv_icmp_le (tgt := 25) hx hb dX4_demandStretch_12 (by decide) (fun c5 => ?_) (fun c5 => ?_)
          · replace hd := if_t c5 hd
            obtain rfl := Option.some.inj hd
            exact hV _ _ _ _ _ _ _ rfl rfl (Nat.le_of_ble_eq_true rfl) (Nat.le_of_ble_eq_true rfl) hW dX4_demandStretch_25
          · replace hd := if_f c5 hd
            obtain rfl := Option.some.inj hd
            exact hN _ _ _ _ _ 15 _ "java/lang/IllegalArgumentException" "from is greater than to" 51 238 55 1 2 9 rfl (by decide) rfl rfl rfl (by rw [show atE 55 "java/lang/IllegalArgumentException" = _ from atE_s (by decide)]; exact fun w h => List.mem_cons_of_mem _ (List.mem_append_left _ (List.mem_append_right _ h))) hW hl.1 (Nat.le_of_ble_eq_true rfl) dX4_demandStretch_15 dX4_demandStretch_18 dX4_demandStretch_19 dX4_demandStretch_21 dX4_demandStretch_24 (Nat.le_of_ble_eq_true rfl) (Nat.le_of_ble_eq_true rfl) (Nat.le_of_ble_eq_true rfl) (Nat.le_of_ble_eq_true rfl)
abbrev rmX4_ask : Room := { frames := 8, cells := 3, slots := 18, locals := 133 }
set_option maxRecDepth 100000 in
set_option maxHeartbeats 4000000 in
theorem kX4_ask (l : Launch) (hst : l.stackTraces = false) (Dd : va_G) (Y : yT) (ad : Nat → Nat → Nat) (V : gX) (x1 : Int32) (x2 : Int32) (o : oX (Int32 × gX)) (hd : dnX4_ask V x1 x2 = some o) : MX l yX4_ask wsX4_ask rmX4_ask Dd Y [.ref (ad 0 0), .int x1, .int x2] (WX Y ad V) (oS Y ad o) 3 18 := by
  refine MXk (cc := cX4_ask) (maxL := 3) (ret := some .int) hst rfl (by decide) rfl (Nat.le_of_ble_eq_true rfl) rfl rfl (fun {p e s m args below meth c A} ls Q X hW hl hI hV hT hN => ?_)
  have hx := X.x
  have hb := X.b
  have hl : lv_has ls 3 [(0, .ref (ad 0 0)), (1, .int x1), (2, .int x2)] := hl
  have hinX4 : ∀ w ∈ wsX40, w ∈ wsX4_ask := fun w h => List.mem_cons_of_mem _ (List.mem_append_left _ (List.mem_append_left _ (List.mem_append_left _ (List.mem_append_left _ (List.mem_append_left _ (List.mem_append_right _ h))))))
  unfold dnX4_ask at hd
  refine lv_aload_n hx hb dX4_ask_0 rfl (lv_at hl 0 rfl) ?_
  refine lv_iload_n hx hb dX4_ask_1 rfl (lv_at hl 1 rfl) ?_
  refine lv_iload_n hx hb dX4_ask_2 rfl (lv_at hl 2 rfl) ?_
  obtain ⟨q2, h1, hd⟩ := bx_e hd
  refine xV_ (rest := []) X (kX4_demandStretch l hst Dd Y ad V x1 x2 q2 h1) (cwV 2 X.1.2.2.2.2 gX4_ask_X4_demandStretch rfl rfl rfl (by decide +kernel) ⟨Nat.le_of_ble_eq_true rfl, Nat.le_of_ble_eq_true rfl⟩) hW 0 4 rfl rfl rfl rfl hl.1 rfl (Nat.le_of_ble_eq_true rfl) dX4_ask_3 ⟨Nat.le_of_ble_eq_true rfl, Nat.le_of_ble_eq_true rfl⟩ (fun E H locs ce q9 ho hW g1 g2 g3 => ?_) (fun rv w H locs ho hW => ?_)
  · rcases hd with ⟨E5, e5, e6⟩ | ⟨a5, e5, -⟩
    · subst e5; subst e6
      have ho : (.inl E5 : oW) = .inl E := ho
      cases ho
      exact hT _ _ _ _ _ _ _ _ _ _ rfl (Nat.le_of_ble_eq_true rfl) (Nat.le_of_ble_eq_true rfl) hW g1 g2 g3
    · subst e5; cases ho
  · rcases hd with ⟨E5, e5, -⟩ | ⟨a5, e5, hd⟩
    · subst e5; cases ho
    · subst e5
      have ho : (.inr (none, (WX Y ad V)) : oW) = .inr (rv, w) := ho
      cases ho
      refine W.eq (g2 := F0 m 6 ls []) rfl ?_
      refine lv_aload_n hx hb dX4_ask_6 rfl (lv_at hl 0 rfl) ?_
      refine g_ X hinX4 hW 0 rfl rfl 1 (by decide) 1 rfl rfl rfl dX4_ask_7 ?_
      refine lv_aload_n hx hb dX4_ask_10 rfl (lv_at hl 0 rfl) ?_
      refine g_ X hinX4 hW 0 rfl rfl 0 (by decide) 2 rfl rfl rfl dX4_ask_11 ?_
      obtain ⟨hi6, hd⟩ := wi_e hd
      obtain ⟨H7, eH7, hd⟩ := bw_e hd
      obtain ⟨j5, hjj5, ejj5⟩ := vp_in_of hi6 (by decide)
      rw [show (V.2.2.2.1 0 1).toNatClampNeg = j5 from by rw [ejj5]; exact nI_clamp (by omega)] at eH7
      refine cVmv_ (rest := []) (post := px_hh Y ad V) (ws' := (WX Y ad (V.1, V.2.1, V.2.2.1, H7))) X (kX0_save l Dd Y (ad 2) (fun k => ad (5 + k)) (ad 1) V.2.2.2.1 V.2.2.2.2 V.2.1 j5 hjj5 ejj5) (cwV 1 X.1.2.2.2.2 gX4_ask_X0_save rfl rfl rfl (by decide +kernel) ⟨Nat.le_of_ble_eq_true rfl, Nat.le_of_ble_eq_true rfl⟩) hW (px_h Y ad V) (by rw [eH7]; exact (px_h Y ad (V.1, V.2.1, V.2.2.1, (hSave V.2.2.2.1, va_up V.2.2.2.2 j5 V.2.1))).symm) 0 0 rfl rfl rfl rfl hl.1 rfl (Nat.le_of_ble_eq_true rfl) dX4_ask_14 ⟨Nat.le_of_ble_eq_true rfl, Nat.le_of_ble_eq_true rfl⟩ (fun H locs hW => ?_)
      refine lv_aload_n hx hb dX4_ask_17 rfl (lv_at hl 0 rfl) ?_
      refine g_ X hinX4 hW 0 rfl rfl 0 (by decide) 2 rfl rfl rfl dX4_ask_18 ?_
      refine lv_iload_n hx hb dX4_ask_21 rfl (lv_at hl 1 rfl) ?_
      refine lv_iload_n hx hb dX4_ask_22 rfl (lv_at hl 2 rfl) ?_
      obtain ⟨r9, G10, h8, hd⟩ := bs_e hd
      refine cVmi_ (wc := (WR Y (ad 1) V.2.1)) (w1 := (WR Y (ad 1) G10)) (ws' := (WX Y ad (V.1, G10, V.2.2.1, H7))) (rest := []) X (kX1_question l Dd Y (ad 1) V.2.1 x1 x2 r9 G10 h8) (cwV 2 X.1.2.2.2.2 gX4_ask_X1_question rfl rfl rfl (by decide +kernel) ⟨Nat.le_of_ble_eq_true rfl, Nat.le_of_ble_eq_true rfl⟩) hW (px_r Y ad (V.1, V.2.1, V.2.2.1, H7)) (px_r Y ad (V.1, G10, V.2.2.1, H7)).symm 0 1 rfl rfl rfl rfl hl.1 rfl (Nat.le_of_ble_eq_true rfl) dX4_ask_23 ⟨Nat.le_of_ble_eq_true rfl, Nat.le_of_ble_eq_true rfl⟩ (fun H locs hW => ?_)
      obtain rfl := Option.some.inj hd
      exact hI _ _ _ _ _ _ _ _ _ rfl rfl rfl (Nat.le_of_ble_eq_true rfl) (Nat.le_of_ble_eq_true rfl) hW dX4_ask_26
abbrev rmX4_keep : Room := { frames := 8, cells := 4, slots := 24, locals := 133 }
set_option maxRecDepth 100000 in
set_option maxHeartbeats 4000000 in
theorem kX4_keep (l : Launch) (hst : l.stackTraces = false) (Dd : va_G) (Y : yT) (ad : Nat → Nat → Nat) (V : gX) (x1 : Int32) (x2 : Int32) (o : oX (Int32 × gX)) (hd : dnX4_keep V x1 x2 = some o) : MX l yX4_keep wsX4_keep rmX4_keep Dd Y [.ref (ad 0 0), .int x1, .int x2] (WX Y ad V) (oS Y ad o) 4 24 := by
  refine MXk (cc := cX4_keep) (maxL := 3) (ret := some .int) hst rfl (by decide) rfl (Nat.le_of_ble_eq_true rfl) rfl rfl (fun {p e s m args below meth c A} ls Q X hW hl hI hV hT hN => ?_)
  have hx := X.x
  have hb := X.b
  have hl : lv_has ls 3 [(0, .ref (ad 0 0)), (1, .int x1), (2, .int x2)] := hl
  have hinX1 : ∀ w ∈ wsX10, w ∈ wsX4_keep := fun w h => List.mem_cons_of_mem _ (List.mem_append_left _ (List.mem_append_left _ (List.mem_append_left _ (List.mem_append_left _ (List.mem_append_left _ (List.mem_append_right _ h))))))
  have hinX3 : ∀ w ∈ wsX30, w ∈ wsX4_keep := fun w h => List.mem_cons_of_mem _ (List.mem_append_left _ (List.mem_append_left _ (List.mem_append_left _ (List.mem_append_left _ (List.mem_append_right _ h)))))
  have hinX4 : ∀ w ∈ wsX40, w ∈ wsX4_keep := fun w h => List.mem_cons_of_mem _ (List.mem_append_left _ (List.mem_append_left _ (List.mem_append_left _ (List.mem_append_left _ (List.mem_append_left _ (List.mem_append_left _ (List.mem_append_right _ h)))))))
  unfold dnX4_keep at hd
  refine lv_aload_n hx hb dX4_keep_0 rfl (lv_at hl 0 rfl) ?_
  refine lv_iload_n hx hb dX4_keep_1 rfl (lv_at hl 1 rfl) ?_
  refine lv_iload_n hx hb dX4_keep_2 rfl (lv_at hl 2 rfl) ?_
  obtain ⟨q2, h1, hd⟩ := bx_e hd
  refine xV_ (rest := []) X (kX4_demandStretch l hst Dd Y ad V x1 x2 q2 h1) (cwV 2 X.1.2.2.2.2 gX4_keep_X4_demandStretch rfl rfl rfl (by decide +kernel) ⟨Nat.le_of_ble_eq_true rfl, Nat.le_of_ble_eq_true rfl⟩) hW 0 4 rfl rfl rfl rfl hl.1 rfl (Nat.le_of_ble_eq_true rfl) dX4_keep_3 ⟨Nat.le_of_ble_eq_true rfl, Nat.le_of_ble_eq_true rfl⟩ (fun E H locs ce q9 ho hW g1 g2 g3 => ?_) (fun rv w H locs ho hW => ?_)
  · rcases hd with ⟨E5, e5, e6⟩ | ⟨a5, e5, -⟩
    · subst e5; subst e6
      have ho : (.inl E5 : oW) = .inl E := ho
      cases ho
      exact hT _ _ _ _ _ _ _ _ _ _ rfl (Nat.le_of_ble_eq_true rfl) (Nat.le_of_ble_eq_true rfl) hW g1 g2 g3
    · subst e5; cases ho
  · rcases hd with ⟨E5, e5, -⟩ | ⟨a5, e5, hd⟩
    · subst e5; cases ho
    · subst e5
      have ho : (.inr (none, (WX Y ad V)) : oW) = .inr (rv, w) := ho
      cases ho
      refine W.eq (g2 := F0 m 6 ls []) rfl ?_
      refine lv_aload_n hx hb dX4_keep_6 rfl (lv_at hl 0 rfl) ?_
      refine g_ X hinX4 hW 0 rfl rfl 0 (by decide) 3 rfl rfl rfl dX4_keep_7 ?_
      refine g_ X hinX1 hW 1 rfl rfl 2 (by decide) 4 rfl rfl rfl dX4_keep_10 ?_
      refine g_ X hinX3 hW 4 rfl rfl 2 (by decide) 5 rfl rfl rfl dX4_keep_13 ?_
      refine lv_bipush (v := 8) hx hb dX4_keep_16 (by decide) ?_
      refine lv_icmp_lt (tgt := 31) hx hb dX4_keep_18 (by decide) (fun c3 => ?_) (fun c3 => ?_)
      · replace hd := if_t c3 hd
        refine lv_aload_n hx hb dX4_keep_31 rfl (lv_at hl 0 rfl) ?_
        refine g_ X hinX4 hW 0 rfl rfl 1 (by decide) 6 rfl rfl rfl dX4_keep_32 ?_
        refine lv_aload_n hx hb dX4_keep_35 rfl (lv_at hl 0 rfl) ?_
        refine g_ X hinX4 hW 0 rfl rfl 0 (by decide) 3 rfl rfl rfl dX4_keep_36 ?_
        obtain ⟨hi7, hd⟩ := wi_e hd
        obtain ⟨H8, eH8, hd⟩ := bw_e hd
        obtain ⟨j6, hjj6, ejj6⟩ := vp_in_of hi7 (by decide)
        rw [show (V.2.2.2.1 0 1).toNatClampNeg = j6 from by rw [ejj6]; exact nI_clamp (by omega)] at eH8
        refine cVmv_ (rest := []) (post := px_hh Y ad V) (ws' := (WX Y ad (V.1, V.2.1, V.2.2.1, H8))) X (kX0_save l Dd Y (ad 2) (fun k => ad (5 + k)) (ad 1) V.2.2.2.1 V.2.2.2.2 V.2.1 j6 hjj6 ejj6) (cwV 1 X.1.2.2.2.2 gX4_keep_X0_save rfl rfl rfl (by decide +kernel) ⟨Nat.le_of_ble_eq_true rfl, Nat.le_of_ble_eq_true rfl⟩) hW (px_h Y ad V) (by rw [eH8]; exact (px_h Y ad (V.1, V.2.1, V.2.2.1, (hSave V.2.2.2.1, va_up V.2.2.2.2 j6 V.2.1))).symm) 0 0 rfl rfl rfl rfl hl.1 rfl (Nat.le_of_ble_eq_true rfl) dX4_keep_39 ⟨Nat.le_of_ble_eq_true rfl, Nat.le_of_ble_eq_true rfl⟩ (fun H locs hW => ?_)
        refine lv_aload_n hx hb dX4_keep_42 rfl (lv_at hl 0 rfl) ?_
        refine g_ X hinX4 hW 0 rfl rfl 0 (by decide) 3 rfl rfl rfl dX4_keep_43 ?_
        refine g_ X hinX1 hW 1 rfl rfl 2 (by decide) 4 rfl rfl rfl dX4_keep_46 ?_
        refine lv_iload_n hx hb dX4_keep_49 rfl (lv_at hl 1 rfl) ?_
        refine lv_iload_n hx hb dX4_keep_50 rfl (lv_at hl 2 rfl) ?_
        obtain ⟨G10, h9, hd⟩ := bp_e hd
        refine cVmv_ (wc := (WR Y (ad 1) V.2.1)) (w1 := (WR Y (ad 1) G10)) (ws' := (WX Y ad (V.1, G10, V.2.2.1, H8))) (rest := []) X (kX3_add l Dd Y (ad 1) V.2.1 x1 x2 G10 h9) (cwV 2 X.1.2.2.2.2 gX4_keep_X3_add rfl rfl rfl (by decide +kernel) ⟨Nat.le_of_ble_eq_true rfl, Nat.le_of_ble_eq_true rfl⟩) hW (px_r Y ad (V.1, V.2.1, V.2.2.1, H8)) (px_r Y ad (V.1, G10, V.2.2.1, H8)).symm 3 3 rfl rfl rfl rfl hl.1 rfl (Nat.le_of_ble_eq_true rfl) dX4_keep_51 ⟨Nat.le_of_ble_eq_true rfl, Nat.le_of_ble_eq_true rfl⟩ (fun H locs hW => ?_)
        refine lv_aload_n hx hb dX4_keep_54 rfl (lv_at hl 0 rfl) ?_
        refine g_ X hinX4 hW 0 rfl rfl 0 (by decide) 3 rfl rfl rfl dX4_keep_55 ?_
        refine g_ X hinX1 hW 1 rfl rfl 2 (by decide) 4 rfl rfl rfl dX4_keep_58 ?_
        refine g_ X hinX3 hW 4 rfl rfl 2 (by decide) 5 rfl rfl rfl dX4_keep_61 ?_
        obtain rfl := Option.some.inj hd
        exact hI _ _ _ _ _ _ _ _ _ rfl rfl rfl (Nat.le_of_ble_eq_true rfl) (Nat.le_of_ble_eq_true rfl) hW dX4_keep_64
      · replace hd := if_f c3 hd
        obtain rfl := Option.some.inj hd
        exact hN _ _ _ _ _ 21 _ "java/lang/IllegalStateException" "8 stretches are kept" 192 194 196 1 2 3 rfl (by decide) rfl rfl rfl (by rw [show atE 196 "java/lang/IllegalStateException" = _ from atE_s (by decide)]; exact fun w h => List.mem_cons_of_mem _ (List.mem_append_left _ (List.mem_append_left _ (List.mem_append_right _ h)))) hW hl.1 (Nat.le_of_ble_eq_true rfl) dX4_keep_21 dX4_keep_24 dX4_keep_25 dX4_keep_27 dX4_keep_30 (Nat.le_of_ble_eq_true rfl) (Nat.le_of_ble_eq_true rfl) (Nat.le_of_ble_eq_true rfl) (Nat.le_of_ble_eq_true rfl)
abbrev rmX4_sweep : Room := { frames := 6, cells := 1, slots := 6, locals := 138 }
set_option maxRecDepth 100000 in
set_option maxHeartbeats 4000000 in
theorem kX4_sweep (l : Launch) (hst : l.stackTraces = false) (Dd : va_G) (Y : yT) (ad : Nat → Nat → Nat) (V : gX) (x1 : Int32) (o : oX (Int32 × gX)) (hd : dnX4_sweep V x1 = some o) : MX l yX4_sweep wsX4_sweep rmX4_sweep Dd Y [.ref (ad 0 0), .int x1] (WX Y ad V) (oS Y ad o) 1 6 := by
  refine MXk (cc := cX4_sweep) (maxL := 2) (ret := some .int) hst rfl (by decide) rfl (Nat.le_of_ble_eq_true rfl) rfl rfl (fun {p e s m args below meth c A} ls Q X hW hl hI hV hT hN => ?_)
  have hx := X.x
  have hb := X.b
  have hl : lv_has ls 2 [(0, .ref (ad 0 0)), (1, .int x1)] := hl
  have hinX4 : ∀ w ∈ wsX40, w ∈ wsX4_sweep := fun w h => List.mem_cons_of_mem _ (List.mem_append_left _ (List.mem_append_left _ (List.mem_append_left _ (List.mem_append_left _ (List.mem_append_right _ h)))))
  unfold dnX4_sweep at hd
  refine lv_iload_n hx hb dX4_sweep_0 rfl (lv_at hl 1 rfl) ?_
  refine lv_sipush (v := (-999)) hx hb dX4_sweep_1 (by decide) ?_
  refine lv_icmp_lt (tgt := 14) hx hb dX4_sweep_4 (by decide) (fun c1 => ?_) (fun c1 => ?_)
  · replace hd := if_t c1 hd
    obtain rfl := Option.some.inj hd
    exact hN _ _ _ _ _ 14 _ "java/lang/IllegalArgumentException" "limit is not -999 to 1000" 51 203 55 1 2 4 rfl (by decide) rfl rfl rfl (by rw [show atE 55 "java/lang/IllegalArgumentException" = _ from atE_s (by decide)]; exact fun w h => List.mem_cons_of_mem _ (List.mem_append_right _ h)) hW hl.1 (Nat.le_of_ble_eq_true rfl) dX4_sweep_14 dX4_sweep_17 dX4_sweep_18 dX4_sweep_20 dX4_sweep_23 (Nat.le_of_ble_eq_true rfl) (Nat.le_of_ble_eq_true rfl) (Nat.le_of_ble_eq_true rfl) (Nat.le_of_ble_eq_true rfl)
  · replace hd := if_f c1 hd
    refine lv_iload_n hx hb dX4_sweep_7 rfl (lv_at hl 1 rfl) ?_
    refine lv_sipush (v := 1000) hx hb dX4_sweep_8 (by decide) ?_
    refine lv_icmp_le (tgt := 24) hx hb dX4_sweep_11 (by decide) (fun c2 => ?_) (fun c2 => ?_)
    · replace hd := if_t c2 hd
      refine lv_aload_n hx hb dX4_sweep_24 rfl (lv_at hl 0 rfl) ?_
      refine g_ X hinX4 hW 0 rfl rfl 1 (by decide) 3 rfl rfl rfl dX4_sweep_25 ?_
      refine lv_aload_n hx hb dX4_sweep_28 rfl (lv_at hl 0 rfl) ?_
      refine g_ X hinX4 hW 0 rfl rfl 0 (by decide) 4 rfl rfl rfl dX4_sweep_29 ?_
      obtain ⟨hi6, hd⟩ := wi_e hd
      obtain ⟨H7, eH7, hd⟩ := bw_e hd
      obtain ⟨j5, hjj5, ejj5⟩ := vp_in_of hi6 (by decide)
      rw [show (V.2.2.2.1 0 1).toNatClampNeg = j5 from by rw [ejj5]; exact nI_clamp (by omega)] at eH7
      refine cVmv_ (rest := []) (post := px_hh Y ad V) (ws' := (WX Y ad (V.1, V.2.1, V.2.2.1, H7))) X (kX0_save l Dd Y (ad 2) (fun k => ad (5 + k)) (ad 1) V.2.2.2.1 V.2.2.2.2 V.2.1 j5 hjj5 ejj5) (cwV 1 X.1.2.2.2.2 gX4_sweep_X0_save rfl rfl rfl (by decide +kernel) ⟨Nat.le_of_ble_eq_true rfl, Nat.le_of_ble_eq_true rfl⟩) hW (px_h Y ad V) (by rw [eH7]; exact (px_h Y ad (V.1, V.2.1, V.2.2.1, (hSave V.2.2.2.1, va_up V.2.2.2.2 j5 V.2.1))).symm) 0 0 rfl rfl rfl rfl hl.1 rfl (Nat.le_of_ble_eq_true rfl) dX4_sweep_32 ⟨Nat.le_of_ble_eq_true rfl, Nat.le_of_ble_eq_true rfl⟩ (fun H locs hW => ?_)
      refine lv_aload_n hx hb dX4_sweep_35 rfl (lv_at hl 0 rfl) ?_
      refine g_ X hinX4 hW 0 rfl rfl 0 (by decide) 4 rfl rfl rfl dX4_sweep_36 ?_
      refine lv_iload_n hx hb dX4_sweep_39 rfl (lv_at hl 1 rfl) ?_
      obtain ⟨r9, G10, h8, hd⟩ := bs_e hd
      refine cVmi_ (wc := (WR Y (ad 1) V.2.1)) (w1 := (WR Y (ad 1) G10)) (ws' := (WX Y ad (V.1, G10, V.2.2.1, H7))) (rest := []) X (kX1_askAndDropBelow l Dd Y (ad 1) V.2.1 x1 r9 G10 h8) (cwV 1 X.1.2.2.2.2 gX4_sweep_X1_askAndDropBelow rfl rfl rfl (by decide +kernel) ⟨Nat.le_of_ble_eq_true rfl, Nat.le_of_ble_eq_true rfl⟩) hW (px_r Y ad (V.1, V.2.1, V.2.2.1, H7)) (px_r Y ad (V.1, G10, V.2.2.1, H7)).symm 0 1 rfl rfl rfl rfl hl.1 rfl (Nat.le_of_ble_eq_true rfl) dX4_sweep_40 ⟨Nat.le_of_ble_eq_true rfl, Nat.le_of_ble_eq_true rfl⟩ (fun H locs hW => ?_)
      obtain rfl := Option.some.inj hd
      exact hI _ _ _ _ _ _ _ _ _ rfl rfl rfl (Nat.le_of_ble_eq_true rfl) (Nat.le_of_ble_eq_true rfl) hW dX4_sweep_43
    · replace hd := if_f c2 hd
      obtain rfl := Option.some.inj hd
      exact hN _ _ _ _ _ 14 _ "java/lang/IllegalArgumentException" "limit is not -999 to 1000" 51 203 55 1 2 4 rfl (by decide) rfl rfl rfl (by rw [show atE 55 "java/lang/IllegalArgumentException" = _ from atE_s (by decide)]; exact fun w h => List.mem_cons_of_mem _ (List.mem_append_right _ h)) hW hl.1 (Nat.le_of_ble_eq_true rfl) dX4_sweep_14 dX4_sweep_17 dX4_sweep_18 dX4_sweep_20 dX4_sweep_23 (Nat.le_of_ble_eq_true rfl) (Nat.le_of_ble_eq_true rfl) (Nat.le_of_ble_eq_true rfl) (Nat.le_of_ble_eq_true rfl)
abbrev rmX4_put : Room := { frames := 7, cells := 3, slots := 18, locals := 113 }
set_option maxRecDepth 100000 in
set_option maxHeartbeats 4000000 in
theorem kX4_put (l : Launch) (hst : l.stackTraces = false) (Dd : va_G) (Y : yT) (ad : Nat → Nat → Nat) (V : gX) (x1 : Int32) (x2 : Int32) (o : oX (Int32 × gX)) (hd : dnX4_put V x1 x2 = some o) : MX l yX4_put wsX4_put rmX4_put Dd Y [.ref (ad 0 0), .int x1, .int x2] (WX Y ad V) (oS Y ad o) 3 18 := by
  refine MXk (cc := cX4_put) (maxL := 3) (ret := some .int) hst rfl (by decide) rfl (Nat.le_of_ble_eq_true rfl) rfl rfl (fun {p e s m args below meth c A} ls Q X hW hl hI hV hT hN => ?_)
  have hx := X.x
  have hb := X.b
  have hl : lv_has ls 3 [(0, .ref (ad 0 0)), (1, .int x1), (2, .int x2)] := hl
  have hinX1 : ∀ w ∈ wsX10, w ∈ wsX4_put := fun w h => List.mem_cons_of_mem _ (List.mem_append_left _ (List.mem_append_left _ (List.mem_append_left _ (List.mem_append_left _ (List.mem_append_left _ (List.mem_append_right _ h))))))
  have hinX4 : ∀ w ∈ wsX40, w ∈ wsX4_put := fun w h => List.mem_cons_of_mem _ (List.mem_append_left _ (List.mem_append_left _ (List.mem_append_left _ (List.mem_append_left _ (List.mem_append_left _ (List.mem_append_left _ (List.mem_append_right _ h)))))))
  unfold dnX4_put at hd
  refine lv_iload_n hx hb dX4_put_0 rfl (lv_at hl 1 rfl) ?_
  refine lv_aload_n hx hb dX4_put_1 rfl (lv_at hl 0 rfl) ?_
  refine g_ X hinX4 hW 0 rfl rfl 0 (by decide) 3 rfl rfl rfl dX4_put_2 ?_
  refine g_ X hinX1 hW 1 rfl rfl 3 (by decide) 4 rfl rfl rfl dX4_put_5 ?_
  refine lv_icmp_eq (tgt := 16) hx hb dX4_put_8 (by decide) (fun c1 => ?_) (fun c1 => ?_)
  · replace hd := if_t c1 hd
    refine lv_aload_n hx hb dX4_put_16 rfl (lv_at hl 0 rfl) ?_
    refine lv_iload_n hx hb dX4_put_17 rfl (lv_at hl 2 rfl) ?_
    obtain ⟨q3, h2, hd⟩ := bx_e hd
    refine xV_ (rest := []) X (kX4_demandValue l hst Dd Y ad V x2 q3 h2) (cwV 1 X.1.2.2.2.2 gX4_put_X4_demandValue rfl rfl rfl (by decide +kernel) ⟨Nat.le_of_ble_eq_true rfl, Nat.le_of_ble_eq_true rfl⟩) hW 0 4 rfl rfl rfl rfl hl.1 rfl (Nat.le_of_ble_eq_true rfl) dX4_put_18 ⟨Nat.le_of_ble_eq_true rfl, Nat.le_of_ble_eq_true rfl⟩ (fun E H locs ce q9 ho hW g1 g2 g3 => ?_) (fun rv w H locs ho hW => ?_)
    · rcases hd with ⟨E5, e5, e6⟩ | ⟨a5, e5, -⟩
      · subst e5; subst e6
        have ho : (.inl E5 : oW) = .inl E := ho
        cases ho
        exact hT _ _ _ _ _ _ _ _ _ _ rfl (Nat.le_of_ble_eq_true rfl) (Nat.le_of_ble_eq_true rfl) hW g1 g2 g3
      · subst e5; cases ho
    · rcases hd with ⟨E5, e5, -⟩ | ⟨a5, e5, hd⟩
      · subst e5; cases ho
      · subst e5
        have ho : (.inr (none, (WX Y ad V)) : oW) = .inr (rv, w) := ho
        cases ho
        refine W.eq (g2 := F0 m 21 ls []) rfl ?_
        refine lv_aload_n hx hb dX4_put_21 rfl (lv_at hl 0 rfl) ?_
        refine g_ X hinX4 hW 0 rfl rfl 0 (by decide) 3 rfl rfl rfl dX4_put_22 ?_
        refine g_ X hinX1 hW 1 rfl rfl 3 (by decide) 4 rfl rfl rfl dX4_put_25 ?_
        refine lv_bipush (v := 40) hx hb dX4_put_28 (by decide) ?_
        refine lv_icmp_lt (tgt := 43) hx hb dX4_put_30 (by decide) (fun c4 => ?_) (fun c4 => ?_)
        · replace hd := if_t c4 hd
          refine lv_aload_n hx hb dX4_put_43 rfl (lv_at hl 0 rfl) ?_
          refine g_ X hinX4 hW 0 rfl rfl 1 (by decide) 5 rfl rfl rfl dX4_put_44 ?_
          refine lv_aload_n hx hb dX4_put_47 rfl (lv_at hl 0 rfl) ?_
          refine g_ X hinX4 hW 0 rfl rfl 0 (by decide) 3 rfl rfl rfl dX4_put_48 ?_
          obtain ⟨hi8, hd⟩ := wi_e hd
          obtain ⟨H9, eH9, hd⟩ := bw_e hd
          obtain ⟨j7, hjj7, ejj7⟩ := vp_in_of hi8 (by decide)
          rw [show (V.2.2.2.1 0 1).toNatClampNeg = j7 from by rw [ejj7]; exact nI_clamp (by omega)] at eH9
          refine cVmv_ (rest := []) (post := px_hh Y ad V) (ws' := (WX Y ad (V.1, V.2.1, V.2.2.1, H9))) X (kX0_save l Dd Y (ad 2) (fun k => ad (5 + k)) (ad 1) V.2.2.2.1 V.2.2.2.2 V.2.1 j7 hjj7 ejj7) (cwV 1 X.1.2.2.2.2 gX4_put_X0_save rfl rfl rfl (by decide +kernel) ⟨Nat.le_of_ble_eq_true rfl, Nat.le_of_ble_eq_true rfl⟩) hW (px_h Y ad V) (by rw [eH9]; exact (px_h Y ad (V.1, V.2.1, V.2.2.1, (hSave V.2.2.2.1, va_up V.2.2.2.2 j7 V.2.1))).symm) 0 0 rfl rfl rfl rfl hl.1 rfl (Nat.le_of_ble_eq_true rfl) dX4_put_51 ⟨Nat.le_of_ble_eq_true rfl, Nat.le_of_ble_eq_true rfl⟩ (fun H locs hW => ?_)
          refine lv_aload_n hx hb dX4_put_54 rfl (lv_at hl 0 rfl) ?_
          refine g_ X hinX4 hW 0 rfl rfl 0 (by decide) 3 rfl rfl rfl dX4_put_55 ?_
          refine lv_iload_n hx hb dX4_put_58 rfl (lv_at hl 1 rfl) ?_
          refine lv_iload_n hx hb dX4_put_59 rfl (lv_at hl 2 rfl) ?_
          obtain ⟨G11, h10, hd⟩ := bp_e hd
          refine cVmv_ (wc := (WR Y (ad 1) V.2.1)) (w1 := (WR Y (ad 1) G11)) (ws' := (WX Y ad (V.1, G11, V.2.2.1, H9))) (rest := []) X (kX1_insert l Dd Y (ad 1) V.2.1 x1 x2 G11 h10) (cwV 2 X.1.2.2.2.2 gX4_put_X1_insert rfl rfl rfl (by decide +kernel) ⟨Nat.le_of_ble_eq_true rfl, Nat.le_of_ble_eq_true rfl⟩) hW (px_r Y ad (V.1, V.2.1, V.2.2.1, H9)) (px_r Y ad (V.1, G11, V.2.2.1, H9)).symm 0 1 rfl rfl rfl rfl hl.1 rfl (Nat.le_of_ble_eq_true rfl) dX4_put_60 ⟨Nat.le_of_ble_eq_true rfl, Nat.le_of_ble_eq_true rfl⟩ (fun H locs hW => ?_)
          refine lv_aload_n hx hb dX4_put_63 rfl (lv_at hl 0 rfl) ?_
          refine g_ X hinX4 hW 0 rfl rfl 0 (by decide) 3 rfl rfl rfl dX4_put_64 ?_
          refine g_ X hinX1 hW 1 rfl rfl 3 (by decide) 4 rfl rfl rfl dX4_put_67 ?_
          obtain rfl := Option.some.inj hd
          exact hI _ _ _ _ _ _ _ _ _ rfl rfl rfl (Nat.le_of_ble_eq_true rfl) (Nat.le_of_ble_eq_true rfl) hW dX4_put_70
        · replace hd := if_f c4 hd
          obtain rfl := Option.some.inj hd
          exact hN _ _ _ _ _ 33 _ "java/lang/IllegalStateException" "there are 40 values" 192 208 196 1 2 5 rfl (by decide) rfl rfl rfl (by rw [show atE 196 "java/lang/IllegalStateException" = _ from atE_s (by decide)]; exact fun w h => List.mem_cons_of_mem _ (List.mem_append_left _ (List.mem_append_left _ (List.mem_append_right _ h)))) hW hl.1 (Nat.le_of_ble_eq_true rfl) dX4_put_33 dX4_put_36 dX4_put_37 dX4_put_39 dX4_put_42 (Nat.le_of_ble_eq_true rfl) (Nat.le_of_ble_eq_true rfl) (Nat.le_of_ble_eq_true rfl) (Nat.le_of_ble_eq_true rfl)
  · replace hd := if_f c1 hd
    refine lv_aload_n hx hb dX4_put_11 rfl (lv_at hl 0 rfl) ?_
    refine lv_iload_n hx hb dX4_put_12 rfl (lv_at hl 1 rfl) ?_
    obtain ⟨q13, h12, hd⟩ := bx_e hd
    refine xV_ (rest := []) X (kX4_demandPlace l hst Dd Y ad V x1 q13 h12) (cwV 1 X.1.2.2.2.2 gX4_put_X4_demandPlace rfl rfl rfl (by decide +kernel) ⟨Nat.le_of_ble_eq_true rfl, Nat.le_of_ble_eq_true rfl⟩) hW 0 4 rfl rfl rfl rfl hl.1 rfl (Nat.le_of_ble_eq_true rfl) dX4_put_13 ⟨Nat.le_of_ble_eq_true rfl, Nat.le_of_ble_eq_true rfl⟩ (fun E H locs ce q9 ho hW g1 g2 g3 => ?_) (fun rv w H locs ho hW => ?_)
    · rcases hd with ⟨E5, e5, e6⟩ | ⟨a5, e5, -⟩
      · subst e5; subst e6
        have ho : (.inl E5 : oW) = .inl E := ho
        cases ho
        exact hT _ _ _ _ _ _ _ _ _ _ rfl (Nat.le_of_ble_eq_true rfl) (Nat.le_of_ble_eq_true rfl) hW g1 g2 g3
      · subst e5; cases ho
    · rcases hd with ⟨E5, e5, -⟩ | ⟨a5, e5, hd⟩
      · subst e5; cases ho
      · subst e5
        have ho : (.inr (none, (WX Y ad V)) : oW) = .inr (rv, w) := ho
        cases ho
        refine W.eq (g2 := F0 m 16 ls []) rfl ?_
        refine lv_aload_n hx hb dX4_put_16 rfl (lv_at hl 0 rfl) ?_
        refine lv_iload_n hx hb dX4_put_17 rfl (lv_at hl 2 rfl) ?_
        obtain ⟨q15, h14, hd⟩ := bx_e hd
        refine xV_ (rest := []) X (kX4_demandValue l hst Dd Y ad V x2 q15 h14) (cwV 1 X.1.2.2.2.2 gX4_put_X4_demandValue rfl rfl rfl (by decide +kernel) ⟨Nat.le_of_ble_eq_true rfl, Nat.le_of_ble_eq_true rfl⟩) hW 0 4 rfl rfl rfl rfl hl.1 rfl (Nat.le_of_ble_eq_true rfl) dX4_put_18 ⟨Nat.le_of_ble_eq_true rfl, Nat.le_of_ble_eq_true rfl⟩ (fun E H locs ce q9 ho hW g1 g2 g3 => ?_) (fun rv w H locs ho hW => ?_)
        · rcases hd with ⟨E5, e5, e6⟩ | ⟨a5, e5, -⟩
          · subst e5; subst e6
            have ho : (.inl E5 : oW) = .inl E := ho
            cases ho
            exact hT _ _ _ _ _ _ _ _ _ _ rfl (Nat.le_of_ble_eq_true rfl) (Nat.le_of_ble_eq_true rfl) hW g1 g2 g3
          · subst e5; cases ho
        · rcases hd with ⟨E5, e5, -⟩ | ⟨a5, e5, hd⟩
          · subst e5; cases ho
          · subst e5
            have ho : (.inr (none, (WX Y ad V)) : oW) = .inr (rv, w) := ho
            cases ho
            refine W.eq (g2 := F0 m 21 ls []) rfl ?_
            refine lv_aload_n hx hb dX4_put_21 rfl (lv_at hl 0 rfl) ?_
            refine g_ X hinX4 hW 0 rfl rfl 0 (by decide) 3 rfl rfl rfl dX4_put_22 ?_
            refine g_ X hinX1 hW 1 rfl rfl 3 (by decide) 4 rfl rfl rfl dX4_put_25 ?_
            refine lv_bipush (v := 40) hx hb dX4_put_28 (by decide) ?_
            refine lv_icmp_lt (tgt := 43) hx hb dX4_put_30 (by decide) (fun c16 => ?_) (fun c16 => ?_)
            · replace hd := if_t c16 hd
              refine lv_aload_n hx hb dX4_put_43 rfl (lv_at hl 0 rfl) ?_
              refine g_ X hinX4 hW 0 rfl rfl 1 (by decide) 5 rfl rfl rfl dX4_put_44 ?_
              refine lv_aload_n hx hb dX4_put_47 rfl (lv_at hl 0 rfl) ?_
              refine g_ X hinX4 hW 0 rfl rfl 0 (by decide) 3 rfl rfl rfl dX4_put_48 ?_
              obtain ⟨hi20, hd⟩ := wi_e hd
              obtain ⟨H21, eH21, hd⟩ := bw_e hd
              obtain ⟨j19, hjj19, ejj19⟩ := vp_in_of hi20 (by decide)
              rw [show (V.2.2.2.1 0 1).toNatClampNeg = j19 from by rw [ejj19]; exact nI_clamp (by omega)] at eH21
              refine cVmv_ (rest := []) (post := px_hh Y ad V) (ws' := (WX Y ad (V.1, V.2.1, V.2.2.1, H21))) X (kX0_save l Dd Y (ad 2) (fun k => ad (5 + k)) (ad 1) V.2.2.2.1 V.2.2.2.2 V.2.1 j19 hjj19 ejj19) (cwV 1 X.1.2.2.2.2 gX4_put_X0_save rfl rfl rfl (by decide +kernel) ⟨Nat.le_of_ble_eq_true rfl, Nat.le_of_ble_eq_true rfl⟩) hW (px_h Y ad V) (by rw [eH21]; exact (px_h Y ad (V.1, V.2.1, V.2.2.1, (hSave V.2.2.2.1, va_up V.2.2.2.2 j19 V.2.1))).symm) 0 0 rfl rfl rfl rfl hl.1 rfl (Nat.le_of_ble_eq_true rfl) dX4_put_51 ⟨Nat.le_of_ble_eq_true rfl, Nat.le_of_ble_eq_true rfl⟩ (fun H locs hW => ?_)
              refine lv_aload_n hx hb dX4_put_54 rfl (lv_at hl 0 rfl) ?_
              refine g_ X hinX4 hW 0 rfl rfl 0 (by decide) 3 rfl rfl rfl dX4_put_55 ?_
              refine lv_iload_n hx hb dX4_put_58 rfl (lv_at hl 1 rfl) ?_
              refine lv_iload_n hx hb dX4_put_59 rfl (lv_at hl 2 rfl) ?_
              obtain ⟨G23, h22, hd⟩ := bp_e hd
              refine cVmv_ (wc := (WR Y (ad 1) V.2.1)) (w1 := (WR Y (ad 1) G23)) (ws' := (WX Y ad (V.1, G23, V.2.2.1, H21))) (rest := []) X (kX1_insert l Dd Y (ad 1) V.2.1 x1 x2 G23 h22) (cwV 2 X.1.2.2.2.2 gX4_put_X1_insert rfl rfl rfl (by decide +kernel) ⟨Nat.le_of_ble_eq_true rfl, Nat.le_of_ble_eq_true rfl⟩) hW (px_r Y ad (V.1, V.2.1, V.2.2.1, H21)) (px_r Y ad (V.1, G23, V.2.2.1, H21)).symm 0 1 rfl rfl rfl rfl hl.1 rfl (Nat.le_of_ble_eq_true rfl) dX4_put_60 ⟨Nat.le_of_ble_eq_true rfl, Nat.le_of_ble_eq_true rfl⟩ (fun H locs hW => ?_)
              refine lv_aload_n hx hb dX4_put_63 rfl (lv_at hl 0 rfl) ?_
              refine g_ X hinX4 hW 0 rfl rfl 0 (by decide) 3 rfl rfl rfl dX4_put_64 ?_
              refine g_ X hinX1 hW 1 rfl rfl 3 (by decide) 4 rfl rfl rfl dX4_put_67 ?_
              obtain rfl := Option.some.inj hd
              exact hI _ _ _ _ _ _ _ _ _ rfl rfl rfl (Nat.le_of_ble_eq_true rfl) (Nat.le_of_ble_eq_true rfl) hW dX4_put_70
            · replace hd := if_f c16 hd
              obtain rfl := Option.some.inj hd
              exact hN _ _ _ _ _ 33 _ "java/lang/IllegalStateException" "there are 40 values" 192 208 196 1 2 5 rfl (by decide) rfl rfl rfl (by rw [show atE 196 "java/lang/IllegalStateException" = _ from atE_s (by decide)]; exact fun w h => List.mem_cons_of_mem _ (List.mem_append_left _ (List.mem_append_left _ (List.mem_append_right _ h)))) hW hl.1 (Nat.le_of_ble_eq_true rfl) dX4_put_33 dX4_put_36 dX4_put_37 dX4_put_39 dX4_put_42 (Nat.le_of_ble_eq_true rfl) (Nat.le_of_ble_eq_true rfl) (Nat.le_of_ble_eq_true rfl) (Nat.le_of_ble_eq_true rfl)
abbrev rmX4_take : Room := { frames := 7, cells := 2, slots := 12, locals := 113 }
set_option maxRecDepth 100000 in
set_option maxHeartbeats 4000000 in
theorem kX4_take (l : Launch) (hst : l.stackTraces = false) (Dd : va_G) (Y : yT) (ad : Nat → Nat → Nat) (V : gX) (x1 : Int32) (o : oX (Int32 × gX)) (hd : dnX4_take V x1 = some o) : MX l yX4_take wsX4_take rmX4_take Dd Y [.ref (ad 0 0), .int x1] (WX Y ad V) (oS Y ad o) 2 12 := by
  refine MXk (cc := cX4_take) (maxL := 2) (ret := some .int) hst rfl (by decide) rfl (Nat.le_of_ble_eq_true rfl) rfl rfl (fun {p e s m args below meth c A} ls Q X hW hl hI hV hT hN => ?_)
  have hx := X.x
  have hb := X.b
  have hl : lv_has ls 2 [(0, .ref (ad 0 0)), (1, .int x1)] := hl
  have hinX1 : ∀ w ∈ wsX10, w ∈ wsX4_take := fun w h => List.mem_cons_of_mem _ (List.mem_append_left _ (List.mem_append_left _ (List.mem_append_left _ (List.mem_append_left _ (List.mem_append_right _ h)))))
  have hinX4 : ∀ w ∈ wsX40, w ∈ wsX4_take := fun w h => List.mem_cons_of_mem _ (List.mem_append_left _ (List.mem_append_left _ (List.mem_append_left _ (List.mem_append_left _ (List.mem_append_left _ (List.mem_append_right _ h))))))
  unfold dnX4_take at hd
  refine lv_aload_n hx hb dX4_take_0 rfl (lv_at hl 0 rfl) ?_
  refine lv_iload_n hx hb dX4_take_1 rfl (lv_at hl 1 rfl) ?_
  obtain ⟨q2, h1, hd⟩ := bx_e hd
  refine xV_ (rest := []) X (kX4_demandPlace l hst Dd Y ad V x1 q2 h1) (cwV 1 X.1.2.2.2.2 gX4_take_X4_demandPlace rfl rfl rfl (by decide +kernel) ⟨Nat.le_of_ble_eq_true rfl, Nat.le_of_ble_eq_true rfl⟩) hW 0 4 rfl rfl rfl rfl hl.1 rfl (Nat.le_of_ble_eq_true rfl) dX4_take_2 ⟨Nat.le_of_ble_eq_true rfl, Nat.le_of_ble_eq_true rfl⟩ (fun E H locs ce q9 ho hW g1 g2 g3 => ?_) (fun rv w H locs ho hW => ?_)
  · rcases hd with ⟨E5, e5, e6⟩ | ⟨a5, e5, -⟩
    · subst e5; subst e6
      have ho : (.inl E5 : oW) = .inl E := ho
      cases ho
      exact hT _ _ _ _ _ _ _ _ _ _ rfl (Nat.le_of_ble_eq_true rfl) (Nat.le_of_ble_eq_true rfl) hW g1 g2 g3
    · subst e5; cases ho
  · rcases hd with ⟨E5, e5, -⟩ | ⟨a5, e5, hd⟩
    · subst e5; cases ho
    · subst e5
      have ho : (.inr (none, (WX Y ad V)) : oW) = .inr (rv, w) := ho
      cases ho
      refine W.eq (g2 := F0 m 5 ls []) rfl ?_
      refine lv_aload_n hx hb dX4_take_5 rfl (lv_at hl 0 rfl) ?_
      refine g_ X hinX4 hW 0 rfl rfl 0 (by decide) 3 rfl rfl rfl dX4_take_6 ?_
      refine g_ X hinX1 hW 1 rfl rfl 3 (by decide) 4 rfl rfl rfl dX4_take_9 ?_
      refine lv_iconst (v := 1) hx hb dX4_take_12 (by decide) ?_
      refine lv_icmp_ne (tgt := 26) hx hb dX4_take_13 (by decide) (fun c3 => ?_) (fun c3 => ?_)
      · replace hd := if_f c3 hd
        refine lv_aload_n hx hb dX4_take_26 rfl (lv_at hl 0 rfl) ?_
        refine g_ X hinX4 hW 0 rfl rfl 1 (by decide) 5 rfl rfl rfl dX4_take_27 ?_
        refine lv_aload_n hx hb dX4_take_30 rfl (lv_at hl 0 rfl) ?_
        refine g_ X hinX4 hW 0 rfl rfl 0 (by decide) 3 rfl rfl rfl dX4_take_31 ?_
        obtain ⟨hi7, hd⟩ := wi_e hd
        obtain ⟨H8, eH8, hd⟩ := bw_e hd
        obtain ⟨j6, hjj6, ejj6⟩ := vp_in_of hi7 (by decide)
        rw [show (V.2.2.2.1 0 1).toNatClampNeg = j6 from by rw [ejj6]; exact nI_clamp (by omega)] at eH8
        refine cVmv_ (rest := []) (post := px_hh Y ad V) (ws' := (WX Y ad (V.1, V.2.1, V.2.2.1, H8))) X (kX0_save l Dd Y (ad 2) (fun k => ad (5 + k)) (ad 1) V.2.2.2.1 V.2.2.2.2 V.2.1 j6 hjj6 ejj6) (cwV 1 X.1.2.2.2.2 gX4_take_X0_save rfl rfl rfl (by decide +kernel) ⟨Nat.le_of_ble_eq_true rfl, Nat.le_of_ble_eq_true rfl⟩) hW (px_h Y ad V) (by rw [eH8]; exact (px_h Y ad (V.1, V.2.1, V.2.2.1, (hSave V.2.2.2.1, va_up V.2.2.2.2 j6 V.2.1))).symm) 0 0 rfl rfl rfl rfl hl.1 rfl (Nat.le_of_ble_eq_true rfl) dX4_take_34 ⟨Nat.le_of_ble_eq_true rfl, Nat.le_of_ble_eq_true rfl⟩ (fun H locs hW => ?_)
        refine lv_aload_n hx hb dX4_take_37 rfl (lv_at hl 0 rfl) ?_
        refine g_ X hinX4 hW 0 rfl rfl 0 (by decide) 3 rfl rfl rfl dX4_take_38 ?_
        refine lv_iload_n hx hb dX4_take_41 rfl (lv_at hl 1 rfl) ?_
        obtain ⟨r10, G11, h9, hd⟩ := bs_e hd
        refine cVmi_ (wc := (WR Y (ad 1) V.2.1)) (w1 := (WR Y (ad 1) G11)) (ws' := (WX Y ad (V.1, G11, V.2.2.1, H8))) (rest := []) X (kX1_remove l Dd Y (ad 1) V.2.1 x1 r10 G11 h9) (cwV 1 X.1.2.2.2.2 gX4_take_X1_remove rfl rfl rfl (by decide +kernel) ⟨Nat.le_of_ble_eq_true rfl, Nat.le_of_ble_eq_true rfl⟩) hW (px_r Y ad (V.1, V.2.1, V.2.2.1, H8)) (px_r Y ad (V.1, G11, V.2.2.1, H8)).symm 0 1 rfl rfl rfl rfl hl.1 rfl (Nat.le_of_ble_eq_true rfl) dX4_take_42 ⟨Nat.le_of_ble_eq_true rfl, Nat.le_of_ble_eq_true rfl⟩ (fun H locs hW => ?_)
        obtain rfl := Option.some.inj hd
        exact hI _ _ _ _ _ _ _ _ _ rfl rfl rfl (Nat.le_of_ble_eq_true rfl) (Nat.le_of_ble_eq_true rfl) hW dX4_take_45
      · replace hd := if_t c3 hd
        obtain rfl := Option.some.inj hd
        exact hN _ _ _ _ _ 16 _ "java/lang/IllegalStateException" "it is the only value" 192 213 196 1 2 6 rfl (by decide) rfl rfl rfl (by rw [show atE 196 "java/lang/IllegalStateException" = _ from atE_s (by decide)]; exact fun w h => List.mem_cons_of_mem _ (List.mem_append_left _ (List.mem_append_right _ h))) hW hl.1 (Nat.le_of_ble_eq_true rfl) dX4_take_16 dX4_take_19 dX4_take_20 dX4_take_22 dX4_take_25 (Nat.le_of_ble_eq_true rfl) (Nat.le_of_ble_eq_true rfl) (Nat.le_of_ble_eq_true rfl) (Nat.le_of_ble_eq_true rfl)
abbrev rmX4_rule : Room := { frames := 6, cells := 1, slots := 6, locals := 112 }
set_option maxRecDepth 100000 in
set_option maxHeartbeats 4000000 in
theorem kX4_rule (l : Launch) (hst : l.stackTraces = false) (Dd : va_G) (Y : yT) (ad : Nat → Nat → Nat) (V : gX) (x1 : Int32) (x2 : Int32) (o : oX (Int32 × gX)) (hd : dnX4_rule V x1 x2 = some o) : MX l yX4_rule wsX4_rule rmX4_rule Dd Y [.ref (ad 0 0), .int x1, .int x2] (WX Y ad V) (oS Y ad o) 1 6 := by
  refine MXk (cc := cX4_rule) (maxL := 5) (ret := some .int) hst rfl (by decide) rfl (Nat.le_of_ble_eq_true rfl) rfl rfl (fun {p e s m args below meth c A} ls Q X hW hl hI hV hT hN => ?_)
  have hx := X.x
  have hb := X.b
  have hl : lv_has ls 5 [(0, .ref (ad 0 0)), (1, .int x1), (2, .int x2)] := hl
  have hinX4 : ∀ w ∈ wsX40, w ∈ wsX4_rule := fun w h => List.mem_cons_of_mem _ (List.mem_append_left _ (List.mem_append_left _ (List.mem_append_left _ (List.mem_append_left _ (List.mem_append_right _ h)))))
  unfold dnX4_rule at hd
  refine lv_iload_n hx hb dX4_rule_0 rfl (lv_at hl 1 rfl) ?_
  refine lv_iconst (v := 1) hx hb dX4_rule_1 (by decide) ?_
  refine lv_icmp_ne (tgt := 18) hx hb dX4_rule_2 (by decide) (fun c1 => ?_) (fun c1 => ?_)
  · replace hd := if_f c1 hd
    refine lv_iconst (v := 0) hx hb dX4_rule_18 (by decide) ?_
    refine lv_istore_n (lv' := [(3, .int 0), (0, .ref (ad 0 0)), (1, .int x1), (2, .int x2)]) hx hb dX4_rule_19 rfl hl (by decide) rfl (fun ls hl => ?_)
    refine lv_iload_n hx hb dX4_rule_20 rfl (lv_at hl 2 rfl) ?_
    refine lv_iconst (v := 2) hx hb dX4_rule_21 (by decide) ?_
    refine lv_icmp_ne (tgt := 40) hx hb dX4_rule_22 (by decide) (fun c2 => ?_) (fun c2 => ?_)
    · replace hd := if_f c2 hd
      refine lv_iconst (v := 0) hx hb dX4_rule_40 (by decide) ?_
      refine lv_istore (lv' := [(4, .int 0), (3, .int 0), (0, .ref (ad 0 0)), (1, .int x1), (2, .int x2)]) hx hb dX4_rule_41 hl (by decide) rfl (fun ls hl => ?_)
      refine lv_iload_n hx hb dX4_rule_43 rfl (lv_at hl 1 rfl) ?_
      refine lv_if_ne (tgt := 62) hx hb dX4_rule_44 (by decide) (fun h => absurd (by decide) h) (fun _ => ?_)
      refine lv_iload hx hb dX4_rule_47 (lv_at hl 0 rfl) ?_
      refine lv_if_ne (tgt := 62) hx hb dX4_rule_49 (by decide) (fun h => absurd (by decide) h) (fun _ => ?_)
      obtain rfl := Option.some.inj hd
      exact hN _ _ _ _ _ 52 _ "java/lang/IllegalArgumentException" "what or value is out of range" 51 218 55 1 2 7 rfl (by decide) rfl rfl rfl (by rw [show atE 55 "java/lang/IllegalArgumentException" = _ from atE_s (by decide)]; exact fun w h => List.mem_cons_of_mem _ (List.mem_append_right _ h)) hW hl.1 (Nat.le_of_ble_eq_true rfl) dX4_rule_52 dX4_rule_55 dX4_rule_56 dX4_rule_58 dX4_rule_61 (Nat.le_of_ble_eq_true rfl) (Nat.le_of_ble_eq_true rfl) (Nat.le_of_ble_eq_true rfl) (Nat.le_of_ble_eq_true rfl)
    · replace hd := if_t c2 hd
      refine lv_iload_n hx hb dX4_rule_25 rfl (lv_at hl 3 rfl) ?_
      refine lv_iconst (v := 1) hx hb dX4_rule_26 (by decide) ?_
      refine lv_icmp_lt (tgt := 40) hx hb dX4_rule_27 (by decide) (fun c3 => ?_) (fun c3 => ?_)
      · replace hd := if_t c3 hd
        refine lv_iconst (v := 0) hx hb dX4_rule_40 (by decide) ?_
        refine lv_istore (lv' := [(4, .int 0), (3, .int 0), (0, .ref (ad 0 0)), (1, .int x1), (2, .int x2)]) hx hb dX4_rule_41 hl (by decide) rfl (fun ls hl => ?_)
        refine lv_iload_n hx hb dX4_rule_43 rfl (lv_at hl 1 rfl) ?_
        refine lv_if_ne (tgt := 62) hx hb dX4_rule_44 (by decide) (fun h => absurd (by decide) h) (fun _ => ?_)
        refine lv_iload hx hb dX4_rule_47 (lv_at hl 0 rfl) ?_
        refine lv_if_ne (tgt := 62) hx hb dX4_rule_49 (by decide) (fun h => absurd (by decide) h) (fun _ => ?_)
        obtain rfl := Option.some.inj hd
        exact hN _ _ _ _ _ 52 _ "java/lang/IllegalArgumentException" "what or value is out of range" 51 218 55 1 2 7 rfl (by decide) rfl rfl rfl (by rw [show atE 55 "java/lang/IllegalArgumentException" = _ from atE_s (by decide)]; exact fun w h => List.mem_cons_of_mem _ (List.mem_append_right _ h)) hW hl.1 (Nat.le_of_ble_eq_true rfl) dX4_rule_52 dX4_rule_55 dX4_rule_56 dX4_rule_58 dX4_rule_61 (Nat.le_of_ble_eq_true rfl) (Nat.le_of_ble_eq_true rfl) (Nat.le_of_ble_eq_true rfl) (Nat.le_of_ble_eq_true rfl)
      · replace hd := if_f c3 hd
        refine lv_iload_n hx hb dX4_rule_30 rfl (lv_at hl 3 rfl) ?_
        refine lv_bipush (v := 8) hx hb dX4_rule_31 (by decide) ?_
        refine lv_icmp_gt (tgt := 40) hx hb dX4_rule_33 (by decide) (fun c4 => ?_) (fun c4 => ?_)
        · replace hd := if_t c4 hd
          refine lv_iconst (v := 0) hx hb dX4_rule_40 (by decide) ?_
          refine lv_istore (lv' := [(4, .int 0), (3, .int 0), (0, .ref (ad 0 0)), (1, .int x1), (2, .int x2)]) hx hb dX4_rule_41 hl (by decide) rfl (fun ls hl => ?_)
          refine lv_iload_n hx hb dX4_rule_43 rfl (lv_at hl 1 rfl) ?_
          refine lv_if_ne (tgt := 62) hx hb dX4_rule_44 (by decide) (fun h => absurd (by decide) h) (fun _ => ?_)
          refine lv_iload hx hb dX4_rule_47 (lv_at hl 0 rfl) ?_
          refine lv_if_ne (tgt := 62) hx hb dX4_rule_49 (by decide) (fun h => absurd (by decide) h) (fun _ => ?_)
          obtain rfl := Option.some.inj hd
          exact hN _ _ _ _ _ 52 _ "java/lang/IllegalArgumentException" "what or value is out of range" 51 218 55 1 2 7 rfl (by decide) rfl rfl rfl (by rw [show atE 55 "java/lang/IllegalArgumentException" = _ from atE_s (by decide)]; exact fun w h => List.mem_cons_of_mem _ (List.mem_append_right _ h)) hW hl.1 (Nat.le_of_ble_eq_true rfl) dX4_rule_52 dX4_rule_55 dX4_rule_56 dX4_rule_58 dX4_rule_61 (Nat.le_of_ble_eq_true rfl) (Nat.le_of_ble_eq_true rfl) (Nat.le_of_ble_eq_true rfl) (Nat.le_of_ble_eq_true rfl)
        · replace hd := if_f c4 hd
          refine lv_iconst (v := 1) hx hb dX4_rule_36 (by decide) ?_
          refine lv_goto (tgt := 41) hx hb dX4_rule_37 (by decide) ?_
          refine lv_istore (lv' := [(4, .int 1), (3, .int 0), (0, .ref (ad 0 0)), (1, .int x1), (2, .int x2)]) hx hb dX4_rule_41 hl (by decide) rfl (fun ls hl => ?_)
          refine lv_iload_n hx hb dX4_rule_43 rfl (lv_at hl 1 rfl) ?_
          refine lv_if_ne (tgt := 62) hx hb dX4_rule_44 (by decide) (fun h => absurd (by decide) h) (fun _ => ?_)
          refine lv_iload hx hb dX4_rule_47 (lv_at hl 0 rfl) ?_
          refine lv_if_ne (tgt := 62) hx hb dX4_rule_49 (by decide) (fun _ => ?_) (fun h => absurd h (by decide))
          refine lv_aload_n hx hb dX4_rule_62 rfl (lv_at hl 2 rfl) ?_
          refine g_ X hinX4 hW 0 rfl rfl 1 (by decide) 3 rfl rfl rfl dX4_rule_63 ?_
          refine lv_aload_n hx hb dX4_rule_66 rfl (lv_at hl 2 rfl) ?_
          refine g_ X hinX4 hW 0 rfl rfl 0 (by decide) 4 rfl rfl rfl dX4_rule_67 ?_
          obtain ⟨hi8, hd⟩ := wi_e hd
          obtain ⟨H9, eH9, hd⟩ := bw_e hd
          obtain ⟨j7, hjj7, ejj7⟩ := vp_in_of hi8 (by decide)
          rw [show (V.2.2.2.1 0 1).toNatClampNeg = j7 from by rw [ejj7]; exact nI_clamp (by omega)] at eH9
          refine cVmv_ (rest := []) (post := px_hh Y ad V) (ws' := (WX Y ad (V.1, V.2.1, V.2.2.1, H9))) X (kX0_save l Dd Y (ad 2) (fun k => ad (5 + k)) (ad 1) V.2.2.2.1 V.2.2.2.2 V.2.1 j7 hjj7 ejj7) (cwV 1 X.1.2.2.2.2 gX4_rule_X0_save rfl rfl rfl (by decide +kernel) ⟨Nat.le_of_ble_eq_true rfl, Nat.le_of_ble_eq_true rfl⟩) hW (px_h Y ad V) (by rw [eH9]; exact (px_h Y ad (V.1, V.2.1, V.2.2.1, (hSave V.2.2.2.1, va_up V.2.2.2.2 j7 V.2.1))).symm) 0 0 rfl rfl rfl rfl hl.1 rfl (Nat.le_of_ble_eq_true rfl) dX4_rule_70 ⟨Nat.le_of_ble_eq_true rfl, Nat.le_of_ble_eq_true rfl⟩ (fun H locs hW => ?_)
          refine lv_iload_n hx hb dX4_rule_73 rfl (lv_at hl 1 rfl) ?_
          refine lv_if_eq (tgt := 88) hx hb dX4_rule_74 (by decide) (fun _ => ?_) (fun h => absurd (by decide) h)
          refine lv_aload_n hx hb dX4_rule_88 rfl (lv_at hl 2 rfl) ?_
          refine g_ X hinX4 hW 0 rfl rfl 0 (by decide) 4 rfl rfl rfl dX4_rule_89 ?_
          refine lv_iload_n hx hb dX4_rule_92 rfl (lv_at hl 4 rfl) ?_
          obtain ⟨r11, G12, h10, hd⟩ := bs_e hd
          refine cVmi_ (wc := (WR Y (ad 1) V.2.1)) (w1 := (WR Y (ad 1) G12)) (ws' := (WX Y ad (V.1, G12, V.2.2.1, H9))) (rest := []) X (kX1_changeMost l Dd Y (ad 1) V.2.1 x2 r11 G12 h10) (cwV 1 X.1.2.2.2.2 gX4_rule_X1_changeMost rfl rfl rfl (by decide +kernel) ⟨Nat.le_of_ble_eq_true rfl, Nat.le_of_ble_eq_true rfl⟩) hW (px_r Y ad (V.1, V.2.1, V.2.2.1, H9)) (px_r Y ad (V.1, G12, V.2.2.1, H9)).symm 0 1 rfl rfl rfl rfl hl.1 rfl (Nat.le_of_ble_eq_true rfl) dX4_rule_93 ⟨Nat.le_of_ble_eq_true rfl, Nat.le_of_ble_eq_true rfl⟩ (fun H locs hW => ?_)
          obtain rfl := Option.some.inj hd
          exact hI _ _ _ _ _ _ _ _ _ rfl rfl rfl (Nat.le_of_ble_eq_true rfl) (Nat.le_of_ble_eq_true rfl) hW dX4_rule_96
  · replace hd := if_t c1 hd
    refine lv_iload_n hx hb dX4_rule_5 rfl (lv_at hl 2 rfl) ?_
    refine lv_if_lt (tgt := 18) hx hb dX4_rule_6 (by decide) (fun c13 => ?_) (fun c13 => ?_)
    · replace hd := if_t c13 hd
      refine lv_iconst (v := 0) hx hb dX4_rule_18 (by decide) ?_
      refine lv_istore_n (lv' := [(3, .int 0), (0, .ref (ad 0 0)), (1, .int x1), (2, .int x2)]) hx hb dX4_rule_19 rfl hl (by decide) rfl (fun ls hl => ?_)
      refine lv_iload_n hx hb dX4_rule_20 rfl (lv_at hl 2 rfl) ?_
      refine lv_iconst (v := 2) hx hb dX4_rule_21 (by decide) ?_
      refine lv_icmp_ne (tgt := 40) hx hb dX4_rule_22 (by decide) (fun c14 => ?_) (fun c14 => ?_)
      · replace hd := if_f c14 hd
        refine lv_iconst (v := 0) hx hb dX4_rule_40 (by decide) ?_
        refine lv_istore (lv' := [(4, .int 0), (3, .int 0), (0, .ref (ad 0 0)), (1, .int x1), (2, .int x2)]) hx hb dX4_rule_41 hl (by decide) rfl (fun ls hl => ?_)
        refine lv_iload_n hx hb dX4_rule_43 rfl (lv_at hl 1 rfl) ?_
        refine lv_if_ne (tgt := 62) hx hb dX4_rule_44 (by decide) (fun h => absurd (by decide) h) (fun _ => ?_)
        refine lv_iload hx hb dX4_rule_47 (lv_at hl 0 rfl) ?_
        refine lv_if_ne (tgt := 62) hx hb dX4_rule_49 (by decide) (fun h => absurd (by decide) h) (fun _ => ?_)
        obtain rfl := Option.some.inj hd
        exact hN _ _ _ _ _ 52 _ "java/lang/IllegalArgumentException" "what or value is out of range" 51 218 55 1 2 7 rfl (by decide) rfl rfl rfl (by rw [show atE 55 "java/lang/IllegalArgumentException" = _ from atE_s (by decide)]; exact fun w h => List.mem_cons_of_mem _ (List.mem_append_right _ h)) hW hl.1 (Nat.le_of_ble_eq_true rfl) dX4_rule_52 dX4_rule_55 dX4_rule_56 dX4_rule_58 dX4_rule_61 (Nat.le_of_ble_eq_true rfl) (Nat.le_of_ble_eq_true rfl) (Nat.le_of_ble_eq_true rfl) (Nat.le_of_ble_eq_true rfl)
      · replace hd := if_t c14 hd
        refine lv_iload_n hx hb dX4_rule_25 rfl (lv_at hl 3 rfl) ?_
        refine lv_iconst (v := 1) hx hb dX4_rule_26 (by decide) ?_
        refine lv_icmp_lt (tgt := 40) hx hb dX4_rule_27 (by decide) (fun c15 => ?_) (fun c15 => ?_)
        · replace hd := if_t c15 hd
          refine lv_iconst (v := 0) hx hb dX4_rule_40 (by decide) ?_
          refine lv_istore (lv' := [(4, .int 0), (3, .int 0), (0, .ref (ad 0 0)), (1, .int x1), (2, .int x2)]) hx hb dX4_rule_41 hl (by decide) rfl (fun ls hl => ?_)
          refine lv_iload_n hx hb dX4_rule_43 rfl (lv_at hl 1 rfl) ?_
          refine lv_if_ne (tgt := 62) hx hb dX4_rule_44 (by decide) (fun h => absurd (by decide) h) (fun _ => ?_)
          refine lv_iload hx hb dX4_rule_47 (lv_at hl 0 rfl) ?_
          refine lv_if_ne (tgt := 62) hx hb dX4_rule_49 (by decide) (fun h => absurd (by decide) h) (fun _ => ?_)
          obtain rfl := Option.some.inj hd
          exact hN _ _ _ _ _ 52 _ "java/lang/IllegalArgumentException" "what or value is out of range" 51 218 55 1 2 7 rfl (by decide) rfl rfl rfl (by rw [show atE 55 "java/lang/IllegalArgumentException" = _ from atE_s (by decide)]; exact fun w h => List.mem_cons_of_mem _ (List.mem_append_right _ h)) hW hl.1 (Nat.le_of_ble_eq_true rfl) dX4_rule_52 dX4_rule_55 dX4_rule_56 dX4_rule_58 dX4_rule_61 (Nat.le_of_ble_eq_true rfl) (Nat.le_of_ble_eq_true rfl) (Nat.le_of_ble_eq_true rfl) (Nat.le_of_ble_eq_true rfl)
        · replace hd := if_f c15 hd
          refine lv_iload_n hx hb dX4_rule_30 rfl (lv_at hl 3 rfl) ?_
          refine lv_bipush (v := 8) hx hb dX4_rule_31 (by decide) ?_
          refine lv_icmp_gt (tgt := 40) hx hb dX4_rule_33 (by decide) (fun c16 => ?_) (fun c16 => ?_)
          · replace hd := if_t c16 hd
            refine lv_iconst (v := 0) hx hb dX4_rule_40 (by decide) ?_
            refine lv_istore (lv' := [(4, .int 0), (3, .int 0), (0, .ref (ad 0 0)), (1, .int x1), (2, .int x2)]) hx hb dX4_rule_41 hl (by decide) rfl (fun ls hl => ?_)
            refine lv_iload_n hx hb dX4_rule_43 rfl (lv_at hl 1 rfl) ?_
            refine lv_if_ne (tgt := 62) hx hb dX4_rule_44 (by decide) (fun h => absurd (by decide) h) (fun _ => ?_)
            refine lv_iload hx hb dX4_rule_47 (lv_at hl 0 rfl) ?_
            refine lv_if_ne (tgt := 62) hx hb dX4_rule_49 (by decide) (fun h => absurd (by decide) h) (fun _ => ?_)
            obtain rfl := Option.some.inj hd
            exact hN _ _ _ _ _ 52 _ "java/lang/IllegalArgumentException" "what or value is out of range" 51 218 55 1 2 7 rfl (by decide) rfl rfl rfl (by rw [show atE 55 "java/lang/IllegalArgumentException" = _ from atE_s (by decide)]; exact fun w h => List.mem_cons_of_mem _ (List.mem_append_right _ h)) hW hl.1 (Nat.le_of_ble_eq_true rfl) dX4_rule_52 dX4_rule_55 dX4_rule_56 dX4_rule_58 dX4_rule_61 (Nat.le_of_ble_eq_true rfl) (Nat.le_of_ble_eq_true rfl) (Nat.le_of_ble_eq_true rfl) (Nat.le_of_ble_eq_true rfl)
          · replace hd := if_f c16 hd
            refine lv_iconst (v := 1) hx hb dX4_rule_36 (by decide) ?_
            refine lv_goto (tgt := 41) hx hb dX4_rule_37 (by decide) ?_
            refine lv_istore (lv' := [(4, .int 1), (3, .int 0), (0, .ref (ad 0 0)), (1, .int x1), (2, .int x2)]) hx hb dX4_rule_41 hl (by decide) rfl (fun ls hl => ?_)
            refine lv_iload_n hx hb dX4_rule_43 rfl (lv_at hl 1 rfl) ?_
            refine lv_if_ne (tgt := 62) hx hb dX4_rule_44 (by decide) (fun h => absurd (by decide) h) (fun _ => ?_)
            refine lv_iload hx hb dX4_rule_47 (lv_at hl 0 rfl) ?_
            refine lv_if_ne (tgt := 62) hx hb dX4_rule_49 (by decide) (fun _ => ?_) (fun h => absurd h (by decide))
            refine lv_aload_n hx hb dX4_rule_62 rfl (lv_at hl 2 rfl) ?_
            refine g_ X hinX4 hW 0 rfl rfl 1 (by decide) 3 rfl rfl rfl dX4_rule_63 ?_
            refine lv_aload_n hx hb dX4_rule_66 rfl (lv_at hl 2 rfl) ?_
            refine g_ X hinX4 hW 0 rfl rfl 0 (by decide) 4 rfl rfl rfl dX4_rule_67 ?_
            obtain ⟨hi20, hd⟩ := wi_e hd
            obtain ⟨H21, eH21, hd⟩ := bw_e hd
            obtain ⟨j19, hjj19, ejj19⟩ := vp_in_of hi20 (by decide)
            rw [show (V.2.2.2.1 0 1).toNatClampNeg = j19 from by rw [ejj19]; exact nI_clamp (by omega)] at eH21
            refine cVmv_ (rest := []) (post := px_hh Y ad V) (ws' := (WX Y ad (V.1, V.2.1, V.2.2.1, H21))) X (kX0_save l Dd Y (ad 2) (fun k => ad (5 + k)) (ad 1) V.2.2.2.1 V.2.2.2.2 V.2.1 j19 hjj19 ejj19) (cwV 1 X.1.2.2.2.2 gX4_rule_X0_save rfl rfl rfl (by decide +kernel) ⟨Nat.le_of_ble_eq_true rfl, Nat.le_of_ble_eq_true rfl⟩) hW (px_h Y ad V) (by rw [eH21]; exact (px_h Y ad (V.1, V.2.1, V.2.2.1, (hSave V.2.2.2.1, va_up V.2.2.2.2 j19 V.2.1))).symm) 0 0 rfl rfl rfl rfl hl.1 rfl (Nat.le_of_ble_eq_true rfl) dX4_rule_70 ⟨Nat.le_of_ble_eq_true rfl, Nat.le_of_ble_eq_true rfl⟩ (fun H locs hW => ?_)
            refine lv_iload_n hx hb dX4_rule_73 rfl (lv_at hl 1 rfl) ?_
            refine lv_if_eq (tgt := 88) hx hb dX4_rule_74 (by decide) (fun _ => ?_) (fun h => absurd (by decide) h)
            refine lv_aload_n hx hb dX4_rule_88 rfl (lv_at hl 2 rfl) ?_
            refine g_ X hinX4 hW 0 rfl rfl 0 (by decide) 4 rfl rfl rfl dX4_rule_89 ?_
            refine lv_iload_n hx hb dX4_rule_92 rfl (lv_at hl 4 rfl) ?_
            obtain ⟨r23, G24, h22, hd⟩ := bs_e hd
            refine cVmi_ (wc := (WR Y (ad 1) V.2.1)) (w1 := (WR Y (ad 1) G24)) (ws' := (WX Y ad (V.1, G24, V.2.2.1, H21))) (rest := []) X (kX1_changeMost l Dd Y (ad 1) V.2.1 x2 r23 G24 h22) (cwV 1 X.1.2.2.2.2 gX4_rule_X1_changeMost rfl rfl rfl (by decide +kernel) ⟨Nat.le_of_ble_eq_true rfl, Nat.le_of_ble_eq_true rfl⟩) hW (px_r Y ad (V.1, V.2.1, V.2.2.1, H21)) (px_r Y ad (V.1, G24, V.2.2.1, H21)).symm 0 1 rfl rfl rfl rfl hl.1 rfl (Nat.le_of_ble_eq_true rfl) dX4_rule_93 ⟨Nat.le_of_ble_eq_true rfl, Nat.le_of_ble_eq_true rfl⟩ (fun H locs hW => ?_)
            obtain rfl := Option.some.inj hd
            exact hI _ _ _ _ _ _ _ _ _ rfl rfl rfl (Nat.le_of_ble_eq_true rfl) (Nat.le_of_ble_eq_true rfl) hW dX4_rule_96
    · replace hd := if_f c13 hd
      refine lv_iload_n hx hb dX4_rule_9 rfl (lv_at hl 2 rfl) ?_
      refine lv_iconst (v := 2) hx hb dX4_rule_10 (by decide) ?_
      refine lv_icmp_gt (tgt := 18) hx hb dX4_rule_11 (by decide) (fun c25 => ?_) (fun c25 => ?_)
      · replace hd := if_t c25 hd
        refine lv_iconst (v := 0) hx hb dX4_rule_18 (by decide) ?_
        refine lv_istore_n (lv' := [(3, .int 0), (0, .ref (ad 0 0)), (1, .int x1), (2, .int x2)]) hx hb dX4_rule_19 rfl hl (by decide) rfl (fun ls hl => ?_)
        refine lv_iload_n hx hb dX4_rule_20 rfl (lv_at hl 2 rfl) ?_
        refine lv_iconst (v := 2) hx hb dX4_rule_21 (by decide) ?_
        refine lv_icmp_ne (tgt := 40) hx hb dX4_rule_22 (by decide) (fun c26 => ?_) (fun c26 => ?_)
        · replace hd := if_f c26 hd
          refine lv_iconst (v := 0) hx hb dX4_rule_40 (by decide) ?_
          refine lv_istore (lv' := [(4, .int 0), (3, .int 0), (0, .ref (ad 0 0)), (1, .int x1), (2, .int x2)]) hx hb dX4_rule_41 hl (by decide) rfl (fun ls hl => ?_)
          refine lv_iload_n hx hb dX4_rule_43 rfl (lv_at hl 1 rfl) ?_
          refine lv_if_ne (tgt := 62) hx hb dX4_rule_44 (by decide) (fun h => absurd (by decide) h) (fun _ => ?_)
          refine lv_iload hx hb dX4_rule_47 (lv_at hl 0 rfl) ?_
          refine lv_if_ne (tgt := 62) hx hb dX4_rule_49 (by decide) (fun h => absurd (by decide) h) (fun _ => ?_)
          obtain rfl := Option.some.inj hd
          exact hN _ _ _ _ _ 52 _ "java/lang/IllegalArgumentException" "what or value is out of range" 51 218 55 1 2 7 rfl (by decide) rfl rfl rfl (by rw [show atE 55 "java/lang/IllegalArgumentException" = _ from atE_s (by decide)]; exact fun w h => List.mem_cons_of_mem _ (List.mem_append_right _ h)) hW hl.1 (Nat.le_of_ble_eq_true rfl) dX4_rule_52 dX4_rule_55 dX4_rule_56 dX4_rule_58 dX4_rule_61 (Nat.le_of_ble_eq_true rfl) (Nat.le_of_ble_eq_true rfl) (Nat.le_of_ble_eq_true rfl) (Nat.le_of_ble_eq_true rfl)
        · replace hd := if_t c26 hd
          refine lv_iload_n hx hb dX4_rule_25 rfl (lv_at hl 3 rfl) ?_
          refine lv_iconst (v := 1) hx hb dX4_rule_26 (by decide) ?_
          refine lv_icmp_lt (tgt := 40) hx hb dX4_rule_27 (by decide) (fun c27 => ?_) (fun c27 => ?_)
          · replace hd := if_t c27 hd
            refine lv_iconst (v := 0) hx hb dX4_rule_40 (by decide) ?_
            refine lv_istore (lv' := [(4, .int 0), (3, .int 0), (0, .ref (ad 0 0)), (1, .int x1), (2, .int x2)]) hx hb dX4_rule_41 hl (by decide) rfl (fun ls hl => ?_)
            refine lv_iload_n hx hb dX4_rule_43 rfl (lv_at hl 1 rfl) ?_
            refine lv_if_ne (tgt := 62) hx hb dX4_rule_44 (by decide) (fun h => absurd (by decide) h) (fun _ => ?_)
            refine lv_iload hx hb dX4_rule_47 (lv_at hl 0 rfl) ?_
            refine lv_if_ne (tgt := 62) hx hb dX4_rule_49 (by decide) (fun h => absurd (by decide) h) (fun _ => ?_)
            obtain rfl := Option.some.inj hd
            exact hN _ _ _ _ _ 52 _ "java/lang/IllegalArgumentException" "what or value is out of range" 51 218 55 1 2 7 rfl (by decide) rfl rfl rfl (by rw [show atE 55 "java/lang/IllegalArgumentException" = _ from atE_s (by decide)]; exact fun w h => List.mem_cons_of_mem _ (List.mem_append_right _ h)) hW hl.1 (Nat.le_of_ble_eq_true rfl) dX4_rule_52 dX4_rule_55 dX4_rule_56 dX4_rule_58 dX4_rule_61 (Nat.le_of_ble_eq_true rfl) (Nat.le_of_ble_eq_true rfl) (Nat.le_of_ble_eq_true rfl) (Nat.le_of_ble_eq_true rfl)
          · replace hd := if_f c27 hd
            refine lv_iload_n hx hb dX4_rule_30 rfl (lv_at hl 3 rfl) ?_
            refine lv_bipush (v := 8) hx hb dX4_rule_31 (by decide) ?_
            refine lv_icmp_gt (tgt := 40) hx hb dX4_rule_33 (by decide) (fun c28 => ?_) (fun c28 => ?_)
            · replace hd := if_t c28 hd
              refine lv_iconst (v := 0) hx hb dX4_rule_40 (by decide) ?_
              refine lv_istore (lv' := [(4, .int 0), (3, .int 0), (0, .ref (ad 0 0)), (1, .int x1), (2, .int x2)]) hx hb dX4_rule_41 hl (by decide) rfl (fun ls hl => ?_)
              refine lv_iload_n hx hb dX4_rule_43 rfl (lv_at hl 1 rfl) ?_
              refine lv_if_ne (tgt := 62) hx hb dX4_rule_44 (by decide) (fun h => absurd (by decide) h) (fun _ => ?_)
              refine lv_iload hx hb dX4_rule_47 (lv_at hl 0 rfl) ?_
              refine lv_if_ne (tgt := 62) hx hb dX4_rule_49 (by decide) (fun h => absurd (by decide) h) (fun _ => ?_)
              obtain rfl := Option.some.inj hd
              exact hN _ _ _ _ _ 52 _ "java/lang/IllegalArgumentException" "what or value is out of range" 51 218 55 1 2 7 rfl (by decide) rfl rfl rfl (by rw [show atE 55 "java/lang/IllegalArgumentException" = _ from atE_s (by decide)]; exact fun w h => List.mem_cons_of_mem _ (List.mem_append_right _ h)) hW hl.1 (Nat.le_of_ble_eq_true rfl) dX4_rule_52 dX4_rule_55 dX4_rule_56 dX4_rule_58 dX4_rule_61 (Nat.le_of_ble_eq_true rfl) (Nat.le_of_ble_eq_true rfl) (Nat.le_of_ble_eq_true rfl) (Nat.le_of_ble_eq_true rfl)
            · replace hd := if_f c28 hd
              refine lv_iconst (v := 1) hx hb dX4_rule_36 (by decide) ?_
              refine lv_goto (tgt := 41) hx hb dX4_rule_37 (by decide) ?_
              refine lv_istore (lv' := [(4, .int 1), (3, .int 0), (0, .ref (ad 0 0)), (1, .int x1), (2, .int x2)]) hx hb dX4_rule_41 hl (by decide) rfl (fun ls hl => ?_)
              refine lv_iload_n hx hb dX4_rule_43 rfl (lv_at hl 1 rfl) ?_
              refine lv_if_ne (tgt := 62) hx hb dX4_rule_44 (by decide) (fun h => absurd (by decide) h) (fun _ => ?_)
              refine lv_iload hx hb dX4_rule_47 (lv_at hl 0 rfl) ?_
              refine lv_if_ne (tgt := 62) hx hb dX4_rule_49 (by decide) (fun _ => ?_) (fun h => absurd h (by decide))
              refine lv_aload_n hx hb dX4_rule_62 rfl (lv_at hl 2 rfl) ?_
              refine g_ X hinX4 hW 0 rfl rfl 1 (by decide) 3 rfl rfl rfl dX4_rule_63 ?_
              refine lv_aload_n hx hb dX4_rule_66 rfl (lv_at hl 2 rfl) ?_
              refine g_ X hinX4 hW 0 rfl rfl 0 (by decide) 4 rfl rfl rfl dX4_rule_67 ?_
              obtain ⟨hi32, hd⟩ := wi_e hd
              obtain ⟨H33, eH33, hd⟩ := bw_e hd
              obtain ⟨j31, hjj31, ejj31⟩ := vp_in_of hi32 (by decide)
              rw [show (V.2.2.2.1 0 1).toNatClampNeg = j31 from by rw [ejj31]; exact nI_clamp (by omega)] at eH33
              refine cVmv_ (rest := []) (post := px_hh Y ad V) (ws' := (WX Y ad (V.1, V.2.1, V.2.2.1, H33))) X (kX0_save l Dd Y (ad 2) (fun k => ad (5 + k)) (ad 1) V.2.2.2.1 V.2.2.2.2 V.2.1 j31 hjj31 ejj31) (cwV 1 X.1.2.2.2.2 gX4_rule_X0_save rfl rfl rfl (by decide +kernel) ⟨Nat.le_of_ble_eq_true rfl, Nat.le_of_ble_eq_true rfl⟩) hW (px_h Y ad V) (by rw [eH33]; exact (px_h Y ad (V.1, V.2.1, V.2.2.1, (hSave V.2.2.2.1, va_up V.2.2.2.2 j31 V.2.1))).symm) 0 0 rfl rfl rfl rfl hl.1 rfl (Nat.le_of_ble_eq_true rfl) dX4_rule_70 ⟨Nat.le_of_ble_eq_true rfl, Nat.le_of_ble_eq_true rfl⟩ (fun H locs hW => ?_)
              refine lv_iload_n hx hb dX4_rule_73 rfl (lv_at hl 1 rfl) ?_
              refine lv_if_eq (tgt := 88) hx hb dX4_rule_74 (by decide) (fun _ => ?_) (fun h => absurd (by decide) h)
              refine lv_aload_n hx hb dX4_rule_88 rfl (lv_at hl 2 rfl) ?_
              refine g_ X hinX4 hW 0 rfl rfl 0 (by decide) 4 rfl rfl rfl dX4_rule_89 ?_
              refine lv_iload_n hx hb dX4_rule_92 rfl (lv_at hl 4 rfl) ?_
              obtain ⟨r35, G36, h34, hd⟩ := bs_e hd
              refine cVmi_ (wc := (WR Y (ad 1) V.2.1)) (w1 := (WR Y (ad 1) G36)) (ws' := (WX Y ad (V.1, G36, V.2.2.1, H33))) (rest := []) X (kX1_changeMost l Dd Y (ad 1) V.2.1 x2 r35 G36 h34) (cwV 1 X.1.2.2.2.2 gX4_rule_X1_changeMost rfl rfl rfl (by decide +kernel) ⟨Nat.le_of_ble_eq_true rfl, Nat.le_of_ble_eq_true rfl⟩) hW (px_r Y ad (V.1, V.2.1, V.2.2.1, H33)) (px_r Y ad (V.1, G36, V.2.2.1, H33)).symm 0 1 rfl rfl rfl rfl hl.1 rfl (Nat.le_of_ble_eq_true rfl) dX4_rule_93 ⟨Nat.le_of_ble_eq_true rfl, Nat.le_of_ble_eq_true rfl⟩ (fun H locs hW => ?_)
              obtain rfl := Option.some.inj hd
              exact hI _ _ _ _ _ _ _ _ _ rfl rfl rfl (Nat.le_of_ble_eq_true rfl) (Nat.le_of_ble_eq_true rfl) hW dX4_rule_96
      · replace hd := if_f c25 hd
        refine lv_iconst (v := 1) hx hb dX4_rule_14 (by decide) ?_
        refine lv_goto (tgt := 19) hx hb dX4_rule_15 (by decide) ?_
        refine lv_istore_n (lv' := [(3, .int 1), (0, .ref (ad 0 0)), (1, .int x1), (2, .int x2)]) hx hb dX4_rule_19 rfl hl (by decide) rfl (fun ls hl => ?_)
        refine lv_iload_n hx hb dX4_rule_20 rfl (lv_at hl 2 rfl) ?_
        refine lv_iconst (v := 2) hx hb dX4_rule_21 (by decide) ?_
        refine lv_icmp_ne (tgt := 40) hx hb dX4_rule_22 (by decide) (fun c37 => ?_) (fun c37 => ?_)
        · replace hd := if_f c37 hd
          refine lv_iconst (v := 0) hx hb dX4_rule_40 (by decide) ?_
          refine lv_istore (lv' := [(4, .int 0), (3, .int 1), (0, .ref (ad 0 0)), (1, .int x1), (2, .int x2)]) hx hb dX4_rule_41 hl (by decide) rfl (fun ls hl => ?_)
          refine lv_iload_n hx hb dX4_rule_43 rfl (lv_at hl 1 rfl) ?_
          refine lv_if_ne (tgt := 62) hx hb dX4_rule_44 (by decide) (fun _ => ?_) (fun h => absurd h (by decide))
          refine lv_aload_n hx hb dX4_rule_62 rfl (lv_at hl 2 rfl) ?_
          refine g_ X hinX4 hW 0 rfl rfl 1 (by decide) 3 rfl rfl rfl dX4_rule_63 ?_
          refine lv_aload_n hx hb dX4_rule_66 rfl (lv_at hl 2 rfl) ?_
          refine g_ X hinX4 hW 0 rfl rfl 0 (by decide) 4 rfl rfl rfl dX4_rule_67 ?_
          obtain ⟨hi41, hd⟩ := wi_e hd
          obtain ⟨H42, eH42, hd⟩ := bw_e hd
          obtain ⟨j40, hjj40, ejj40⟩ := vp_in_of hi41 (by decide)
          rw [show (V.2.2.2.1 0 1).toNatClampNeg = j40 from by rw [ejj40]; exact nI_clamp (by omega)] at eH42
          refine cVmv_ (rest := []) (post := px_hh Y ad V) (ws' := (WX Y ad (V.1, V.2.1, V.2.2.1, H42))) X (kX0_save l Dd Y (ad 2) (fun k => ad (5 + k)) (ad 1) V.2.2.2.1 V.2.2.2.2 V.2.1 j40 hjj40 ejj40) (cwV 1 X.1.2.2.2.2 gX4_rule_X0_save rfl rfl rfl (by decide +kernel) ⟨Nat.le_of_ble_eq_true rfl, Nat.le_of_ble_eq_true rfl⟩) hW (px_h Y ad V) (by rw [eH42]; exact (px_h Y ad (V.1, V.2.1, V.2.2.1, (hSave V.2.2.2.1, va_up V.2.2.2.2 j40 V.2.1))).symm) 0 0 rfl rfl rfl rfl hl.1 rfl (Nat.le_of_ble_eq_true rfl) dX4_rule_70 ⟨Nat.le_of_ble_eq_true rfl, Nat.le_of_ble_eq_true rfl⟩ (fun H locs hW => ?_)
          refine lv_iload_n hx hb dX4_rule_73 rfl (lv_at hl 1 rfl) ?_
          refine lv_if_eq (tgt := 88) hx hb dX4_rule_74 (by decide) (fun h => absurd h (by decide)) (fun _ => ?_)
          refine lv_aload_n hx hb dX4_rule_77 rfl (lv_at hl 2 rfl) ?_
          refine g_ X hinX4 hW 0 rfl rfl 0 (by decide) 4 rfl rfl rfl dX4_rule_78 ?_
          refine lv_iload_n hx hb dX4_rule_81 rfl (lv_at hl 4 rfl) ?_
          obtain ⟨r44, G45, h43, hd⟩ := bs_e hd
          refine cVmi_ (wc := (WR Y (ad 1) V.2.1)) (w1 := (WR Y (ad 1) G45)) (ws' := (WX Y ad (V.1, G45, V.2.2.1, H42))) (rest := []) X (kX1_changeRule l Dd Y (ad 1) V.2.1 x2 r44 G45 h43) (cwV 1 X.1.2.2.2.2 gX4_rule_X1_changeRule rfl rfl rfl (by decide +kernel) ⟨Nat.le_of_ble_eq_true rfl, Nat.le_of_ble_eq_true rfl⟩) hW (px_r Y ad (V.1, V.2.1, V.2.2.1, H42)) (px_r Y ad (V.1, G45, V.2.2.1, H42)).symm 0 1 rfl rfl rfl rfl hl.1 rfl (Nat.le_of_ble_eq_true rfl) dX4_rule_82 ⟨Nat.le_of_ble_eq_true rfl, Nat.le_of_ble_eq_true rfl⟩ (fun H locs hW => ?_)
          refine lv_goto (tgt := 96) hx hb dX4_rule_85 (by decide) ?_
          obtain rfl := Option.some.inj hd
          exact hI _ _ _ _ _ _ _ _ _ rfl rfl rfl (Nat.le_of_ble_eq_true rfl) (Nat.le_of_ble_eq_true rfl) hW dX4_rule_96
        · replace hd := if_t c37 hd
          refine lv_iload_n hx hb dX4_rule_25 rfl (lv_at hl 3 rfl) ?_
          refine lv_iconst (v := 1) hx hb dX4_rule_26 (by decide) ?_
          refine lv_icmp_lt (tgt := 40) hx hb dX4_rule_27 (by decide) (fun c46 => ?_) (fun c46 => ?_)
          · replace hd := if_t c46 hd
            refine lv_iconst (v := 0) hx hb dX4_rule_40 (by decide) ?_
            refine lv_istore (lv' := [(4, .int 0), (3, .int 1), (0, .ref (ad 0 0)), (1, .int x1), (2, .int x2)]) hx hb dX4_rule_41 hl (by decide) rfl (fun ls hl => ?_)
            refine lv_iload_n hx hb dX4_rule_43 rfl (lv_at hl 1 rfl) ?_
            refine lv_if_ne (tgt := 62) hx hb dX4_rule_44 (by decide) (fun _ => ?_) (fun h => absurd h (by decide))
            refine lv_aload_n hx hb dX4_rule_62 rfl (lv_at hl 2 rfl) ?_
            refine g_ X hinX4 hW 0 rfl rfl 1 (by decide) 3 rfl rfl rfl dX4_rule_63 ?_
            refine lv_aload_n hx hb dX4_rule_66 rfl (lv_at hl 2 rfl) ?_
            refine g_ X hinX4 hW 0 rfl rfl 0 (by decide) 4 rfl rfl rfl dX4_rule_67 ?_
            obtain ⟨hi50, hd⟩ := wi_e hd
            obtain ⟨H51, eH51, hd⟩ := bw_e hd
            obtain ⟨j49, hjj49, ejj49⟩ := vp_in_of hi50 (by decide)
            rw [show (V.2.2.2.1 0 1).toNatClampNeg = j49 from by rw [ejj49]; exact nI_clamp (by omega)] at eH51
            refine cVmv_ (rest := []) (post := px_hh Y ad V) (ws' := (WX Y ad (V.1, V.2.1, V.2.2.1, H51))) X (kX0_save l Dd Y (ad 2) (fun k => ad (5 + k)) (ad 1) V.2.2.2.1 V.2.2.2.2 V.2.1 j49 hjj49 ejj49) (cwV 1 X.1.2.2.2.2 gX4_rule_X0_save rfl rfl rfl (by decide +kernel) ⟨Nat.le_of_ble_eq_true rfl, Nat.le_of_ble_eq_true rfl⟩) hW (px_h Y ad V) (by rw [eH51]; exact (px_h Y ad (V.1, V.2.1, V.2.2.1, (hSave V.2.2.2.1, va_up V.2.2.2.2 j49 V.2.1))).symm) 0 0 rfl rfl rfl rfl hl.1 rfl (Nat.le_of_ble_eq_true rfl) dX4_rule_70 ⟨Nat.le_of_ble_eq_true rfl, Nat.le_of_ble_eq_true rfl⟩ (fun H locs hW => ?_)
            refine lv_iload_n hx hb dX4_rule_73 rfl (lv_at hl 1 rfl) ?_
            refine lv_if_eq (tgt := 88) hx hb dX4_rule_74 (by decide) (fun h => absurd h (by decide)) (fun _ => ?_)
            refine lv_aload_n hx hb dX4_rule_77 rfl (lv_at hl 2 rfl) ?_
            refine g_ X hinX4 hW 0 rfl rfl 0 (by decide) 4 rfl rfl rfl dX4_rule_78 ?_
            refine lv_iload_n hx hb dX4_rule_81 rfl (lv_at hl 4 rfl) ?_
            obtain ⟨r53, G54, h52, hd⟩ := bs_e hd
            refine cVmi_ (wc := (WR Y (ad 1) V.2.1)) (w1 := (WR Y (ad 1) G54)) (ws' := (WX Y ad (V.1, G54, V.2.2.1, H51))) (rest := []) X (kX1_changeRule l Dd Y (ad 1) V.2.1 x2 r53 G54 h52) (cwV 1 X.1.2.2.2.2 gX4_rule_X1_changeRule rfl rfl rfl (by decide +kernel) ⟨Nat.le_of_ble_eq_true rfl, Nat.le_of_ble_eq_true rfl⟩) hW (px_r Y ad (V.1, V.2.1, V.2.2.1, H51)) (px_r Y ad (V.1, G54, V.2.2.1, H51)).symm 0 1 rfl rfl rfl rfl hl.1 rfl (Nat.le_of_ble_eq_true rfl) dX4_rule_82 ⟨Nat.le_of_ble_eq_true rfl, Nat.le_of_ble_eq_true rfl⟩ (fun H locs hW => ?_)
            refine lv_goto (tgt := 96) hx hb dX4_rule_85 (by decide) ?_
            obtain rfl := Option.some.inj hd
            exact hI _ _ _ _ _ _ _ _ _ rfl rfl rfl (Nat.le_of_ble_eq_true rfl) (Nat.le_of_ble_eq_true rfl) hW dX4_rule_96
          · replace hd := if_f c46 hd
            refine lv_iload_n hx hb dX4_rule_30 rfl (lv_at hl 3 rfl) ?_
            refine lv_bipush (v := 8) hx hb dX4_rule_31 (by decide) ?_
            refine lv_icmp_gt (tgt := 40) hx hb dX4_rule_33 (by decide) (fun c55 => ?_) (fun c55 => ?_)
            · replace hd := if_t c55 hd
              refine lv_iconst (v := 0) hx hb dX4_rule_40 (by decide) ?_
              refine lv_istore (lv' := [(4, .int 0), (3, .int 1), (0, .ref (ad 0 0)), (1, .int x1), (2, .int x2)]) hx hb dX4_rule_41 hl (by decide) rfl (fun ls hl => ?_)
              refine lv_iload_n hx hb dX4_rule_43 rfl (lv_at hl 1 rfl) ?_
              refine lv_if_ne (tgt := 62) hx hb dX4_rule_44 (by decide) (fun _ => ?_) (fun h => absurd h (by decide))
              refine lv_aload_n hx hb dX4_rule_62 rfl (lv_at hl 2 rfl) ?_
              refine g_ X hinX4 hW 0 rfl rfl 1 (by decide) 3 rfl rfl rfl dX4_rule_63 ?_
              refine lv_aload_n hx hb dX4_rule_66 rfl (lv_at hl 2 rfl) ?_
              refine g_ X hinX4 hW 0 rfl rfl 0 (by decide) 4 rfl rfl rfl dX4_rule_67 ?_
              obtain ⟨hi59, hd⟩ := wi_e hd
              obtain ⟨H60, eH60, hd⟩ := bw_e hd
              obtain ⟨j58, hjj58, ejj58⟩ := vp_in_of hi59 (by decide)
              rw [show (V.2.2.2.1 0 1).toNatClampNeg = j58 from by rw [ejj58]; exact nI_clamp (by omega)] at eH60
              refine cVmv_ (rest := []) (post := px_hh Y ad V) (ws' := (WX Y ad (V.1, V.2.1, V.2.2.1, H60))) X (kX0_save l Dd Y (ad 2) (fun k => ad (5 + k)) (ad 1) V.2.2.2.1 V.2.2.2.2 V.2.1 j58 hjj58 ejj58) (cwV 1 X.1.2.2.2.2 gX4_rule_X0_save rfl rfl rfl (by decide +kernel) ⟨Nat.le_of_ble_eq_true rfl, Nat.le_of_ble_eq_true rfl⟩) hW (px_h Y ad V) (by rw [eH60]; exact (px_h Y ad (V.1, V.2.1, V.2.2.1, (hSave V.2.2.2.1, va_up V.2.2.2.2 j58 V.2.1))).symm) 0 0 rfl rfl rfl rfl hl.1 rfl (Nat.le_of_ble_eq_true rfl) dX4_rule_70 ⟨Nat.le_of_ble_eq_true rfl, Nat.le_of_ble_eq_true rfl⟩ (fun H locs hW => ?_)
              refine lv_iload_n hx hb dX4_rule_73 rfl (lv_at hl 1 rfl) ?_
              refine lv_if_eq (tgt := 88) hx hb dX4_rule_74 (by decide) (fun h => absurd h (by decide)) (fun _ => ?_)
              refine lv_aload_n hx hb dX4_rule_77 rfl (lv_at hl 2 rfl) ?_
              refine g_ X hinX4 hW 0 rfl rfl 0 (by decide) 4 rfl rfl rfl dX4_rule_78 ?_
              refine lv_iload_n hx hb dX4_rule_81 rfl (lv_at hl 4 rfl) ?_
              obtain ⟨r62, G63, h61, hd⟩ := bs_e hd
              refine cVmi_ (wc := (WR Y (ad 1) V.2.1)) (w1 := (WR Y (ad 1) G63)) (ws' := (WX Y ad (V.1, G63, V.2.2.1, H60))) (rest := []) X (kX1_changeRule l Dd Y (ad 1) V.2.1 x2 r62 G63 h61) (cwV 1 X.1.2.2.2.2 gX4_rule_X1_changeRule rfl rfl rfl (by decide +kernel) ⟨Nat.le_of_ble_eq_true rfl, Nat.le_of_ble_eq_true rfl⟩) hW (px_r Y ad (V.1, V.2.1, V.2.2.1, H60)) (px_r Y ad (V.1, G63, V.2.2.1, H60)).symm 0 1 rfl rfl rfl rfl hl.1 rfl (Nat.le_of_ble_eq_true rfl) dX4_rule_82 ⟨Nat.le_of_ble_eq_true rfl, Nat.le_of_ble_eq_true rfl⟩ (fun H locs hW => ?_)
              refine lv_goto (tgt := 96) hx hb dX4_rule_85 (by decide) ?_
              obtain rfl := Option.some.inj hd
              exact hI _ _ _ _ _ _ _ _ _ rfl rfl rfl (Nat.le_of_ble_eq_true rfl) (Nat.le_of_ble_eq_true rfl) hW dX4_rule_96
            · replace hd := if_f c55 hd
              refine lv_iconst (v := 1) hx hb dX4_rule_36 (by decide) ?_
              refine lv_goto (tgt := 41) hx hb dX4_rule_37 (by decide) ?_
              refine lv_istore (lv' := [(4, .int 1), (3, .int 1), (0, .ref (ad 0 0)), (1, .int x1), (2, .int x2)]) hx hb dX4_rule_41 hl (by decide) rfl (fun ls hl => ?_)
              refine lv_iload_n hx hb dX4_rule_43 rfl (lv_at hl 1 rfl) ?_
              refine lv_if_ne (tgt := 62) hx hb dX4_rule_44 (by decide) (fun _ => ?_) (fun h => absurd h (by decide))
              refine lv_aload_n hx hb dX4_rule_62 rfl (lv_at hl 2 rfl) ?_
              refine g_ X hinX4 hW 0 rfl rfl 1 (by decide) 3 rfl rfl rfl dX4_rule_63 ?_
              refine lv_aload_n hx hb dX4_rule_66 rfl (lv_at hl 2 rfl) ?_
              refine g_ X hinX4 hW 0 rfl rfl 0 (by decide) 4 rfl rfl rfl dX4_rule_67 ?_
              obtain ⟨hi67, hd⟩ := wi_e hd
              obtain ⟨H68, eH68, hd⟩ := bw_e hd
              obtain ⟨j66, hjj66, ejj66⟩ := vp_in_of hi67 (by decide)
              rw [show (V.2.2.2.1 0 1).toNatClampNeg = j66 from by rw [ejj66]; exact nI_clamp (by omega)] at eH68
              refine cVmv_ (rest := []) (post := px_hh Y ad V) (ws' := (WX Y ad (V.1, V.2.1, V.2.2.1, H68))) X (kX0_save l Dd Y (ad 2) (fun k => ad (5 + k)) (ad 1) V.2.2.2.1 V.2.2.2.2 V.2.1 j66 hjj66 ejj66) (cwV 1 X.1.2.2.2.2 gX4_rule_X0_save rfl rfl rfl (by decide +kernel) ⟨Nat.le_of_ble_eq_true rfl, Nat.le_of_ble_eq_true rfl⟩) hW (px_h Y ad V) (by rw [eH68]; exact (px_h Y ad (V.1, V.2.1, V.2.2.1, (hSave V.2.2.2.1, va_up V.2.2.2.2 j66 V.2.1))).symm) 0 0 rfl rfl rfl rfl hl.1 rfl (Nat.le_of_ble_eq_true rfl) dX4_rule_70 ⟨Nat.le_of_ble_eq_true rfl, Nat.le_of_ble_eq_true rfl⟩ (fun H locs hW => ?_)
              refine lv_iload_n hx hb dX4_rule_73 rfl (lv_at hl 1 rfl) ?_
              refine lv_if_eq (tgt := 88) hx hb dX4_rule_74 (by decide) (fun h => absurd h (by decide)) (fun _ => ?_)
              refine lv_aload_n hx hb dX4_rule_77 rfl (lv_at hl 2 rfl) ?_
              refine g_ X hinX4 hW 0 rfl rfl 0 (by decide) 4 rfl rfl rfl dX4_rule_78 ?_
              refine lv_iload_n hx hb dX4_rule_81 rfl (lv_at hl 4 rfl) ?_
              obtain ⟨r70, G71, h69, hd⟩ := bs_e hd
              refine cVmi_ (wc := (WR Y (ad 1) V.2.1)) (w1 := (WR Y (ad 1) G71)) (ws' := (WX Y ad (V.1, G71, V.2.2.1, H68))) (rest := []) X (kX1_changeRule l Dd Y (ad 1) V.2.1 x2 r70 G71 h69) (cwV 1 X.1.2.2.2.2 gX4_rule_X1_changeRule rfl rfl rfl (by decide +kernel) ⟨Nat.le_of_ble_eq_true rfl, Nat.le_of_ble_eq_true rfl⟩) hW (px_r Y ad (V.1, V.2.1, V.2.2.1, H68)) (px_r Y ad (V.1, G71, V.2.2.1, H68)).symm 0 1 rfl rfl rfl rfl hl.1 rfl (Nat.le_of_ble_eq_true rfl) dX4_rule_82 ⟨Nat.le_of_ble_eq_true rfl, Nat.le_of_ble_eq_true rfl⟩ (fun H locs hW => ?_)
              refine lv_goto (tgt := 96) hx hb dX4_rule_85 (by decide) ?_
              obtain rfl := Option.some.inj hd
              exact hI _ _ _ _ _ _ _ _ _ rfl rfl rfl (Nat.le_of_ble_eq_true rfl) (Nat.le_of_ble_eq_true rfl) hW dX4_rule_96
