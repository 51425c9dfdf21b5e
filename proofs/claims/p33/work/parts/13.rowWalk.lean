abbrev rmX1_start : Room := { frames := 0, cells := 0, slots := 0, locals := 0 }
set_option maxRecDepth 100000 in
set_option maxHeartbeats 4000000 in
theorem kX1_start (l : Launch) (Dd : va_G) (Y : yT) (ad : Nat → Nat) (G : gR) (x1 : Int32) (x2 : Int32) (G' : gR) (hd : dnX1_start G x1 x2 = some G') : MG l yX1_start wsX1_start rmX1_start Dd Y [.ref (ad 0), .int x1, .int x2] (WR Y ad G) (WR Y ad G') none := by
  refine MGv (cc := cX1_start) (maxL := 3) (by decide) rfl (Nat.le_of_ble_eq_true rfl) (fun {p e s m args below meth c A} ls Q X hW hl hQ => ?_)
  have hx := X.x
  have hb := X.b
  have hl : lv_has ls 3 [(0, .ref (ad 0)), (1, .int x1), (2, .int x2)] := hl
  have hinX1 : ∀ w ∈ wsX10, w ∈ wsX1_start := fun w h => List.mem_cons_of_mem _ (List.mem_append_left _ (List.mem_append_right _ h))
  have hinX3 : ∀ w ∈ wsX30, w ∈ wsX1_start := fun w h => List.mem_cons_of_mem _ (List.mem_append_right _ h)
  unfold dnX1_start at hd
  refine lv_aload_n hx hb dX1_start_0 rfl (lv_at hl 0 rfl) ?_
  refine lv_iconst (v := 0) hx hb dX1_start_1 (by decide) ?_
  obtain ⟨G1, eG1, hd⟩ := bw_e hd
  refine p_ (ty := .int) X hinX1 tyX1 tyX1_ok nmX1 hW 0 rfl rfl 3 (by decide) 1 rfl rfl rfl (by decide +kernel) rfl rfl (Nat.le_of_ble_eq_true rfl) dX1_start_2 (ws' := (WR Y ad G1)) (by rw [eG1]; rfl) (fun H locs hW => ?_)
  refine lv_aload_n hx hb dX1_start_5 rfl (lv_at hl 0 rfl) ?_
  refine lv_iload_n hx hb dX1_start_6 rfl (lv_at hl 1 rfl) ?_
  obtain ⟨G2, eG2, hd⟩ := bw_e hd
  refine p_ (ty := .int) X hinX1 tyX1 tyX1_ok nmX1 hW 0 rfl rfl 4 (by decide) 2 rfl rfl rfl (by decide +kernel) rfl rfl (Nat.le_of_ble_eq_true rfl) dX1_start_7 (ws' := (WR Y ad G2)) (by rw [eG2]; rfl) (fun H locs hW => ?_)
  refine lv_aload_n hx hb dX1_start_10 rfl (lv_at hl 0 rfl) ?_
  refine lv_iload_n hx hb dX1_start_11 rfl (lv_at hl 2 rfl) ?_
  obtain ⟨G3, eG3, hd⟩ := bw_e hd
  refine p_ (ty := .int) X hinX1 tyX1 tyX1_ok nmX1 hW 0 rfl rfl 5 (by decide) 3 rfl rfl rfl (by decide +kernel) rfl rfl (Nat.le_of_ble_eq_true rfl) dX1_start_12 (ws' := (WR Y ad G3)) (by rw [eG3]; rfl) (fun H locs hW => ?_)
  refine lv_aload_n hx hb dX1_start_15 rfl (lv_at hl 0 rfl) ?_
  refine lv_lconst (v := 0) hx hb dX1_start_16 (by decide) ?_
  obtain ⟨G4, eG4, hd⟩ := bw_e hd
  refine p_ (ty := .long) X hinX1 tyX1 tyX1_ok nmX1 hW 0 rfl rfl 6 (by decide) 4 rfl rfl rfl (by decide +kernel) rfl rfl (Nat.le_of_ble_eq_true rfl) dX1_start_17 (ws' := (WR Y ad G4)) (by rw [eG4]; rfl) (fun H locs hW => ?_)
  refine lv_aload_n hx hb dX1_start_20 rfl (lv_at hl 0 rfl) ?_
  refine lv_iconst (v := 0) hx hb dX1_start_21 (by decide) ?_
  obtain ⟨G5, eG5, hd⟩ := bw_e hd
  refine p_ (ty := .int) X hinX1 tyX1 tyX1_ok nmX1 hW 0 rfl rfl 7 (by decide) 5 rfl rfl rfl (by decide +kernel) rfl rfl (Nat.le_of_ble_eq_true rfl) dX1_start_22 (ws' := (WR Y ad G5)) (by rw [eG5]; rfl) (fun H locs hW => ?_)
  refine lv_aload_n hx hb dX1_start_25 rfl (lv_at hl 0 rfl) ?_
  refine lv_iconst (v := 0) hx hb dX1_start_26 (by decide) ?_
  obtain ⟨G6, eG6, hd⟩ := bw_e hd
  refine p_ (ty := .int) X hinX1 tyX1 tyX1_ok nmX1 hW 0 rfl rfl 8 (by decide) 6 rfl rfl rfl (by decide +kernel) rfl rfl (Nat.le_of_ble_eq_true rfl) dX1_start_27 (ws' := (WR Y ad G6)) (by rw [eG6]; rfl) (fun H locs hW => ?_)
  refine lv_aload_n hx hb dX1_start_30 rfl (lv_at hl 0 rfl) ?_
  refine lv_iconst (v := 0) hx hb dX1_start_31 (by decide) ?_
  obtain ⟨G7, eG7, hd⟩ := bw_e hd
  refine p_ (ty := .int) X hinX1 tyX1 tyX1_ok nmX1 hW 0 rfl rfl 9 (by decide) 7 rfl rfl rfl (by decide +kernel) rfl rfl (Nat.le_of_ble_eq_true rfl) dX1_start_32 (ws' := (WR Y ad G7)) (by rw [eG7]; rfl) (fun H locs hW => ?_)
  refine lv_aload_n hx hb dX1_start_35 rfl (lv_at hl 0 rfl) ?_
  refine lv_iconst (v := 0) hx hb dX1_start_36 (by decide) ?_
  obtain ⟨G8, eG8, hd⟩ := bw_e hd
  refine p_ (ty := .int) X hinX1 tyX1 tyX1_ok nmX1 hW 0 rfl rfl 10 (by decide) 8 rfl rfl rfl (by decide +kernel) rfl rfl (Nat.le_of_ble_eq_true rfl) dX1_start_37 (ws' := (WR Y ad G8)) (by rw [eG8]; rfl) (fun H locs hW => ?_)
  refine lv_aload_n hx hb dX1_start_40 rfl (lv_at hl 0 rfl) ?_
  refine g_ X hinX1 hW 0 rfl rfl 2 (by decide) 9 rfl rfl rfl dX1_start_41 ?_
  refine lv_iconst (v := 0) hx hb dX1_start_44 (by decide) ?_
  obtain ⟨G9, eG9, hd⟩ := bw_e hd
  refine p_ (ty := .int) X hinX3 tyX3 tyX3_ok nmX3 hW 3 rfl rfl 2 (by decide) 10 rfl rfl rfl (by decide +kernel) rfl rfl (Nat.le_of_ble_eq_true rfl) dX1_start_45 (ws' := (WR Y ad G9)) (by rw [eG9]; rfl) (fun H locs hW => ?_)
  obtain rfl := Option.some.inj hd
  exact hQ _ _ _ _ hW dX1_start_48
abbrev rmX1_isPlace : Room := { frames := 0, cells := 0, slots := 0, locals := 0 }
set_option maxRecDepth 100000 in
set_option maxHeartbeats 4000000 in
theorem kX1_isPlace (l : Launch) (Dd : va_G) (Y : yT) (ad : Nat → Nat) (G : gR) (x1 : Int32) (r : Int32) (hd : dnX1_isPlace G x1 = some r) : MG l yX1_isPlace wsX1_isPlace rmX1_isPlace Dd Y [.ref (ad 0), .int x1] (WR Y ad G) (WR Y ad G) (some (.int r)) := by
  refine MGi (cc := cX1_isPlace) (maxL := 2) (ty := .boolean) (by decide) rfl (Nat.le_of_ble_eq_true rfl) (fun {p e s m args below meth c A} ls Q X hW hl hQ => ?_)
  have hx := X.x
  have hb := X.b
  have hl : lv_has ls 2 [(0, .ref (ad 0)), (1, .int x1)] := hl
  have hinX1 : ∀ w ∈ wsX10, w ∈ wsX1_isPlace := fun w h => List.mem_cons_of_mem _ (List.mem_append_right _ h)
  unfold dnX1_isPlace at hd
  refine lv_iload_n hx hb dX1_isPlace_0 rfl (lv_at hl 1 rfl) ?_
  refine lv_if_lt (tgt := 16) hx hb dX1_isPlace_1 (by decide) (fun c1 => ?_) (fun c1 => ?_)
  · replace hd := if_t c1 hd
    refine lv_iconst (v := 0) hx hb dX1_isPlace_16 (by decide) ?_
    have hd := Option.some.inj hd
    subst hd
    exact hQ _ _ _ _ (nz_b (Or.inl rfl)) hW dX1_isPlace_17
  · replace hd := if_f c1 hd
    refine lv_iload_n hx hb dX1_isPlace_4 rfl (lv_at hl 1 rfl) ?_
    refine lv_aload_n hx hb dX1_isPlace_5 rfl (lv_at hl 0 rfl) ?_
    refine g_ X hinX1 hW 0 rfl rfl 3 (by decide) 1 rfl rfl rfl dX1_isPlace_6 ?_
    refine lv_icmp_ge (tgt := 16) hx hb dX1_isPlace_9 (by decide) (fun c2 => ?_) (fun c2 => ?_)
    · replace hd := if_t c2 hd
      refine lv_iconst (v := 0) hx hb dX1_isPlace_16 (by decide) ?_
      have hd := Option.some.inj hd
      subst hd
      exact hQ _ _ _ _ (nz_b (Or.inl rfl)) hW dX1_isPlace_17
    · replace hd := if_f c2 hd
      refine lv_iconst (v := 1) hx hb dX1_isPlace_12 (by decide) ?_
      refine lv_goto (tgt := 17) hx hb dX1_isPlace_13 (by decide) ?_
      have hd := Option.some.inj hd
      subst hd
      exact hQ _ _ _ _ (nz_b (Or.inr rfl)) hW dX1_isPlace_17
abbrev rmX1_hasStretch : Room := { frames := 1, cells := 0, slots := 0, locals := 21 }
set_option maxRecDepth 100000 in
set_option maxHeartbeats 4000000 in
theorem kX1_hasStretch (l : Launch) (Dd : va_G) (Y : yT) (ad : Nat → Nat) (G : gR) (x1 : Int32) (x2 : Int32) (r : Int32) (hd : dnX1_hasStretch G x1 x2 = some r) : MG l yX1_hasStretch wsX1_hasStretch rmX1_hasStretch Dd Y [.ref (ad 0), .int x1, .int x2] (WR Y ad G) (WR Y ad G) (some (.int r)) := by
  refine MGi (cc := cX1_hasStretch) (maxL := 3) (ty := .boolean) (by decide) rfl (Nat.le_of_ble_eq_true rfl) (fun {p e s m args below meth c A} ls Q X hW hl hQ => ?_)
  have hx := X.x
  have hb := X.b
  have hl : lv_has ls 3 [(0, .ref (ad 0)), (1, .int x1), (2, .int x2)] := hl
  unfold dnX1_hasStretch at hd
  refine lv_aload_n hx hb dX1_hasStretch_0 rfl (lv_at hl 0 rfl) ?_
  refine lv_iload_n hx hb dX1_hasStretch_1 rfl (lv_at hl 1 rfl) ?_
  obtain ⟨r2, h1, hd⟩ := bp_e hd
  refine cVi_ (rest := []) X (kX1_isPlace l Dd Y ad G x1 r2 h1) (cwV 1 X.1.2.2.2.2 gX1_hasStretch_X1_isPlace rfl rfl rfl (by decide +kernel) ⟨Nat.le_of_ble_eq_true rfl, Nat.le_of_ble_eq_true rfl⟩) hW 0 1 rfl rfl rfl rfl hl.1 rfl (Nat.le_of_ble_eq_true rfl) dX1_hasStretch_2 ⟨Nat.zero_le _, Nat.zero_le _⟩ (fun H locs hW => ?_)
  refine lv_if_eq (tgt := 25) hx hb dX1_hasStretch_5 (by decide) (fun c3 => ?_) (fun c3 => ?_)
  · replace hd := if_t c3 hd
    refine lv_iconst (v := 0) hx hb dX1_hasStretch_25 (by decide) ?_
    have hd := Option.some.inj hd
    subst hd
    exact hQ _ _ _ _ (nz_b (Or.inl rfl)) hW dX1_hasStretch_26
  · replace hd := if_f c3 hd
    refine lv_aload_n hx hb dX1_hasStretch_8 rfl (lv_at hl 0 rfl) ?_
    refine lv_iload_n hx hb dX1_hasStretch_9 rfl (lv_at hl 2 rfl) ?_
    obtain ⟨r5, h4, hd⟩ := bp_e hd
    refine cVi_ (rest := []) X (kX1_isPlace l Dd Y ad G x2 r5 h4) (cwV 1 X.1.2.2.2.2 gX1_hasStretch_X1_isPlace rfl rfl rfl (by decide +kernel) ⟨Nat.le_of_ble_eq_true rfl, Nat.le_of_ble_eq_true rfl⟩) hW 0 1 rfl rfl rfl rfl hl.1 rfl (Nat.le_of_ble_eq_true rfl) dX1_hasStretch_10 ⟨Nat.zero_le _, Nat.zero_le _⟩ (fun H locs hW => ?_)
    refine lv_if_eq (tgt := 25) hx hb dX1_hasStretch_13 (by decide) (fun c6 => ?_) (fun c6 => ?_)
    · replace hd := if_t c6 hd
      refine lv_iconst (v := 0) hx hb dX1_hasStretch_25 (by decide) ?_
      have hd := Option.some.inj hd
      subst hd
      exact hQ _ _ _ _ (nz_b (Or.inl rfl)) hW dX1_hasStretch_26
    · replace hd := if_f c6 hd
      refine lv_iload_n hx hb dX1_hasStretch_16 rfl (lv_at hl 1 rfl) ?_
      refine lv_iload_n hx hb dX1_hasStretch_17 rfl (lv_at hl 2 rfl) ?_
      refine lv_icmp_gt (tgt := 25) hx hb dX1_hasStretch_18 (by decide) (fun c7 => ?_) (fun c7 => ?_)
      · replace hd := if_t c7 hd
        refine lv_iconst (v := 0) hx hb dX1_hasStretch_25 (by decide) ?_
        have hd := Option.some.inj hd
        subst hd
        exact hQ _ _ _ _ (nz_b (Or.inl rfl)) hW dX1_hasStretch_26
      · replace hd := if_f c7 hd
        refine lv_iconst (v := 1) hx hb dX1_hasStretch_21 (by decide) ?_
        refine lv_goto (tgt := 26) hx hb dX1_hasStretch_22 (by decide) ?_
        have hd := Option.some.inj hd
        subst hd
        exact hQ _ _ _ _ (nz_b (Or.inr rfl)) hW dX1_hasStretch_26
abbrev rmX1_valueAt : Room := { frames := 0, cells := 0, slots := 0, locals := 0 }
set_option maxRecDepth 100000 in
set_option maxHeartbeats 4000000 in
theorem kX1_valueAt (l : Launch) (Dd : va_G) (Y : yT) (ad : Nat → Nat) (G : gR) (x1 : Int32) (r : Int32) (hd : dnX1_valueAt G x1 = some r) : MG l yX1_valueAt wsX1_valueAt rmX1_valueAt Dd Y [.ref (ad 0), .int x1] (WR Y ad G) (WR Y ad G) (some (.int r)) := by
  refine MGi (cc := cX1_valueAt) (maxL := 2) (ty := .int) (by decide) rfl (Nat.le_of_ble_eq_true rfl) (fun {p e s m args below meth c A} ls Q X hW hl hQ => ?_)
  have hx := X.x
  have hb := X.b
  have hl : lv_has ls 2 [(0, .ref (ad 0)), (1, .int x1)] := hl
  have hinX1 : ∀ w ∈ wsX10, w ∈ wsX1_valueAt := fun w h => List.mem_cons_of_mem _ (List.mem_append_right _ h)
  unfold dnX1_valueAt at hd
  refine lv_iload_n hx hb dX1_valueAt_0 rfl (lv_at hl 1 rfl) ?_
  refine lv_if_lt (tgt := 22) hx hb dX1_valueAt_1 (by decide) (fun c1 => ?_) (fun c1 => ?_)
  · replace hd := if_t c1 hd
    refine lv_iconst (v := 0) hx hb dX1_valueAt_22 (by decide) ?_
    have hd := Option.some.inj hd
    subst hd
    exact hQ _ _ _ _ rfl hW dX1_valueAt_23
  · replace hd := if_f c1 hd
    refine lv_iload_n hx hb dX1_valueAt_4 rfl (lv_at hl 1 rfl) ?_
    refine lv_aload_n hx hb dX1_valueAt_5 rfl (lv_at hl 0 rfl) ?_
    refine g_ X hinX1 hW 0 rfl rfl 0 (by decide) 1 rfl rfl rfl dX1_valueAt_6 ?_
    refine len_ (v := 40) X hW 1 0 rfl rfl rfl dX1_valueAt_9 ?_
    refine lv_icmp_ge (tgt := 22) hx hb dX1_valueAt_10 (by decide) (fun c2 => ?_) (fun c2 => ?_)
    · replace hd := if_t c2 hd
      refine lv_iconst (v := 0) hx hb dX1_valueAt_22 (by decide) ?_
      have hd := Option.some.inj hd
      subst hd
      exact hQ _ _ _ _ rfl hW dX1_valueAt_23
    · replace hd := if_f c2 hd
      refine lv_aload_n hx hb dX1_valueAt_13 rfl (lv_at hl 0 rfl) ?_
      refine g_ X hinX1 hW 0 rfl rfl 0 (by decide) 1 rfl rfl rfl dX1_valueAt_14 ?_
      refine lv_iload_n hx hb dX1_valueAt_17 rfl (lv_at hl 1 rfl) ?_
      obtain ⟨hi3, hd⟩ := ra_e hd
      refine a_ X hW 1 rfl rfl hi3 dX1_valueAt_18 ?_
      generalize (G.1 1) x1.toNatClampNeg = v4 at hd ⊢
      refine lv_goto (tgt := 23) hx hb dX1_valueAt_19 (by decide) ?_
      have hd := Option.some.inj hd
      subst hd
      exact hQ _ _ _ _ rfl hW dX1_valueAt_23
abbrev rmX4_isAmong : Room := { frames := 0, cells := 0, slots := 0, locals := 0 }
set_option maxRecDepth 100000 in
set_option maxHeartbeats 4000000 in
theorem kX4_isAmong (l : Launch) (Dd : va_G) (Y : yT) (x0 : Int64) (x2 : Int32) (r : Int32) (hd : dnX4_isAmong x0 x2 = some r) : MG l yX4_isAmong wsX4_isAmong rmX4_isAmong Dd Y [.long x0, .int x2] [] [] (some (.int r)) := by
  refine MGi (cc := cX4_isAmong) (maxL := 3) (ty := .boolean) (by decide) rfl (Nat.le_of_ble_eq_true rfl) (fun {p e s m args below meth c A} ls Q X hW hl hQ => ?_)
  have hx := X.x
  have hb := X.b
  have hl : lv_has ls 3 [(0, .long x0), (2, .int x2)] := hl
  unfold dnX4_isAmong at hd
  refine lv_lload_n hx hb dX4_isAmong_0 rfl (lv_at hl 0 rfl) ?_
  refine lv_iload_n hx hb dX4_isAmong_1 rfl (lv_at hl 1 rfl) ?_
  refine lv_lushr (v := (x0.toUInt64 >>> (x2.toInt64.toUInt64 &&& Int64.toUInt64 63)).toInt64) hx hb dX4_isAmong_2 rfl ?_
  refine lv_lconst (v := 1) hx hb dX4_isAmong_3 (by decide) ?_
  refine lv_land hx hb dX4_isAmong_4 ?_
  refine lv_lconst (v := 0) hx hb dX4_isAmong_5 (by decide) ?_
  refine W.lcmp hx hb dX4_isAmong_6 ?_
  refine lv_if_eq (tgt := 14) hx hb dX4_isAmong_7 (by decide) (fun c1 => ?_) (fun c1 => ?_)
  · replace hd := if_t c1 hd
    refine lv_iconst (v := 0) hx hb dX4_isAmong_14 (by decide) ?_
    have hd := Option.some.inj hd
    subst hd
    exact hQ _ _ _ _ (nz_b (Or.inl rfl)) hW dX4_isAmong_15
  · replace hd := if_f c1 hd
    refine lv_iconst (v := 1) hx hb dX4_isAmong_10 (by decide) ?_
    refine lv_goto (tgt := 15) hx hb dX4_isAmong_11 (by decide) ?_
    have hd := Option.some.inj hd
    subst hd
    exact hQ _ _ _ _ (nz_b (Or.inr rfl)) hW dX4_isAmong_15
abbrev rmX1_isWaiting : Room := { frames := 1, cells := 0, slots := 0, locals := 22 }
set_option maxRecDepth 100000 in
set_option maxHeartbeats 4000000 in
theorem kX1_isWaiting (l : Launch) (Dd : va_G) (Y : yT) (ad : Nat → Nat) (G : gR) (x1 : Int32) (r : Int32) (hd : dnX1_isWaiting G x1 = some r) : MG l yX1_isWaiting wsX1_isWaiting rmX1_isWaiting Dd Y [.ref (ad 0), .int x1] (WR Y ad G) (WR Y ad G) (some (.int r)) := by
  refine MGi (cc := cX1_isWaiting) (maxL := 2) (ty := .boolean) (by decide) rfl (Nat.le_of_ble_eq_true rfl) (fun {p e s m args below meth c A} ls Q X hW hl hQ => ?_)
  have hx := X.x
  have hb := X.b
  have hl : lv_has ls 2 [(0, .ref (ad 0)), (1, .int x1)] := hl
  have hinX1 : ∀ w ∈ wsX10, w ∈ wsX1_isWaiting := fun w h => List.mem_cons_of_mem _ (List.mem_append_right _ h)
  unfold dnX1_isWaiting at hd
  refine lv_aload_n hx hb dX1_isWaiting_0 rfl (lv_at hl 0 rfl) ?_
  refine g_ X hinX1 hW 0 rfl rfl 6 (by decide) 1 rfl rfl rfl dX1_isWaiting_1 ?_
  refine lv_iload_n hx hb dX1_isWaiting_4 rfl (lv_at hl 1 rfl) ?_
  obtain ⟨r2, h1, hd⟩ := bp_e hd
  refine cSNi_ (rest := []) X (kX4_isAmong l Dd Y G.2 x1 r2 h1) ⟨va_cnB 2 X.1.2.2.2.2 ggX1_isWaiting_X4_isAmong rfl rfl rfl X.2.2.2.1.1.2.1 (X.w (i := 3) rfl) (by decide +kernel) ⟨Nat.le_of_ble_eq_true rfl, Nat.le_of_ble_eq_true rfl⟩, X.w (i := 2) rfl, trivial⟩ hW rfl hl.1 rfl (Nat.le_of_ble_eq_true rfl) dX1_isWaiting_5 ⟨Nat.zero_le _, Nat.zero_le _⟩ (fun H locs hW => ?_)
  obtain ⟨hz3, hd⟩ := rz_e hd
  subst hd
  exact hQ _ _ _ _ (nz_b hz3) hW dX1_isWaiting_8
abbrev rmX1_cellsOnLevel : Room := { frames := 1, cells := 0, slots := 0, locals := 21 }
set_option maxRecDepth 100000 in
set_option maxHeartbeats 4000000 in
theorem kX1_cellsOnLevel (l : Launch) (Dd : va_G) (Y : yT) (ad : Nat → Nat) (G : gR) (x1 : Int32) (r : Int32) (hd : dnX1_cellsOnLevel G x1 = some r) : MG l yX1_cellsOnLevel wsX1_cellsOnLevel rmX1_cellsOnLevel Dd Y [.ref (ad 0), .int x1] (WR Y ad G) (WR Y ad G) (some (.int r)) := by
  refine MGi (cc := cX1_cellsOnLevel) (maxL := 2) (ty := .int) (by decide) rfl (Nat.le_of_ble_eq_true rfl) (fun {p e s m args below meth c A} ls Q X hW hl hQ => ?_)
  have hx := X.x
  have hb := X.b
  have hl : lv_has ls 2 [(0, .ref (ad 0)), (1, .int x1)] := hl
  have hinX1 : ∀ w ∈ wsX10, w ∈ wsX1_cellsOnLevel := fun w h => List.mem_cons_of_mem _ (List.mem_append_right _ h)
  unfold dnX1_cellsOnLevel at hd
  refine lv_iconst (v := 0) hx hb dX1_cellsOnLevel_0 (by decide) ?_
  refine lv_aload_n hx hb dX1_cellsOnLevel_1 rfl (lv_at hl 0 rfl) ?_
  refine g_ X hinX1 hW 0 rfl rfl 3 (by decide) 1 rfl rfl rfl dX1_cellsOnLevel_2 ?_
  refine lv_iconst (v := 1) hx hb dX1_cellsOnLevel_5 (by decide) ?_
  refine lv_iload_n hx hb dX1_cellsOnLevel_6 rfl (lv_at hl 1 rfl) ?_
  refine lv_ishl hx hb dX1_cellsOnLevel_7 ?_
  refine lv_isub hx hb dX1_cellsOnLevel_8 ?_
  refine lv_iconst (v := 1) hx hb dX1_cellsOnLevel_9 (by decide) ?_
  refine lv_iadd hx hb dX1_cellsOnLevel_10 ?_
  refine max_ X hl.1 2 3 4 5 rfl rfl rfl rfl ⟨Nat.le_of_ble_eq_true rfl, Nat.le_of_ble_eq_true rfl⟩ (Nat.le_of_ble_eq_true rfl) ⟨Nat.zero_le _, Nat.zero_le _⟩ dX1_cellsOnLevel_11 ?_
  have hd := Option.some.inj hd
  subst hd
  exact hQ _ _ _ _ rfl hW dX1_cellsOnLevel_14
abbrev rmX1_cellCount : Room := { frames := 2, cells := 0, slots := 0, locals := 42 }
set_option maxRecDepth 100000 in
set_option maxHeartbeats 4000000 in
theorem kX1_cellCount (l : Launch) (Dd : va_G) (Y : yT) (ad : Nat → Nat) (G : gR) (r : Int32) (hd : dnX1_cellCount G = some r) : MG l yX1_cellCount wsX1_cellCount rmX1_cellCount Dd Y [.ref (ad 0)] (WR Y ad G) (WR Y ad G) (some (.int r)) := by
  refine MGi (cc := cX1_cellCount) (maxL := 3) (ty := .int) (by decide) rfl (Nat.le_of_ble_eq_true rfl) (fun {p e s m args below meth c A} ls Q X hW hl hQ => ?_)
  have hx := X.x
  have hb := X.b
  have hl : lv_has ls 3 [(0, .ref (ad 0))] := hl
  unfold dnX1_cellCount at hd
  have K4 : ∀ (G : gR) (n : Nat) (x1 : Int32) (x2 : Int32) (z : Nat × Int32), lpX1_cellCount_4 G n x1 x2 = some z → ∀ (H : Heap) (locs : List Loc) (ls : Array Slot), Wd Dd A s.heap (WR Y ad G) H locs → lv_has ls 3 [(0, .ref (ad 0)), (1, .int x1), (2, .int x2)] → (∀ (H : Heap) (locs : List Loc) (ls : Array Slot), z.1 = 0 → Wd Dd A s.heap (WR Y ad G) H locs → lv_has ls 3 [(1, .int z.2)] → W p l e rmX1_cellCount s m args below meth c H locs 0 0 Q (F0 m 24 ls [])) → W p l e rmX1_cellCount s m args below meth c H locs 0 0 Q (F0 m 4 ls []) := by
    intro G n
    induction n with
    | zero => intro x1 x2 z hd; cases hd
    | succ n ih =>
      intro x1 x2 z hd H locs ls hW hl kx0
      unfold lpX1_cellCount_4 at hd
      refine lv_iload_n hx hb dX1_cellCount_4 rfl (lv_at hl 2 rfl) ?_
      refine lv_bipush (v := 6) hx hb dX1_cellCount_5 (by decide) ?_
      refine lv_icmp_ge (tgt := 24) hx hb dX1_cellCount_7 (by decide) (fun c1 => ?_) (fun c1 => ?_)
      · replace hd := if_t c1 hd
        cases hd
        exact kx0 _ _ _ rfl hW (lv_sub hl [1] rfl)
      · replace hd := if_f c1 hd
        refine lv_iload_n hx hb dX1_cellCount_10 rfl (lv_at hl 1 rfl) ?_
        refine lv_aload_n hx hb dX1_cellCount_11 rfl (lv_at hl 0 rfl) ?_
        refine lv_iload_n hx hb dX1_cellCount_12 rfl (lv_at hl 2 rfl) ?_
        obtain ⟨r3, h2, hd⟩ := bp_e hd
        refine cVi_ (rest := [.int x1]) X (kX1_cellsOnLevel l Dd Y ad G x2 r3 h2) (cwV 1 X.1.2.2.2.2 gX1_cellCount_X1_cellsOnLevel rfl rfl rfl (by decide +kernel) ⟨Nat.le_of_ble_eq_true rfl, Nat.le_of_ble_eq_true rfl⟩) hW 0 1 rfl rfl rfl rfl hl.1 rfl (Nat.le_of_ble_eq_true rfl) dX1_cellCount_13 ⟨Nat.zero_le _, Nat.zero_le _⟩ (fun H locs hW => ?_)
        refine lv_iadd hx hb dX1_cellCount_16 ?_
        refine lv_istore_n (lv' := [(1, .int (x1 + r3)), (0, .ref (ad 0)), (2, .int x2)]) hx hb dX1_cellCount_17 rfl hl (by decide) rfl (fun ls hl => ?_)
        refine lv_iinc (v := x2 + 1) (lv' := [(2, .int (x2 + 1)), (1, .int (x1 + r3)), (0, .ref (ad 0))]) hx hb dX1_cellCount_18 hl (k := 2) rfl rfl (by decide) rfl (fun ls hl => ?_)
        refine lv_goto (tgt := 4) hx hb dX1_cellCount_21 (by decide) ?_
        exact ih (x1 + r3) (x2 + 1) z hd _ _ _ hW (lv_sub hl [2, 1, 0] rfl) kx0
  refine lv_iconst (v := 0) hx hb dX1_cellCount_0 (by decide) ?_
  refine lv_istore_n (lv' := [(1, .int 0), (0, .ref (ad 0))]) hx hb dX1_cellCount_1 rfl hl (by decide) rfl (fun ls hl => ?_)
  refine lv_iconst (v := 1) hx hb dX1_cellCount_2 (by decide) ?_
  refine lv_istore_n (lv' := [(2, .int 1), (1, .int 0), (0, .ref (ad 0))]) hx hb dX1_cellCount_3 rfl hl (by decide) rfl (fun ls hl => ?_)
  obtain ⟨z4_3, hz4_3, hd⟩ := bp_e hd
  refine K4 G FU 0 1 z4_3 hz4_3 _ _ _ hW (lv_sub hl [2, 1, 0] rfl) (fun H locs ls e4 hW hl => ?_)
  refine lv_iload_n hx hb dX1_cellCount_24 rfl (lv_at hl 0 rfl) ?_
  have hd := Option.some.inj hd
  subst hd
  exact hQ _ _ _ _ rfl hW dX1_cellCount_25
abbrev rmX1_hasCell : Room := { frames := 2, cells := 0, slots := 0, locals := 42 }
set_option maxRecDepth 100000 in
set_option maxHeartbeats 4000000 in
theorem kX1_hasCell (l : Launch) (Dd : va_G) (Y : yT) (ad : Nat → Nat) (G : gR) (x1 : Int32) (x2 : Int32) (r : Int32) (hd : dnX1_hasCell G x1 x2 = some r) : MG l yX1_hasCell wsX1_hasCell rmX1_hasCell Dd Y [.ref (ad 0), .int x1, .int x2] (WR Y ad G) (WR Y ad G) (some (.int r)) := by
  refine MGi (cc := cX1_hasCell) (maxL := 3) (ty := .boolean) (by decide) rfl (Nat.le_of_ble_eq_true rfl) (fun {p e s m args below meth c A} ls Q X hW hl hQ => ?_)
  have hx := X.x
  have hb := X.b
  have hl : lv_has ls 3 [(0, .ref (ad 0)), (1, .int x1), (2, .int x2)] := hl
  unfold dnX1_hasCell at hd
  refine lv_iload_n hx hb dX1_hasCell_0 rfl (lv_at hl 1 rfl) ?_
  refine lv_if_lt (tgt := 27) hx hb dX1_hasCell_1 (by decide) (fun c1 => ?_) (fun c1 => ?_)
  · replace hd := if_t c1 hd
    refine lv_iconst (v := 0) hx hb dX1_hasCell_27 (by decide) ?_
    have hd := Option.some.inj hd
    subst hd
    exact hQ _ _ _ _ (nz_b (Or.inl rfl)) hW dX1_hasCell_28
  · replace hd := if_f c1 hd
    refine lv_iload_n hx hb dX1_hasCell_4 rfl (lv_at hl 1 rfl) ?_
    refine lv_bipush (v := 6) hx hb dX1_hasCell_5 (by decide) ?_
    refine lv_icmp_ge (tgt := 27) hx hb dX1_hasCell_7 (by decide) (fun c2 => ?_) (fun c2 => ?_)
    · replace hd := if_t c2 hd
      refine lv_iconst (v := 0) hx hb dX1_hasCell_27 (by decide) ?_
      have hd := Option.some.inj hd
      subst hd
      exact hQ _ _ _ _ (nz_b (Or.inl rfl)) hW dX1_hasCell_28
    · replace hd := if_f c2 hd
      refine lv_iload_n hx hb dX1_hasCell_10 rfl (lv_at hl 2 rfl) ?_
      refine lv_if_lt (tgt := 27) hx hb dX1_hasCell_11 (by decide) (fun c3 => ?_) (fun c3 => ?_)
      · replace hd := if_t c3 hd
        refine lv_iconst (v := 0) hx hb dX1_hasCell_27 (by decide) ?_
        have hd := Option.some.inj hd
        subst hd
        exact hQ _ _ _ _ (nz_b (Or.inl rfl)) hW dX1_hasCell_28
      · replace hd := if_f c3 hd
        refine lv_iload_n hx hb dX1_hasCell_14 rfl (lv_at hl 2 rfl) ?_
        refine lv_aload_n hx hb dX1_hasCell_15 rfl (lv_at hl 0 rfl) ?_
        refine lv_iload_n hx hb dX1_hasCell_16 rfl (lv_at hl 1 rfl) ?_
        obtain ⟨r5, h4, hd⟩ := bp_e hd
        refine cVi_ (rest := [.int x2]) X (kX1_cellsOnLevel l Dd Y ad G x1 r5 h4) (cwV 1 X.1.2.2.2.2 gX1_hasCell_X1_cellsOnLevel rfl rfl rfl (by decide +kernel) ⟨Nat.le_of_ble_eq_true rfl, Nat.le_of_ble_eq_true rfl⟩) hW 0 1 rfl rfl rfl rfl hl.1 rfl (Nat.le_of_ble_eq_true rfl) dX1_hasCell_17 ⟨Nat.zero_le _, Nat.zero_le _⟩ (fun H locs hW => ?_)
        refine lv_icmp_ge (tgt := 27) hx hb dX1_hasCell_20 (by decide) (fun c6 => ?_) (fun c6 => ?_)
        · replace hd := if_t c6 hd
          refine lv_iconst (v := 0) hx hb dX1_hasCell_27 (by decide) ?_
          have hd := Option.some.inj hd
          subst hd
          exact hQ _ _ _ _ (nz_b (Or.inl rfl)) hW dX1_hasCell_28
        · replace hd := if_f c6 hd
          refine lv_iconst (v := 1) hx hb dX1_hasCell_23 (by decide) ?_
          refine lv_goto (tgt := 28) hx hb dX1_hasCell_24 (by decide) ?_
          have hd := Option.some.inj hd
          subst hd
          exact hQ _ _ _ _ (nz_b (Or.inr rfl)) hW dX1_hasCell_28
abbrev rmX1_cellAt : Room := { frames := 0, cells := 0, slots := 0, locals := 0 }
set_option maxRecDepth 100000 in
set_option maxHeartbeats 4000000 in
theorem kX1_cellAt (l : Launch) (Dd : va_G) (Y : yT) (ad : Nat → Nat) (G : gR) (x1 : Int32) (x2 : Int32) (r : Int32) (hd : dnX1_cellAt G x1 x2 = some r) : MG l yX1_cellAt wsX1_cellAt rmX1_cellAt Dd Y [.ref (ad 0), .int x1, .int x2] (WR Y ad G) (WR Y ad G) (some (.int r)) := by
  refine MGi (cc := cX1_cellAt) (maxL := 4) (ty := .int) (by decide) rfl (Nat.le_of_ble_eq_true rfl) (fun {p e s m args below meth c A} ls Q X hW hl hQ => ?_)
  have hx := X.x
  have hb := X.b
  have hl : lv_has ls 4 [(0, .ref (ad 0)), (1, .int x1), (2, .int x2)] := hl
  have hinX1 : ∀ w ∈ wsX10, w ∈ wsX1_cellAt := fun w h => List.mem_cons_of_mem _ (List.mem_append_right _ h)
  unfold dnX1_cellAt at hd
  refine lv_iload_n hx hb dX1_cellAt_0 rfl (lv_at hl 1 rfl) ?_
  refine lv_bipush (v := 40) hx hb dX1_cellAt_1 (by decide) ?_
  refine lv_imul hx hb dX1_cellAt_3 ?_
  refine lv_iload_n hx hb dX1_cellAt_4 rfl (lv_at hl 2 rfl) ?_
  refine lv_iadd hx hb dX1_cellAt_5 ?_
  refine lv_istore_n (lv' := [(3, .int ((x1 * 40) + x2)), (0, .ref (ad 0)), (1, .int x1), (2, .int x2)]) hx hb dX1_cellAt_6 rfl hl (by decide) rfl (fun ls hl => ?_)
  refine lv_iload_n hx hb dX1_cellAt_7 rfl (lv_at hl 2 rfl) ?_
  refine lv_if_eq (tgt := 24) hx hb dX1_cellAt_8 (by decide) (fun c1 => ?_) (fun c1 => ?_)
  · replace hd := if_t c1 hd
    refine lv_iload_n hx hb dX1_cellAt_24 rfl (lv_at hl 3 rfl) ?_
    have hd := Option.some.inj hd
    subst hd
    exact hQ _ _ _ _ rfl hW dX1_cellAt_25
  · replace hd := if_f c1 hd
    refine lv_iload_n hx hb dX1_cellAt_11 rfl (lv_at hl 0 rfl) ?_
    refine lv_if_lt (tgt := 24) hx hb dX1_cellAt_12 (by decide) (fun c2 => ?_) (fun c2 => ?_)
    · replace hd := if_t c2 hd
      refine lv_iload_n hx hb dX1_cellAt_24 rfl (lv_at hl 3 rfl) ?_
      have hd := Option.some.inj hd
      subst hd
      exact hQ _ _ _ _ rfl hW dX1_cellAt_25
    · replace hd := if_f c2 hd
      refine lv_iload_n hx hb dX1_cellAt_15 rfl (lv_at hl 0 rfl) ?_
      refine lv_aload_n hx hb dX1_cellAt_16 rfl (lv_at hl 1 rfl) ?_
      refine g_ X hinX1 hW 0 rfl rfl 1 (by decide) 1 rfl rfl rfl dX1_cellAt_17 ?_
      refine len_ (v := 240) X hW 2 0 rfl rfl rfl dX1_cellAt_20 ?_
      refine lv_icmp_lt (tgt := 26) hx hb dX1_cellAt_21 (by decide) (fun c3 => ?_) (fun c3 => ?_)
      · replace hd := if_t c3 hd
        refine lv_aload_n hx hb dX1_cellAt_26 rfl (lv_at hl 1 rfl) ?_
        refine g_ X hinX1 hW 0 rfl rfl 1 (by decide) 1 rfl rfl rfl dX1_cellAt_27 ?_
        refine lv_iload_n hx hb dX1_cellAt_30 rfl (lv_at hl 0 rfl) ?_
        obtain ⟨hi4, hd⟩ := ra_e hd
        refine a_ X hW 2 rfl rfl hi4 dX1_cellAt_31 ?_
        generalize (G.1 2) ((x1 * 40) + x2).toNatClampNeg = v5 at hd ⊢
        have hd := Option.some.inj hd
        subst hd
        exact hQ _ _ _ _ rfl hW dX1_cellAt_32
      · replace hd := if_f c3 hd
        refine lv_iload_n hx hb dX1_cellAt_24 rfl (lv_at hl 3 rfl) ?_
        have hd := Option.some.inj hd
        subst hd
        exact hQ _ _ _ _ rfl hW dX1_cellAt_25
abbrev rmX1_lastCellOver : Room := { frames := 1, cells := 0, slots := 0, locals := 21 }
set_option maxRecDepth 100000 in
set_option maxHeartbeats 4000000 in
theorem kX1_lastCellOver (l : Launch) (Dd : va_G) (Y : yT) (ad : Nat → Nat) (G : gR) (x1 : Int32) (x2 : Int32) (r : Int32) (hd : dnX1_lastCellOver G x1 x2 = some r) : MG l yX1_lastCellOver wsX1_lastCellOver rmX1_lastCellOver Dd Y [.ref (ad 0), .int x1, .int x2] (WR Y ad G) (WR Y ad G) (some (.int r)) := by
  refine MGi (cc := cX1_lastCellOver) (maxL := 3) (ty := .int) (by decide) rfl (Nat.le_of_ble_eq_true rfl) (fun {p e s m args below meth c A} ls Q X hW hl hQ => ?_)
  have hx := X.x
  have hb := X.b
  have hl : lv_has ls 3 [(0, .ref (ad 0)), (1, .int x1), (2, .int x2)] := hl
  have hinX1 : ∀ w ∈ wsX10, w ∈ wsX1_lastCellOver := fun w h => List.mem_cons_of_mem _ (List.mem_append_right _ h)
  unfold dnX1_lastCellOver at hd
  refine lv_iload_n hx hb dX1_lastCellOver_0 rfl (lv_at hl 2 rfl) ?_
  refine lv_aload_n hx hb dX1_lastCellOver_1 rfl (lv_at hl 0 rfl) ?_
  refine g_ X hinX1 hW 0 rfl rfl 3 (by decide) 1 rfl rfl rfl dX1_lastCellOver_2 ?_
  refine lv_iconst (v := 1) hx hb dX1_lastCellOver_5 (by decide) ?_
  refine lv_iload_n hx hb dX1_lastCellOver_6 rfl (lv_at hl 1 rfl) ?_
  refine lv_ishl hx hb dX1_lastCellOver_7 ?_
  refine lv_isub hx hb dX1_lastCellOver_8 ?_
  refine min_ X hl.1 2 3 4 5 rfl rfl rfl rfl ⟨Nat.le_of_ble_eq_true rfl, Nat.le_of_ble_eq_true rfl⟩ (Nat.le_of_ble_eq_true rfl) ⟨Nat.zero_le _, Nat.zero_le _⟩ dX1_lastCellOver_9 ?_
  have hd := Option.some.inj hd
  subst hd
  exact hQ _ _ _ _ rfl hW dX1_lastCellOver_12
abbrev rmX1_lesser : Room := { frames := 1, cells := 0, slots := 0, locals := 21 }
set_option maxRecDepth 100000 in
set_option maxHeartbeats 4000000 in
theorem kX1_lesser (l : Launch) (Dd : va_G) (Y : yT) (ad : Nat → Nat) (G : gR) (x1 : Int32) (x2 : Int32) (r : Int32) (hd : dnX1_lesser G x1 x2 = some r) : MG l yX1_lesser wsX1_lesser rmX1_lesser Dd Y [.ref (ad 0), .int x1, .int x2] (WR Y ad G) (WR Y ad G) (some (.int r)) := by
  refine MGi (cc := cX1_lesser) (maxL := 3) (ty := .int) (by decide) rfl (Nat.le_of_ble_eq_true rfl) (fun {p e s m args below meth c A} ls Q X hW hl hQ => ?_)
  have hx := X.x
  have hb := X.b
  have hl : lv_has ls 3 [(0, .ref (ad 0)), (1, .int x1), (2, .int x2)] := hl
  have hinX1 : ∀ w ∈ wsX10, w ∈ wsX1_lesser := fun w h => List.mem_cons_of_mem _ (List.mem_append_right _ h)
  unfold dnX1_lesser at hd
  refine lv_iload_n hx hb dX1_lesser_0 rfl (lv_at hl 1 rfl) ?_
  refine lv_if_lt (tgt := 13) hx hb dX1_lesser_1 (by decide) (fun c1 => ?_) (fun c1 => ?_)
  · replace hd := if_t c1 hd
    refine lv_iload_n hx hb dX1_lesser_13 rfl (lv_at hl 2 rfl) ?_
    have hd := Option.some.inj hd
    subst hd
    exact hQ _ _ _ _ rfl hW dX1_lesser_14
  · replace hd := if_f c1 hd
    refine lv_iload_n hx hb dX1_lesser_4 rfl (lv_at hl 1 rfl) ?_
    refine lv_aload_n hx hb dX1_lesser_5 rfl (lv_at hl 0 rfl) ?_
    refine g_ X hinX1 hW 0 rfl rfl 0 (by decide) 1 rfl rfl rfl dX1_lesser_6 ?_
    refine len_ (v := 40) X hW 1 0 rfl rfl rfl dX1_lesser_9 ?_
    refine lv_icmp_lt (tgt := 15) hx hb dX1_lesser_10 (by decide) (fun c2 => ?_) (fun c2 => ?_)
    · replace hd := if_t c2 hd
      refine lv_iload_n hx hb dX1_lesser_15 rfl (lv_at hl 2 rfl) ?_
      refine lv_if_lt (tgt := 28) hx hb dX1_lesser_16 (by decide) (fun c3 => ?_) (fun c3 => ?_)
      · replace hd := if_t c3 hd
        refine lv_iload_n hx hb dX1_lesser_28 rfl (lv_at hl 1 rfl) ?_
        have hd := Option.some.inj hd
        subst hd
        exact hQ _ _ _ _ rfl hW dX1_lesser_29
      · replace hd := if_f c3 hd
        refine lv_iload_n hx hb dX1_lesser_19 rfl (lv_at hl 2 rfl) ?_
        refine lv_aload_n hx hb dX1_lesser_20 rfl (lv_at hl 0 rfl) ?_
        refine g_ X hinX1 hW 0 rfl rfl 0 (by decide) 1 rfl rfl rfl dX1_lesser_21 ?_
        refine len_ (v := 40) X hW 1 0 rfl rfl rfl dX1_lesser_24 ?_
        refine lv_icmp_lt (tgt := 30) hx hb dX1_lesser_25 (by decide) (fun c4 => ?_) (fun c4 => ?_)
        · replace hd := if_t c4 hd
          refine lv_aload_n hx hb dX1_lesser_30 rfl (lv_at hl 0 rfl) ?_
          refine g_ X hinX1 hW 0 rfl rfl 0 (by decide) 1 rfl rfl rfl dX1_lesser_31 ?_
          refine lv_iload_n hx hb dX1_lesser_34 rfl (lv_at hl 1 rfl) ?_
          obtain ⟨hi5, hd⟩ := ra_e hd
          refine a_ X hW 1 rfl rfl hi5 dX1_lesser_35 ?_
          generalize (G.1 1) x1.toNatClampNeg = v6 at hd ⊢
          refine lv_aload_n hx hb dX1_lesser_36 rfl (lv_at hl 0 rfl) ?_
          refine g_ X hinX1 hW 0 rfl rfl 0 (by decide) 1 rfl rfl rfl dX1_lesser_37 ?_
          refine lv_iload_n hx hb dX1_lesser_40 rfl (lv_at hl 2 rfl) ?_
          obtain ⟨hi7, hd⟩ := ra_e hd
          refine a_ X hW 1 rfl rfl hi7 dX1_lesser_41 ?_
          generalize (G.1 1) x2.toNatClampNeg = v8 at hd ⊢
          refine lv_icmp_ne (tgt := 51) hx hb dX1_lesser_42 (by decide) (fun c9 => ?_) (fun c9 => ?_)
          · replace hd := if_f c9 hd
            refine lv_aload_n hx hb dX1_lesser_51 rfl (lv_at hl 0 rfl) ?_
            refine g_ X hinX1 hW 0 rfl rfl 0 (by decide) 1 rfl rfl rfl dX1_lesser_52 ?_
            refine lv_iload_n hx hb dX1_lesser_55 rfl (lv_at hl 1 rfl) ?_
            obtain ⟨hi10, hd⟩ := ra_e hd
            refine a_ X hW 1 rfl rfl hi10 dX1_lesser_56 ?_
            generalize (G.1 1) x1.toNatClampNeg = v11 at hd ⊢
            refine lv_aload_n hx hb dX1_lesser_57 rfl (lv_at hl 0 rfl) ?_
            refine g_ X hinX1 hW 0 rfl rfl 0 (by decide) 1 rfl rfl rfl dX1_lesser_58 ?_
            refine lv_iload_n hx hb dX1_lesser_61 rfl (lv_at hl 2 rfl) ?_
            obtain ⟨hi12, hd⟩ := ra_e hd
            refine a_ X hW 1 rfl rfl hi12 dX1_lesser_62 ?_
            generalize (G.1 1) x2.toNatClampNeg = v13 at hd ⊢
            refine lv_icmp_ge (tgt := 70) hx hb dX1_lesser_63 (by decide) (fun c14 => ?_) (fun c14 => ?_)
            · replace hd := if_t c14 hd
              refine lv_iload_n hx hb dX1_lesser_70 rfl (lv_at hl 2 rfl) ?_
              have hd := Option.some.inj hd
              subst hd
              exact hQ _ _ _ _ rfl hW dX1_lesser_71
            · replace hd := if_f c14 hd
              refine lv_iload_n hx hb dX1_lesser_66 rfl (lv_at hl 1 rfl) ?_
              refine lv_goto (tgt := 71) hx hb dX1_lesser_67 (by decide) ?_
              have hd := Option.some.inj hd
              subst hd
              exact hQ _ _ _ _ rfl hW dX1_lesser_71
          · replace hd := if_t c9 hd
            refine lv_iload_n hx hb dX1_lesser_45 rfl (lv_at hl 1 rfl) ?_
            refine lv_iload_n hx hb dX1_lesser_46 rfl (lv_at hl 2 rfl) ?_
            refine min_ X hl.1 2 3 4 5 rfl rfl rfl rfl ⟨Nat.le_of_ble_eq_true rfl, Nat.le_of_ble_eq_true rfl⟩ (Nat.le_of_ble_eq_true rfl) ⟨Nat.zero_le _, Nat.zero_le _⟩ dX1_lesser_47 ?_
            have hd := Option.some.inj hd
            subst hd
            exact hQ _ _ _ _ rfl hW dX1_lesser_50
        · replace hd := if_f c4 hd
          refine lv_iload_n hx hb dX1_lesser_28 rfl (lv_at hl 1 rfl) ?_
          have hd := Option.some.inj hd
          subst hd
          exact hQ _ _ _ _ rfl hW dX1_lesser_29
    · replace hd := if_f c2 hd
      refine lv_iload_n hx hb dX1_lesser_13 rfl (lv_at hl 2 rfl) ?_
      have hd := Option.some.inj hd
      subst hd
      exact hQ _ _ _ _ rfl hW dX1_lesser_14
abbrev rmX1_leastByValues : Room := { frames := 2, cells := 0, slots := 0, locals := 43 }
set_option maxRecDepth 100000 in
set_option maxHeartbeats 4000000 in
theorem kX1_leastByValues (l : Launch) (Dd : va_G) (Y : yT) (ad : Nat → Nat) (G : gR) (x1 : Int32) (x2 : Int32) (r : Int32) (hd : dnX1_leastByValues G x1 x2 = some r) : MG l yX1_leastByValues wsX1_leastByValues rmX1_leastByValues Dd Y [.ref (ad 0), .int x1, .int x2] (WR Y ad G) (WR Y ad G) (some (.int r)) := by
  refine MGi (cc := cX1_leastByValues) (maxL := 5) (ty := .int) (by decide) rfl (Nat.le_of_ble_eq_true rfl) (fun {p e s m args below meth c A} ls Q X hW hl hQ => ?_)
  have hx := X.x
  have hb := X.b
  have hl : lv_has ls 5 [(0, .ref (ad 0)), (1, .int x1), (2, .int x2)] := hl
  unfold dnX1_leastByValues at hd
  have K5 : ∀ (G : gR) (x2 : Int32) (n : Nat) (x3 : Int32) (x4 : Int32) (z : Nat × Int32), lpX1_leastByValues_5 G x2 n x3 x4 = some z → ∀ (H : Heap) (locs : List Loc) (ls : Array Slot), Wd Dd A s.heap (WR Y ad G) H locs → lv_has ls 5 [(0, .ref (ad 0)), (2, .int x2), (3, .int x3), (4, .int x4)] → (∀ (H : Heap) (locs : List Loc) (ls : Array Slot), z.1 = 0 → Wd Dd A s.heap (WR Y ad G) H locs → lv_has ls 5 [(3, .int z.2)] → W p l e rmX1_leastByValues s m args below meth c H locs 0 0 Q (F0 m 25 ls [])) → W p l e rmX1_leastByValues s m args below meth c H locs 0 0 Q (F0 m 5 ls []) := by
    intro G x2 n
    induction n with
    | zero => intro x3 x4 z hd; cases hd
    | succ n ih =>
      intro x3 x4 z hd H locs ls hW hl kx0
      unfold lpX1_leastByValues_5 at hd
      refine lv_iload hx hb dX1_leastByValues_5 (lv_at hl 3 rfl) ?_
      refine lv_iload_n hx hb dX1_leastByValues_7 rfl (lv_at hl 1 rfl) ?_
      refine lv_icmp_gt (tgt := 25) hx hb dX1_leastByValues_8 (by decide) (fun c1 => ?_) (fun c1 => ?_)
      · replace hd := if_t c1 hd
        cases hd
        exact kx0 _ _ _ rfl hW (lv_sub hl [2] rfl)
      · replace hd := if_f c1 hd
        refine lv_aload_n hx hb dX1_leastByValues_11 rfl (lv_at hl 0 rfl) ?_
        refine lv_iload_n hx hb dX1_leastByValues_12 rfl (lv_at hl 2 rfl) ?_
        refine lv_iload hx hb dX1_leastByValues_13 (lv_at hl 3 rfl) ?_
        obtain ⟨r3, h2, hd⟩ := bp_e hd
        refine cVi_ (rest := []) X (kX1_lesser l Dd Y ad G x3 x4 r3 h2) (cwV 2 X.1.2.2.2.2 gX1_leastByValues_X1_lesser rfl rfl rfl (by decide +kernel) ⟨Nat.le_of_ble_eq_true rfl, Nat.le_of_ble_eq_true rfl⟩) hW 0 1 rfl rfl rfl rfl hl.1 rfl (Nat.le_of_ble_eq_true rfl) dX1_leastByValues_15 ⟨Nat.zero_le _, Nat.zero_le _⟩ (fun H locs hW => ?_)
        refine lv_istore_n (lv' := [(3, .int r3), (0, .ref (ad 0)), (2, .int x2), (4, .int x4)]) hx hb dX1_leastByValues_18 rfl hl (by decide) rfl (fun ls hl => ?_)
        refine lv_iinc (v := x4 + 1) (lv' := [(4, .int (x4 + 1)), (3, .int r3), (0, .ref (ad 0)), (2, .int x2)]) hx hb dX1_leastByValues_19 hl (k := 3) rfl rfl (by decide) rfl (fun ls hl => ?_)
        refine lv_goto (tgt := 5) hx hb dX1_leastByValues_22 (by decide) ?_
        exact ih r3 (x4 + 1) z hd _ _ _ hW (lv_sub hl [2, 3, 1, 0] rfl) kx0
  refine lv_iconst (v := (-1)) hx hb dX1_leastByValues_0 (by decide) ?_
  refine lv_istore_n (lv' := [(3, .int (-1)), (0, .ref (ad 0)), (1, .int x1), (2, .int x2)]) hx hb dX1_leastByValues_1 rfl hl (by decide) rfl (fun ls hl => ?_)
  refine lv_iload_n hx hb dX1_leastByValues_2 rfl (lv_at hl 2 rfl) ?_
  refine lv_istore (lv' := [(4, .int x1), (3, .int (-1)), (0, .ref (ad 0)), (1, .int x1), (2, .int x2)]) hx hb dX1_leastByValues_3 hl (by decide) rfl (fun ls hl => ?_)
  obtain ⟨z5_3, hz5_3, hd⟩ := bp_e hd
  refine K5 G x2 FU (-1) x1 z5_3 hz5_3 _ _ _ hW (lv_sub hl [2, 4, 1, 0] rfl) (fun H locs ls e5 hW hl => ?_)
  refine lv_iload_n hx hb dX1_leastByValues_25 rfl (lv_at hl 0 rfl) ?_
  have hd := Option.some.inj hd
  subst hd
  exact hQ _ _ _ _ rfl hW dX1_leastByValues_26
abbrev rmX1_isCellWrong : Room := { frames := 3, cells := 0, slots := 0, locals := 67 }
set_option maxRecDepth 100000 in
set_option maxHeartbeats 4000000 in
theorem kX1_isCellWrong (l : Launch) (Dd : va_G) (Y : yT) (ad : Nat → Nat) (G : gR) (x1 : Int32) (x2 : Int32) (r : Int32) (hd : dnX1_isCellWrong G x1 x2 = some r) : MG l yX1_isCellWrong wsX1_isCellWrong rmX1_isCellWrong Dd Y [.ref (ad 0), .int x1, .int x2] (WR Y ad G) (WR Y ad G) (some (.int r)) := by
  refine MGi (cc := cX1_isCellWrong) (maxL := 5) (ty := .boolean) (by decide) rfl (Nat.le_of_ble_eq_true rfl) (fun {p e s m args below meth c A} ls Q X hW hl hQ => ?_)
  have hx := X.x
  have hb := X.b
  have hl : lv_has ls 5 [(0, .ref (ad 0)), (1, .int x1), (2, .int x2)] := hl
  have hinX1 : ∀ w ∈ wsX10, w ∈ wsX1_isCellWrong := fun w h => List.mem_cons_of_mem _ (List.mem_append_right _ h)
  unfold dnX1_isCellWrong at hd
  refine lv_lconst (v := 1) hx hb dX1_isCellWrong_0 (by decide) ?_
  refine lv_iconst (v := 1) hx hb dX1_isCellWrong_1 (by decide) ?_
  refine lv_iload_n hx hb dX1_isCellWrong_2 rfl (lv_at hl 1 rfl) ?_
  refine lv_ishl hx hb dX1_isCellWrong_3 ?_
  refine lv_lshl (v := (1 : Int64) <<< (((1 : Int32) <<< (x1 &&& 31)).toInt64 &&& 63)) hx hb dX1_isCellWrong_4 rfl ?_
  refine lv_lconst (v := 1) hx hb dX1_isCellWrong_5 (by decide) ?_
  refine lv_lsub hx hb dX1_isCellWrong_6 ?_
  refine lv_iload_n hx hb dX1_isCellWrong_7 rfl (lv_at hl 2 rfl) ?_
  refine lv_lshl (v := (((1 : Int64) <<< (((1 : Int32) <<< (x1 &&& 31)).toInt64 &&& 63)) - 1) <<< (x2.toInt64 &&& 63)) hx hb dX1_isCellWrong_8 rfl ?_
  refine lv_lstore_n (lv' := [(3, .long ((((1 : Int64) <<< (((1 : Int32) <<< (x1 &&& 31)).toInt64 &&& 63)) - 1) <<< (x2.toInt64 &&& 63))), (0, .ref (ad 0)), (1, .int x1), (2, .int x2)]) hx hb dX1_isCellWrong_9 rfl hl (by decide) rfl (fun ls hl => ?_)
  refine lv_aload_n hx hb dX1_isCellWrong_10 rfl (lv_at hl 1 rfl) ?_
  refine g_ X hinX1 hW 0 rfl rfl 6 (by decide) 1 rfl rfl rfl dX1_isCellWrong_11 ?_
  refine lv_lload_n hx hb dX1_isCellWrong_14 rfl (lv_at hl 0 rfl) ?_
  refine lv_land hx hb dX1_isCellWrong_15 ?_
  refine lv_lconst (v := 0) hx hb dX1_isCellWrong_16 (by decide) ?_
  refine W.lcmp hx hb dX1_isCellWrong_17 ?_
  refine lv_if_ne (tgt := 46) hx hb dX1_isCellWrong_18 (by decide) (fun c1 => ?_) (fun c1 => ?_)
  · replace hd := if_f c1 hd
    refine lv_iconst (v := 0) hx hb dX1_isCellWrong_46 (by decide) ?_
    have hd := Option.some.inj hd
    subst hd
    exact hQ _ _ _ _ (nz_b (Or.inl rfl)) hW dX1_isCellWrong_47
  · replace hd := if_t c1 hd
    refine lv_aload_n hx hb dX1_isCellWrong_21 rfl (lv_at hl 1 rfl) ?_
    refine lv_iload_n hx hb dX1_isCellWrong_22 rfl (lv_at hl 2 rfl) ?_
    refine lv_iload_n hx hb dX1_isCellWrong_23 rfl (lv_at hl 3 rfl) ?_
    obtain ⟨r3, h2, hd⟩ := bp_e hd
    refine cVi_ (rest := []) X (kX1_cellAt l Dd Y ad G x1 x2 r3 h2) (cwV 2 X.1.2.2.2.2 gX1_isCellWrong_X1_cellAt rfl rfl rfl (by decide +kernel) ⟨Nat.le_of_ble_eq_true rfl, Nat.le_of_ble_eq_true rfl⟩) hW 0 1 rfl rfl rfl rfl hl.1 rfl (Nat.le_of_ble_eq_true rfl) dX1_isCellWrong_24 ⟨Nat.zero_le _, Nat.zero_le _⟩ (fun H locs hW => ?_)
    refine lv_aload_n hx hb dX1_isCellWrong_27 rfl (lv_at hl 1 rfl) ?_
    refine lv_iload_n hx hb dX1_isCellWrong_28 rfl (lv_at hl 3 rfl) ?_
    refine lv_iload_n hx hb dX1_isCellWrong_29 rfl (lv_at hl 3 rfl) ?_
    refine lv_iconst (v := 1) hx hb dX1_isCellWrong_30 (by decide) ?_
    refine lv_iload_n hx hb dX1_isCellWrong_31 rfl (lv_at hl 2 rfl) ?_
    refine lv_ishl hx hb dX1_isCellWrong_32 ?_
    refine lv_iadd hx hb dX1_isCellWrong_33 ?_
    refine lv_iconst (v := 1) hx hb dX1_isCellWrong_34 (by decide) ?_
    refine lv_isub hx hb dX1_isCellWrong_35 ?_
    obtain ⟨r5, h4, hd⟩ := bp_e hd
    refine cVi_ (rest := [.int r3]) X (kX1_leastByValues l Dd Y ad G x2 ((x2 + ((1 : Int32) <<< (x1 &&& 31))) - 1) r5 h4) (cwV 2 X.1.2.2.2.2 gX1_isCellWrong_X1_leastByValues rfl rfl rfl (by decide +kernel) ⟨Nat.le_of_ble_eq_true rfl, Nat.le_of_ble_eq_true rfl⟩) hW 0 1 rfl rfl rfl rfl hl.1 rfl (Nat.le_of_ble_eq_true rfl) dX1_isCellWrong_36 ⟨Nat.zero_le _, Nat.zero_le _⟩ (fun H locs hW => ?_)
    refine lv_icmp_eq (tgt := 46) hx hb dX1_isCellWrong_39 (by decide) (fun c6 => ?_) (fun c6 => ?_)
    · replace hd := if_t c6 hd
      refine lv_iconst (v := 0) hx hb dX1_isCellWrong_46 (by decide) ?_
      have hd := Option.some.inj hd
      subst hd
      exact hQ _ _ _ _ (nz_b (Or.inl rfl)) hW dX1_isCellWrong_47
    · replace hd := if_f c6 hd
      refine lv_iconst (v := 1) hx hb dX1_isCellWrong_42 (by decide) ?_
      refine lv_goto (tgt := 47) hx hb dX1_isCellWrong_43 (by decide) ?_
      have hd := Option.some.inj hd
      subst hd
      exact hQ _ _ _ _ (nz_b (Or.inr rfl)) hW dX1_isCellWrong_47
abbrev rmX4_firstCellOver : Room := { frames := 1, cells := 0, slots := 0, locals := 21 }
set_option maxRecDepth 100000 in
set_option maxHeartbeats 4000000 in
theorem kX4_firstCellOver (l : Launch) (Dd : va_G) (Y : yT) (x0 : Int32) (x1 : Int32) (r : Int32) (hd : dnX4_firstCellOver x0 x1 = some r) : MG l yX4_firstCellOver wsX4_firstCellOver rmX4_firstCellOver Dd Y [.int x0, .int x1] [] [] (some (.int r)) := by
  refine MGi (cc := cX4_firstCellOver) (maxL := 2) (ty := .int) (by decide) rfl (Nat.le_of_ble_eq_true rfl) (fun {p e s m args below meth c A} ls Q X hW hl hQ => ?_)
  have hx := X.x
  have hb := X.b
  have hl : lv_has ls 2 [(0, .int x0), (1, .int x1)] := hl
  unfold dnX4_firstCellOver at hd
  refine lv_iconst (v := 0) hx hb dX4_firstCellOver_0 (by decide) ?_
  refine lv_iload_n hx hb dX4_firstCellOver_1 rfl (lv_at hl 1 rfl) ?_
  refine lv_iconst (v := 1) hx hb dX4_firstCellOver_2 (by decide) ?_
  refine lv_iload_n hx hb dX4_firstCellOver_3 rfl (lv_at hl 0 rfl) ?_
  refine lv_ishl hx hb dX4_firstCellOver_4 ?_
  refine lv_isub hx hb dX4_firstCellOver_5 ?_
  refine lv_iconst (v := 1) hx hb dX4_firstCellOver_6 (by decide) ?_
  refine lv_iadd hx hb dX4_firstCellOver_7 ?_
  refine max_ X hl.1 1 2 3 4 rfl rfl rfl rfl ⟨Nat.le_of_ble_eq_true rfl, Nat.le_of_ble_eq_true rfl⟩ (Nat.le_of_ble_eq_true rfl) ⟨Nat.zero_le _, Nat.zero_le _⟩ dX4_firstCellOver_8 ?_
  have hd := Option.some.inj hd
  subst hd
  exact hQ _ _ _ _ rfl hW dX4_firstCellOver_11
abbrev rmX1_writeCellsOver : Room := { frames := 2, cells := 0, slots := 0, locals := 43 }
set_option maxRecDepth 100000 in
set_option maxHeartbeats 4000000 in
theorem kX1_writeCellsOver (l : Launch) (Dd : va_G) (Y : yT) (ad : Nat → Nat) (G : gR) (x1 : Int32) (x2 : Int32) (G' : gR) (hd : dnX1_writeCellsOver G x1 x2 = some G') : MG l yX1_writeCellsOver wsX1_writeCellsOver rmX1_writeCellsOver Dd Y [.ref (ad 0), .int x1, .int x2] (WR Y ad G) (WR Y ad G') none := by
  refine MGv (cc := cX1_writeCellsOver) (maxL := 8) (by decide) rfl (Nat.le_of_ble_eq_true rfl) (fun {p e s m args below meth c A} ls Q X hW hl hQ => ?_)
  have hx := X.x
  have hb := X.b
  have hl : lv_has ls 8 [(0, .ref (ad 0)), (1, .int x1), (2, .int x2)] := hl
  have hinX1 : ∀ w ∈ wsX10, w ∈ wsX1_writeCellsOver := fun w h => List.mem_cons_of_mem _ (List.mem_append_right _ h)
  unfold dnX1_writeCellsOver at hd
  have K30 : ∀ (x1 : Int32) (x2 : Int32) (x3 : Int32) (x4 : Int32) (x5 : Int32) (n : Nat) (x6 : Int32) (G : gR) (z : Nat × gR), lpX1_writeCellsOver_30 x1 x2 x3 x4 x5 n x6 G = some z → ∀ (H : Heap) (locs : List Loc) (ls : Array Slot), Wd Dd A s.heap (WR Y ad G) H locs → lv_has ls 8 [(0, .ref (ad 0)), (1, .int x1), (2, .int x2), (3, .int x3), (4, .int x4), (5, .int x5), (6, .int x6)] → (∀ (H : Heap) (locs : List Loc) (ls : Array Slot), z.1 = 0 → Wd Dd A s.heap (WR Y ad z.2) H locs → lv_has ls 8 [(0, .ref (ad 0)), (1, .int x1), (2, .int x2), (3, .int x3)] → W p l e rmX1_writeCellsOver s m args below meth c H locs 0 0 Q (F0 m 109 ls [])) → W p l e rmX1_writeCellsOver s m args below meth c H locs 0 0 Q (F0 m 30 ls []) := by
    intro x1 x2 x3 x4 x5 n
    induction n with
    | zero => intro x6 G z hd; cases hd
    | succ n ih =>
      intro x6 G z hd H locs ls hW hl kx0
      unfold lpX1_writeCellsOver_30 at hd
      refine lv_iload hx hb dX1_writeCellsOver_30 (lv_at hl 6 rfl) ?_
      refine lv_iload hx hb dX1_writeCellsOver_32 (lv_at hl 5 rfl) ?_
      refine lv_icmp_gt (tgt := 109) hx hb dX1_writeCellsOver_34 (by decide) (fun c1 => ?_) (fun c1 => ?_)
      · replace hd := if_t c1 hd
        cases hd
        exact kx0 _ _ _ rfl hW (lv_sub hl [0, 1, 2, 3] rfl)
      · replace hd := if_f c1 hd
        refine lv_iload_n hx hb dX1_writeCellsOver_37 rfl (lv_at hl 3 rfl) ?_
        refine lv_bipush (v := 40) hx hb dX1_writeCellsOver_38 (by decide) ?_
        refine lv_imul hx hb dX1_writeCellsOver_40 ?_
        refine lv_iload hx hb dX1_writeCellsOver_41 (lv_at hl 6 rfl) ?_
        refine lv_iadd hx hb dX1_writeCellsOver_43 ?_
        refine lv_istore (lv' := [(7, .int ((x3 * 40) + x6)), (0, .ref (ad 0)), (1, .int x1), (2, .int x2), (3, .int x3), (4, .int x4), (5, .int x5), (6, .int x6)]) hx hb dX1_writeCellsOver_44 hl (by decide) rfl (fun ls hl => ?_)
        refine lv_iload hx hb dX1_writeCellsOver_46 (lv_at hl 0 rfl) ?_
        refine lv_if_lt (tgt := 103) hx hb dX1_writeCellsOver_48 (by decide) (fun c2 => ?_) (fun c2 => ?_)
        · replace hd := if_t c2 hd
          refine lv_iinc (v := x6 + 1) (lv' := [(6, .int (x6 + 1)), (7, .int ((x3 * 40) + x6)), (0, .ref (ad 0)), (1, .int x1), (2, .int x2), (3, .int x3), (4, .int x4), (5, .int x5)]) hx hb dX1_writeCellsOver_103 hl (k := 7) rfl rfl (by decide) rfl (fun ls hl => ?_)
          refine lv_goto (tgt := 30) hx hb dX1_writeCellsOver_106 (by decide) ?_
          exact ih (x6 + 1) G z hd _ _ _ hW (lv_sub hl [2, 3, 4, 5, 6, 7, 0] rfl) kx0
        · replace hd := if_f c2 hd
          refine lv_iload hx hb dX1_writeCellsOver_51 (lv_at hl 0 rfl) ?_
          refine lv_aload_n hx hb dX1_writeCellsOver_53 rfl (lv_at hl 1 rfl) ?_
          refine g_ X hinX1 hW 0 rfl rfl 1 (by decide) 1 rfl rfl rfl dX1_writeCellsOver_54 ?_
          refine len_ (v := 240) X hW 2 0 rfl rfl rfl dX1_writeCellsOver_57 ?_
          refine lv_icmp_ge (tgt := 103) hx hb dX1_writeCellsOver_58 (by decide) (fun c3 => ?_) (fun c3 => ?_)
          · replace hd := if_t c3 hd
            refine lv_iinc (v := x6 + 1) (lv' := [(6, .int (x6 + 1)), (7, .int ((x3 * 40) + x6)), (0, .ref (ad 0)), (1, .int x1), (2, .int x2), (3, .int x3), (4, .int x4), (5, .int x5)]) hx hb dX1_writeCellsOver_103 hl (k := 7) rfl rfl (by decide) rfl (fun ls hl => ?_)
            refine lv_goto (tgt := 30) hx hb dX1_writeCellsOver_106 (by decide) ?_
            exact ih (x6 + 1) G z hd _ _ _ hW (lv_sub hl [2, 3, 4, 5, 6, 7, 0] rfl) kx0
          · replace hd := if_f c3 hd
            refine lv_aload_n hx hb dX1_writeCellsOver_61 rfl (lv_at hl 1 rfl) ?_
            refine g_ X hinX1 hW 0 rfl rfl 1 (by decide) 1 rfl rfl rfl dX1_writeCellsOver_62 ?_
            refine lv_iload hx hb dX1_writeCellsOver_65 (lv_at hl 0 rfl) ?_
            refine lv_aload_n hx hb dX1_writeCellsOver_67 rfl (lv_at hl 1 rfl) ?_
            refine lv_aload_n hx hb dX1_writeCellsOver_68 rfl (lv_at hl 1 rfl) ?_
            refine lv_iload_n hx hb dX1_writeCellsOver_69 rfl (lv_at hl 4 rfl) ?_
            refine lv_iconst (v := 1) hx hb dX1_writeCellsOver_70 (by decide) ?_
            refine lv_isub hx hb dX1_writeCellsOver_71 ?_
            refine lv_iload hx hb dX1_writeCellsOver_72 (lv_at hl 7 rfl) ?_
            obtain ⟨r5, h4, hd⟩ := bp_e hd
            refine cVi_ (rest := [.ref (ad 0), .int ((x3 * 40) + x6), .ref (ad 2)]) X (kX1_cellAt l Dd Y ad G (x3 - 1) x6 r5 h4) (cwV 2 X.1.2.2.2.2 gX1_writeCellsOver_X1_cellAt rfl rfl rfl (by decide +kernel) ⟨Nat.le_of_ble_eq_true rfl, Nat.le_of_ble_eq_true rfl⟩) hW 0 1 rfl rfl rfl rfl hl.1 rfl (Nat.le_of_ble_eq_true rfl) dX1_writeCellsOver_74 ⟨Nat.zero_le _, Nat.zero_le _⟩ (fun H locs hW => ?_)
            refine lv_aload_n hx hb dX1_writeCellsOver_77 rfl (lv_at hl 1 rfl) ?_
            refine lv_iload_n hx hb dX1_writeCellsOver_78 rfl (lv_at hl 4 rfl) ?_
            refine lv_iconst (v := 1) hx hb dX1_writeCellsOver_79 (by decide) ?_
            refine lv_isub hx hb dX1_writeCellsOver_80 ?_
            refine lv_iload hx hb dX1_writeCellsOver_81 (lv_at hl 7 rfl) ?_
            refine lv_iload hx hb dX1_writeCellsOver_83 (lv_at hl 5 rfl) ?_
            refine lv_iadd hx hb dX1_writeCellsOver_85 ?_
            obtain ⟨r7, h6, hd⟩ := bp_e hd
            refine cVi_ (rest := [.int r5, .ref (ad 0), .int ((x3 * 40) + x6), .ref (ad 2)]) X (kX1_cellAt l Dd Y ad G (x3 - 1) (x6 + x4) r7 h6) (cwV 2 X.1.2.2.2.2 gX1_writeCellsOver_X1_cellAt rfl rfl rfl (by decide +kernel) ⟨Nat.le_of_ble_eq_true rfl, Nat.le_of_ble_eq_true rfl⟩) hW 0 1 rfl rfl rfl rfl hl.1 rfl (Nat.le_of_ble_eq_true rfl) dX1_writeCellsOver_86 ⟨Nat.zero_le _, Nat.zero_le _⟩ (fun H locs hW => ?_)
            obtain ⟨r9, h8, hd⟩ := bp_e hd
            refine cVi_ (rest := [.int ((x3 * 40) + x6), .ref (ad 2)]) X (kX1_lesser l Dd Y ad G r5 r7 r9 h8) (cwV 2 X.1.2.2.2.2 gX1_writeCellsOver_X1_lesser rfl rfl rfl (by decide +kernel) ⟨Nat.le_of_ble_eq_true rfl, Nat.le_of_ble_eq_true rfl⟩) hW 0 1 rfl rfl rfl rfl hl.1 rfl (Nat.le_of_ble_eq_true rfl) dX1_writeCellsOver_89 ⟨Nat.zero_le _, Nat.zero_le _⟩ (fun H locs hW => ?_)
            obtain ⟨hi10, hd⟩ := wi_e hd
            obtain ⟨G11, eG11, hd⟩ := bw_e hd
            refine s_ X hW 2 rfl rfl hi10 dX1_writeCellsOver_92 (ws' := (WR Y ad G11)) (by rw [eG11]; rfl) (fun H locs hW => ?_)
            refine lv_aload_n hx hb dX1_writeCellsOver_93 rfl (lv_at hl 1 rfl) ?_
            refine lv_dup hx hb dX1_writeCellsOver_94 rfl ?_
            refine g_ X hinX1 hW 0 rfl rfl 8 (by decide) 2 rfl rfl rfl dX1_writeCellsOver_95 ?_
            refine lv_iconst (v := 1) hx hb dX1_writeCellsOver_98 (by decide) ?_
            refine lv_iadd hx hb dX1_writeCellsOver_99 ?_
            obtain ⟨G13, eG13, hd⟩ := bw_e hd
            refine p_ (ty := .int) X hinX1 tyX1 tyX1_ok nmX1 hW 0 rfl rfl 8 (by decide) 2 rfl rfl rfl (by decide +kernel) rfl rfl (Nat.le_of_ble_eq_true rfl) dX1_writeCellsOver_100 (ws' := (WR Y ad G13)) (by rw [eG13]; rfl) (fun H locs hW => ?_)
            refine lv_iinc (v := x6 + 1) (lv' := [(6, .int (x6 + 1)), (7, .int ((x3 * 40) + x6)), (0, .ref (ad 0)), (1, .int x1), (2, .int x2), (3, .int x3), (4, .int x4), (5, .int x5)]) hx hb dX1_writeCellsOver_103 hl (k := 7) rfl rfl (by decide) rfl (fun ls hl => ?_)
            refine lv_goto (tgt := 30) hx hb dX1_writeCellsOver_106 (by decide) ?_
            exact ih (x6 + 1) G13 z hd _ _ _ hW (lv_sub hl [2, 3, 4, 5, 6, 7, 0] rfl) kx0
  have K2 : ∀ (x1 : Int32) (x2 : Int32) (n : Nat) (x3 : Int32) (G : gR) (z : Nat × gR), lpX1_writeCellsOver_2 x1 x2 n x3 G = some z → ∀ (H : Heap) (locs : List Loc) (ls : Array Slot), Wd Dd A s.heap (WR Y ad G) H locs → lv_has ls 8 [(0, .ref (ad 0)), (1, .int x1), (2, .int x2), (3, .int x3)] → (∀ (H : Heap) (locs : List Loc) (ls : Array Slot), z.1 = 0 → Wd Dd A s.heap (WR Y ad z.2) H locs → lv_has ls 8 [] → W p l e rmX1_writeCellsOver s m args below meth c H locs 0 0 Q (F0 m 115 ls [])) → W p l e rmX1_writeCellsOver s m args below meth c H locs 0 0 Q (F0 m 2 ls []) := by
    intro x1 x2 n
    induction n with
    | zero => intro x3 G z hd; cases hd
    | succ n ih =>
      intro x3 G z hd H locs ls hW hl kx0
      unfold lpX1_writeCellsOver_2 at hd
      refine lv_iload_n hx hb dX1_writeCellsOver_2 rfl (lv_at hl 3 rfl) ?_
      refine lv_bipush (v := 6) hx hb dX1_writeCellsOver_3 (by decide) ?_
      refine lv_icmp_ge (tgt := 115) hx hb dX1_writeCellsOver_5 (by decide) (fun c14 => ?_) (fun c14 => ?_)
      · replace hd := if_t c14 hd
        cases hd
        exact kx0 _ _ _ rfl hW (lv_sub hl [] rfl)
      · replace hd := if_f c14 hd
        refine lv_iconst (v := 1) hx hb dX1_writeCellsOver_8 (by decide) ?_
        refine lv_iload_n hx hb dX1_writeCellsOver_9 rfl (lv_at hl 3 rfl) ?_
        refine lv_iconst (v := 1) hx hb dX1_writeCellsOver_10 (by decide) ?_
        refine lv_isub hx hb dX1_writeCellsOver_11 ?_
        refine lv_ishl hx hb dX1_writeCellsOver_12 ?_
        refine lv_istore (lv' := [(4, .int ((1 : Int32) <<< ((x3 - 1) &&& 31))), (0, .ref (ad 0)), (1, .int x1), (2, .int x2), (3, .int x3)]) hx hb dX1_writeCellsOver_13 hl (by decide) rfl (fun ls hl => ?_)
        refine lv_aload_n hx hb dX1_writeCellsOver_15 rfl (lv_at hl 1 rfl) ?_
        refine lv_iload_n hx hb dX1_writeCellsOver_16 rfl (lv_at hl 4 rfl) ?_
        refine lv_iload_n hx hb dX1_writeCellsOver_17 rfl (lv_at hl 3 rfl) ?_
        obtain ⟨r16, h15, hd⟩ := bp_e hd
        refine cVi_ (rest := []) X (kX1_lastCellOver l Dd Y ad G x3 x2 r16 h15) (cwV 2 X.1.2.2.2.2 gX1_writeCellsOver_X1_lastCellOver rfl rfl rfl (by decide +kernel) ⟨Nat.le_of_ble_eq_true rfl, Nat.le_of_ble_eq_true rfl⟩) hW 0 1 rfl rfl rfl rfl hl.1 rfl (Nat.le_of_ble_eq_true rfl) dX1_writeCellsOver_18 ⟨Nat.zero_le _, Nat.zero_le _⟩ (fun H locs hW => ?_)
        refine lv_istore (lv' := [(5, .int r16), (4, .int ((1 : Int32) <<< ((x3 - 1) &&& 31))), (0, .ref (ad 0)), (1, .int x1), (2, .int x2), (3, .int x3)]) hx hb dX1_writeCellsOver_21 hl (by decide) rfl (fun ls hl => ?_)
        refine lv_iload_n hx hb dX1_writeCellsOver_23 rfl (lv_at hl 5 rfl) ?_
        refine lv_iload_n hx hb dX1_writeCellsOver_24 rfl (lv_at hl 3 rfl) ?_
        obtain ⟨r18, h17, hd⟩ := bp_e hd
        refine cSNi_ (rest := []) X (kX4_firstCellOver l Dd Y x3 x1 r18 h17) ⟨va_cnB 2 X.1.2.2.2.2 ggX1_writeCellsOver_X4_firstCellOver rfl rfl rfl X.2.2.2.1.1.1 (X.w (i := 14) rfl) (by decide +kernel) ⟨Nat.le_of_ble_eq_true rfl, Nat.le_of_ble_eq_true rfl⟩, X.w (i := 13) rfl, trivial⟩ hW rfl hl.1 rfl (Nat.le_of_ble_eq_true rfl) dX1_writeCellsOver_25 ⟨Nat.zero_le _, Nat.zero_le _⟩ (fun H locs hW => ?_)
        refine lv_istore (lv' := [(6, .int r18), (5, .int r16), (4, .int ((1 : Int32) <<< ((x3 - 1) &&& 31))), (0, .ref (ad 0)), (1, .int x1), (2, .int x2), (3, .int x3)]) hx hb dX1_writeCellsOver_28 hl (by decide) rfl (fun ls hl => ?_)
        obtain ⟨z30_18, hz30_18, hd⟩ := bp_e hd
        refine K30 x1 x2 x3 ((1 : Int32) <<< ((x3 - 1) &&& 31)) r16 FU r18 G z30_18 hz30_18 _ _ _ hW (lv_sub hl [3, 4, 5, 6, 2, 1, 0] rfl) (fun H locs ls e30 hW hl => ?_)
        refine lv_iinc (v := x3 + 1) (lv' := [(3, .int (x3 + 1)), (0, .ref (ad 0)), (1, .int x1), (2, .int x2)]) hx hb dX1_writeCellsOver_109 hl (k := 3) rfl rfl (by decide) rfl (fun ls hl => ?_)
        refine lv_goto (tgt := 2) hx hb dX1_writeCellsOver_112 (by decide) ?_
        exact ih (x3 + 1) z30_18.2 z hd _ _ _ hW (lv_sub hl [1, 2, 3, 0] rfl) kx0
  refine lv_iconst (v := 1) hx hb dX1_writeCellsOver_0 (by decide) ?_
  refine lv_istore_n (lv' := [(3, .int 1), (0, .ref (ad 0)), (1, .int x1), (2, .int x2)]) hx hb dX1_writeCellsOver_1 rfl hl (by decide) rfl (fun ls hl => ?_)
  obtain ⟨z2_19, hz2_19, hd⟩ := bp_e hd
  refine K2 x1 x2 FU 1 G z2_19 hz2_19 _ _ _ hW (lv_sub hl [1, 2, 3, 0] rfl) (fun H locs ls e2 hW hl => ?_)
  obtain rfl := Option.some.inj hd
  exact hQ _ _ _ _ hW dX1_writeCellsOver_115
abbrev rmX1_buildAll : Room := { frames := 3, cells := 0, slots := 0, locals := 70 }
set_option maxRecDepth 100000 in
set_option maxHeartbeats 4000000 in
theorem kX1_buildAll (l : Launch) (Dd : va_G) (Y : yT) (ad : Nat → Nat) (G : gR) (G' : gR) (hd : dnX1_buildAll G = some G') : MG l yX1_buildAll wsX1_buildAll rmX1_buildAll Dd Y [.ref (ad 0)] (WR Y ad G) (WR Y ad G') none := by
  refine MGv (cc := cX1_buildAll) (maxL := 1) (by decide) rfl (Nat.le_of_ble_eq_true rfl) (fun {p e s m args below meth c A} ls Q X hW hl hQ => ?_)
  have hx := X.x
  have hb := X.b
  have hl : lv_has ls 1 [(0, .ref (ad 0))] := hl
  have hinX1 : ∀ w ∈ wsX10, w ∈ wsX1_buildAll := fun w h => List.mem_cons_of_mem _ (List.mem_append_right _ h)
  unfold dnX1_buildAll at hd
  refine lv_aload_n hx hb dX1_buildAll_0 rfl (lv_at hl 0 rfl) ?_
  refine lv_iconst (v := 0) hx hb dX1_buildAll_1 (by decide) ?_
  refine lv_aload_n hx hb dX1_buildAll_2 rfl (lv_at hl 0 rfl) ?_
  refine g_ X hinX1 hW 0 rfl rfl 3 (by decide) 1 rfl rfl rfl dX1_buildAll_3 ?_
  refine lv_iconst (v := 1) hx hb dX1_buildAll_6 (by decide) ?_
  refine lv_isub hx hb dX1_buildAll_7 ?_
  obtain ⟨G2, h1, hd⟩ := bp_e hd
  refine cVv_ (rest := []) X (kX1_writeCellsOver l Dd Y ad G 0 ((G.1 0 3) - 1) G2 h1) (cwV 2 X.1.2.2.2.2 gX1_buildAll_X1_writeCellsOver rfl rfl rfl (by decide +kernel) ⟨Nat.le_of_ble_eq_true rfl, Nat.le_of_ble_eq_true rfl⟩) hW 0 1 rfl rfl rfl rfl hl.1 rfl (Nat.le_of_ble_eq_true rfl) dX1_buildAll_8 ⟨Nat.zero_le _, Nat.zero_le _⟩ (fun H locs hW => ?_)
  refine lv_aload_n hx hb dX1_buildAll_11 rfl (lv_at hl 0 rfl) ?_
  refine lv_lconst (v := 0) hx hb dX1_buildAll_12 (by decide) ?_
  obtain ⟨G3, eG3, hd⟩ := bw_e hd
  refine p_ (ty := .long) X hinX1 tyX1 tyX1_ok nmX1 hW 0 rfl rfl 6 (by decide) 2 rfl rfl rfl (by decide +kernel) rfl rfl (Nat.le_of_ble_eq_true rfl) dX1_buildAll_13 (ws' := (WR Y ad G3)) (by rw [eG3]; rfl) (fun H locs hW => ?_)
  refine lv_aload_n hx hb dX1_buildAll_16 rfl (lv_at hl 0 rfl) ?_
  refine lv_dup hx hb dX1_buildAll_17 rfl ?_
  refine g_ X hinX1 hW 0 rfl rfl 10 (by decide) 3 rfl rfl rfl dX1_buildAll_18 ?_
  refine lv_iconst (v := 1) hx hb dX1_buildAll_21 (by decide) ?_
  refine lv_iadd hx hb dX1_buildAll_22 ?_
  obtain ⟨G4, eG4, hd⟩ := bw_e hd
  refine p_ (ty := .int) X hinX1 tyX1 tyX1_ok nmX1 hW 0 rfl rfl 10 (by decide) 3 rfl rfl rfl (by decide +kernel) rfl rfl (Nat.le_of_ble_eq_true rfl) dX1_buildAll_23 (ws' := (WR Y ad G4)) (by rw [eG4]; rfl) (fun H locs hW => ?_)
  obtain rfl := Option.some.inj hd
  exact hQ _ _ _ _ hW dX1_buildAll_26
abbrev rmX1_isBuiltByQuestion : Room := { frames := 0, cells := 0, slots := 0, locals := 0 }
set_option maxRecDepth 100000 in
set_option maxHeartbeats 4000000 in
theorem kX1_isBuiltByQuestion (l : Launch) (Dd : va_G) (Y : yT) (ad : Nat → Nat) (G : gR) (r : Int32) (hd : dnX1_isBuiltByQuestion G = some r) : MG l yX1_isBuiltByQuestion wsX1_isBuiltByQuestion rmX1_isBuiltByQuestion Dd Y [.ref (ad 0)] (WR Y ad G) (WR Y ad G) (some (.int r)) := by
  refine MGi (cc := cX1_isBuiltByQuestion) (maxL := 1) (ty := .boolean) (by decide) rfl (Nat.le_of_ble_eq_true rfl) (fun {p e s m args below meth c A} ls Q X hW hl hQ => ?_)
  have hx := X.x
  have hb := X.b
  have hl : lv_has ls 1 [(0, .ref (ad 0))] := hl
  have hinX1 : ∀ w ∈ wsX10, w ∈ wsX1_isBuiltByQuestion := fun w h => List.mem_cons_of_mem _ (List.mem_append_right _ h)
  unfold dnX1_isBuiltByQuestion at hd
  refine lv_aload_n hx hb dX1_isBuiltByQuestion_0 rfl (lv_at hl 0 rfl) ?_
  refine g_ X hinX1 hW 0 rfl rfl 4 (by decide) 1 rfl rfl rfl dX1_isBuiltByQuestion_1 ?_
  refine lv_if_ne (tgt := 20) hx hb dX1_isBuiltByQuestion_4 (by decide) (fun c1 => ?_) (fun c1 => ?_)
  · replace hd := if_f c1 hd
    refine lv_iconst (v := 0) hx hb dX1_isBuiltByQuestion_20 (by decide) ?_
    have hd := Option.some.inj hd
    subst hd
    exact hQ _ _ _ _ (nz_b (Or.inl rfl)) hW dX1_isBuiltByQuestion_21
  · replace hd := if_t c1 hd
    refine lv_aload_n hx hb dX1_isBuiltByQuestion_7 rfl (lv_at hl 0 rfl) ?_
    refine g_ X hinX1 hW 0 rfl rfl 6 (by decide) 2 rfl rfl rfl dX1_isBuiltByQuestion_8 ?_
    refine lv_lconst (v := 0) hx hb dX1_isBuiltByQuestion_11 (by decide) ?_
    refine W.lcmp hx hb dX1_isBuiltByQuestion_12 ?_
    refine lv_if_eq (tgt := 20) hx hb dX1_isBuiltByQuestion_13 (by decide) (fun c2 => ?_) (fun c2 => ?_)
    · replace hd := if_t c2 hd
      refine lv_iconst (v := 0) hx hb dX1_isBuiltByQuestion_20 (by decide) ?_
      have hd := Option.some.inj hd
      subst hd
      exact hQ _ _ _ _ (nz_b (Or.inl rfl)) hW dX1_isBuiltByQuestion_21
    · replace hd := if_f c2 hd
      refine lv_iconst (v := 1) hx hb dX1_isBuiltByQuestion_16 (by decide) ?_
      refine lv_goto (tgt := 21) hx hb dX1_isBuiltByQuestion_17 (by decide) ?_
      have hd := Option.some.inj hd
      subst hd
      exact hQ _ _ _ _ (nz_b (Or.inr rfl)) hW dX1_isBuiltByQuestion_21
abbrev rmX4_greatestLevel : Room := { frames := 0, cells := 0, slots := 0, locals := 0 }
set_option maxRecDepth 100000 in
set_option maxHeartbeats 4000000 in
theorem kX4_greatestLevel (l : Launch) (Dd : va_G) (Y : yT) (x0 : Int32) (r : Int32) (hd : dnX4_greatestLevel x0 = some r) : MG l yX4_greatestLevel wsX4_greatestLevel rmX4_greatestLevel Dd Y [.int x0] [] [] (some (.int r)) := by
  refine MGi (cc := cX4_greatestLevel) (maxL := 2) (ty := .int) (by decide) rfl (Nat.le_of_ble_eq_true rfl) (fun {p e s m args below meth c A} ls Q X hW hl hQ => ?_)
  have hx := X.x
  have hb := X.b
  have hl : lv_has ls 2 [(0, .int x0)] := hl
  unfold dnX4_greatestLevel at hd
  have K2 : ∀ (x0 : Int32) (n : Nat) (x1 : Int32) (z : Nat × Int32), lpX4_greatestLevel_2 x0 n x1 = some z → ∀ (H : Heap) (locs : List Loc) (ls : Array Slot), Wd Dd A s.heap [] H locs → lv_has ls 2 [(0, .int x0), (1, .int x1)] → (∀ (H : Heap) (locs : List Loc) (ls : Array Slot), z.1 = 0 → Wd Dd A s.heap [] H locs → lv_has ls 2 [(1, .int z.2)] → W p l e rmX4_greatestLevel s m args below meth c H locs 0 0 Q (F0 m 20 ls [])) → W p l e rmX4_greatestLevel s m args below meth c H locs 0 0 Q (F0 m 2 ls []) := by
    intro x0 n
    induction n with
    | zero => intro x1 z hd; cases hd
    | succ n ih =>
      intro x1 z hd H locs ls hW hl kx0
      unfold lpX4_greatestLevel_2 at hd
      refine lv_iload_n hx hb dX4_greatestLevel_2 rfl (lv_at hl 1 rfl) ?_
      refine lv_iconst (v := 5) hx hb dX4_greatestLevel_3 (by decide) ?_
      refine lv_icmp_ge (tgt := 20) hx hb dX4_greatestLevel_4 (by decide) (fun c1 => ?_) (fun c1 => ?_)
      · replace hd := if_t c1 hd
        cases hd
        exact kx0 _ _ _ rfl hW (lv_sub hl [1] rfl)
      · replace hd := if_f c1 hd
        refine lv_iconst (v := 2) hx hb dX4_greatestLevel_7 (by decide) ?_
        refine lv_iload_n hx hb dX4_greatestLevel_8 rfl (lv_at hl 1 rfl) ?_
        refine lv_ishl hx hb dX4_greatestLevel_9 ?_
        refine lv_iload_n hx hb dX4_greatestLevel_10 rfl (lv_at hl 0 rfl) ?_
        refine lv_icmp_gt (tgt := 20) hx hb dX4_greatestLevel_11 (by decide) (fun c2 => ?_) (fun c2 => ?_)
        · replace hd := if_t c2 hd
          cases hd
          exact kx0 _ _ _ rfl hW (lv_sub hl [1] rfl)
        · replace hd := if_f c2 hd
          refine lv_iinc (v := x1 + 1) (lv' := [(1, .int (x1 + 1)), (0, .int x0)]) hx hb dX4_greatestLevel_14 hl (k := 1) rfl rfl (by decide) rfl (fun ls hl => ?_)
          refine lv_goto (tgt := 2) hx hb dX4_greatestLevel_17 (by decide) ?_
          exact ih (x1 + 1) z hd _ _ _ hW (lv_sub hl [1, 0] rfl) kx0
  refine lv_iconst (v := 0) hx hb dX4_greatestLevel_0 (by decide) ?_
  refine lv_istore_n (lv' := [(1, .int 0), (0, .int x0)]) hx hb dX4_greatestLevel_1 rfl hl (by decide) rfl (fun ls hl => ?_)
  obtain ⟨z2_2, hz2_2, hd⟩ := bp_e hd
  refine K2 x0 FU 0 z2_2 hz2_2 _ _ _ hW (lv_sub hl [1, 0] rfl) (fun H locs ls e2 hW hl => ?_)
  refine lv_iload_n hx hb dX4_greatestLevel_20 rfl (lv_at hl 0 rfl) ?_
  have hd := Option.some.inj hd
  subst hd
  exact hQ _ _ _ _ rfl hW dX4_greatestLevel_21
abbrev rmX1_leastOfRun : Room := { frames := 2, cells := 0, slots := 0, locals := 43 }
set_option maxRecDepth 100000 in
set_option maxHeartbeats 4000000 in
theorem kX1_leastOfRun (l : Launch) (Dd : va_G) (Y : yT) (ad : Nat → Nat) (G : gR) (x1 : Int32) (x2 : Int32) (r : Int32) (hd : dnX1_leastOfRun G x1 x2 = some r) : MG l yX1_leastOfRun wsX1_leastOfRun rmX1_leastOfRun Dd Y [.ref (ad 0), .int x1, .int x2] (WR Y ad G) (WR Y ad G) (some (.int r)) := by
  refine MGi (cc := cX1_leastOfRun) (maxL := 4) (ty := .int) (by decide) rfl (Nat.le_of_ble_eq_true rfl) (fun {p e s m args below meth c A} ls Q X hW hl hQ => ?_)
  have hx := X.x
  have hb := X.b
  have hl : lv_has ls 4 [(0, .ref (ad 0)), (1, .int x1), (2, .int x2)] := hl
  unfold dnX1_leastOfRun at hd
  refine lv_iload_n hx hb dX1_leastOfRun_0 rfl (lv_at hl 1 rfl) ?_
  refine lv_iload_n hx hb dX1_leastOfRun_1 rfl (lv_at hl 2 rfl) ?_
  refine lv_icmp_le (tgt := 7) hx hb dX1_leastOfRun_2 (by decide) (fun c1 => ?_) (fun c1 => ?_)
  · replace hd := if_t c1 hd
    refine lv_iload_n hx hb dX1_leastOfRun_7 rfl (lv_at hl 2 rfl) ?_
    refine lv_iload_n hx hb dX1_leastOfRun_8 rfl (lv_at hl 1 rfl) ?_
    refine lv_isub hx hb dX1_leastOfRun_9 ?_
    refine lv_iconst (v := 1) hx hb dX1_leastOfRun_10 (by decide) ?_
    refine lv_iadd hx hb dX1_leastOfRun_11 ?_
    obtain ⟨r3, h2, hd⟩ := bp_e hd
    refine cSNi_ (rest := []) X (kX4_greatestLevel l Dd Y ((x2 - x1) + 1) r3 h2) ⟨va_cnB 1 X.1.2.2.2.2 ggX1_leastOfRun_X4_greatestLevel rfl rfl rfl X.2.2.2.1.1.2.2.2 (X.w (i := 2) rfl) (by decide +kernel) ⟨Nat.le_of_ble_eq_true rfl, Nat.le_of_ble_eq_true rfl⟩, X.w (i := 1) rfl, trivial⟩ hW rfl hl.1 rfl (Nat.le_of_ble_eq_true rfl) dX1_leastOfRun_12 ⟨Nat.zero_le _, Nat.zero_le _⟩ (fun H locs hW => ?_)
    refine lv_istore_n (lv' := [(3, .int r3), (0, .ref (ad 0)), (1, .int x1), (2, .int x2)]) hx hb dX1_leastOfRun_15 rfl hl (by decide) rfl (fun ls hl => ?_)
    refine lv_aload_n hx hb dX1_leastOfRun_16 rfl (lv_at hl 1 rfl) ?_
    refine lv_aload_n hx hb dX1_leastOfRun_17 rfl (lv_at hl 1 rfl) ?_
    refine lv_iload_n hx hb dX1_leastOfRun_18 rfl (lv_at hl 0 rfl) ?_
    refine lv_iload_n hx hb dX1_leastOfRun_19 rfl (lv_at hl 2 rfl) ?_
    obtain ⟨r5, h4, hd⟩ := bp_e hd
    refine cVi_ (rest := [.ref (ad 0)]) X (kX1_cellAt l Dd Y ad G r3 x1 r5 h4) (cwV 2 X.1.2.2.2.2 gX1_leastOfRun_X1_cellAt rfl rfl rfl (by decide +kernel) ⟨Nat.le_of_ble_eq_true rfl, Nat.le_of_ble_eq_true rfl⟩) hW 0 1 rfl rfl rfl rfl hl.1 rfl (Nat.le_of_ble_eq_true rfl) dX1_leastOfRun_20 ⟨Nat.zero_le _, Nat.zero_le _⟩ (fun H locs hW => ?_)
    refine lv_aload_n hx hb dX1_leastOfRun_23 rfl (lv_at hl 1 rfl) ?_
    refine lv_iload_n hx hb dX1_leastOfRun_24 rfl (lv_at hl 0 rfl) ?_
    refine lv_iload_n hx hb dX1_leastOfRun_25 rfl (lv_at hl 3 rfl) ?_
    refine lv_iconst (v := 1) hx hb dX1_leastOfRun_26 (by decide) ?_
    refine lv_iload_n hx hb dX1_leastOfRun_27 rfl (lv_at hl 0 rfl) ?_
    refine lv_ishl hx hb dX1_leastOfRun_28 ?_
    refine lv_isub hx hb dX1_leastOfRun_29 ?_
    refine lv_iconst (v := 1) hx hb dX1_leastOfRun_30 (by decide) ?_
    refine lv_iadd hx hb dX1_leastOfRun_31 ?_
    obtain ⟨r7, h6, hd⟩ := bp_e hd
    refine cVi_ (rest := [.int r5, .ref (ad 0)]) X (kX1_cellAt l Dd Y ad G r3 ((x2 - ((1 : Int32) <<< (r3 &&& 31))) + 1) r7 h6) (cwV 2 X.1.2.2.2.2 gX1_leastOfRun_X1_cellAt rfl rfl rfl (by decide +kernel) ⟨Nat.le_of_ble_eq_true rfl, Nat.le_of_ble_eq_true rfl⟩) hW 0 1 rfl rfl rfl rfl hl.1 rfl (Nat.le_of_ble_eq_true rfl) dX1_leastOfRun_32 ⟨Nat.zero_le _, Nat.zero_le _⟩ (fun H locs hW => ?_)
    obtain ⟨r9, h8, hd⟩ := bp_e hd
    refine cVi_ (rest := []) X (kX1_lesser l Dd Y ad G r5 r7 r9 h8) (cwV 2 X.1.2.2.2.2 gX1_leastOfRun_X1_lesser rfl rfl rfl (by decide +kernel) ⟨Nat.le_of_ble_eq_true rfl, Nat.le_of_ble_eq_true rfl⟩) hW 0 1 rfl rfl rfl rfl hl.1 rfl (Nat.le_of_ble_eq_true rfl) dX1_leastOfRun_35 ⟨Nat.zero_le _, Nat.zero_le _⟩ (fun H locs hW => ?_)
    have hd := Option.some.inj hd
    subst hd
    exact hQ _ _ _ _ rfl hW dX1_leastOfRun_38
  · replace hd := if_f c1 hd
    refine lv_iconst (v := (-1)) hx hb dX1_leastOfRun_5 (by decide) ?_
    have hd := Option.some.inj hd
    subst hd
    exact hQ _ _ _ _ rfl hW dX1_leastOfRun_6
abbrev rmX1_leastByLooks : Room := { frames := 3, cells := 0, slots := 0, locals := 66 }
set_option maxRecDepth 100000 in
set_option maxHeartbeats 4000000 in
theorem kX1_leastByLooks (l : Launch) (Dd : va_G) (Y : yT) (ad : Nat → Nat) (G : gR) (x1 : Int32) (x2 : Int32) (r : Int32) (hd : dnX1_leastByLooks G x1 x2 = some r) : MG l yX1_leastByLooks wsX1_leastByLooks rmX1_leastByLooks Dd Y [.ref (ad 0), .int x1, .int x2] (WR Y ad G) (WR Y ad G) (some (.int r)) := by
  refine MGi (cc := cX1_leastByLooks) (maxL := 6) (ty := .int) (by decide) rfl (Nat.le_of_ble_eq_true rfl) (fun {p e s m args below meth c A} ls Q X hW hl hQ => ?_)
  have hx := X.x
  have hb := X.b
  have hl : lv_has ls 6 [(0, .ref (ad 0)), (1, .int x1), (2, .int x2)] := hl
  unfold dnX1_leastByLooks at hd
  have K8 : ∀ (G : gR) (x2 : Int32) (n : Nat) (x3 : Int32) (x4 : Int32) (x5 : Int32) (z : Nat × Int32 × Int32), lpX1_leastByLooks_8 G x2 n x3 x4 x5 = some z → ∀ (H : Heap) (locs : List Loc) (ls : Array Slot), Wd Dd A s.heap (WR Y ad G) H locs → lv_has ls 6 [(0, .ref (ad 0)), (2, .int x2), (3, .int x3), (4, .int x4), (5, .int x5)] → (∀ (H : Heap) (locs : List Loc) (ls : Array Slot), z.1 = 0 → Wd Dd A s.heap (WR Y ad G) H locs → lv_has ls 6 [(0, .ref (ad 0)), (2, .int x2), (3, .int z.2.1), (4, .int z.2.2)] → W p l e rmX1_leastByLooks s m args below meth c H locs 0 0 Q (F0 m 59 ls [])) → W p l e rmX1_leastByLooks s m args below meth c H locs 0 0 Q (F0 m 8 ls []) := by
    intro G x2 n
    induction n with
    | zero => intro x3 x4 x5 z hd; cases hd
    | succ n ih =>
      intro x3 x4 x5 z hd H locs ls hW hl kx0
      unfold lpX1_leastByLooks_8 at hd
      refine lv_iload hx hb dX1_leastByLooks_8 (lv_at hl 4 rfl) ?_
      refine lv_iload_n hx hb dX1_leastByLooks_10 rfl (lv_at hl 1 rfl) ?_
      refine lv_icmp_gt (tgt := 59) hx hb dX1_leastByLooks_11 (by decide) (fun c1 => ?_) (fun c1 => ?_)
      · replace hd := if_t c1 hd
        cases hd
        exact kx0 _ _ _ rfl hW (lv_sub hl [0, 1, 2, 3] rfl)
      · replace hd := if_f c1 hd
        refine lv_aload_n hx hb dX1_leastByLooks_14 rfl (lv_at hl 0 rfl) ?_
        refine lv_iload hx hb dX1_leastByLooks_15 (lv_at hl 4 rfl) ?_
        obtain ⟨r3, h2, hd⟩ := bp_e hd
        refine cVi_ (rest := []) X (kX1_isWaiting l Dd Y ad G x5 r3 h2) (cwV 1 X.1.2.2.2.2 gX1_leastByLooks_X1_isWaiting rfl rfl rfl (by decide +kernel) ⟨Nat.le_of_ble_eq_true rfl, Nat.le_of_ble_eq_true rfl⟩) hW 0 1 rfl rfl rfl rfl hl.1 rfl (Nat.le_of_ble_eq_true rfl) dX1_leastByLooks_17 ⟨Nat.zero_le _, Nat.zero_le _⟩ (fun H locs hW => ?_)
        refine lv_if_eq (tgt := 53) hx hb dX1_leastByLooks_20 (by decide) (fun c4 => ?_) (fun c4 => ?_)
        · replace hd := if_t c4 hd
          refine lv_iinc (v := x5 + 1) (lv' := [(5, .int (x5 + 1)), (0, .ref (ad 0)), (2, .int x2), (3, .int x3), (4, .int x4)]) hx hb dX1_leastByLooks_53 hl (k := 4) rfl rfl (by decide) rfl (fun ls hl => ?_)
          refine lv_goto (tgt := 8) hx hb dX1_leastByLooks_56 (by decide) ?_
          exact ih x3 x4 (x5 + 1) z hd _ _ _ hW (lv_sub hl [1, 2, 3, 4, 0] rfl) kx0
        · replace hd := if_f c4 hd
          refine lv_aload_n hx hb dX1_leastByLooks_23 rfl (lv_at hl 0 rfl) ?_
          refine lv_iload_n hx hb dX1_leastByLooks_24 rfl (lv_at hl 2 rfl) ?_
          refine lv_aload_n hx hb dX1_leastByLooks_25 rfl (lv_at hl 0 rfl) ?_
          refine lv_iload hx hb dX1_leastByLooks_26 (lv_at hl 3 rfl) ?_
          refine lv_iload hx hb dX1_leastByLooks_28 (lv_at hl 4 rfl) ?_
          refine lv_iconst (v := 1) hx hb dX1_leastByLooks_30 (by decide) ?_
          refine lv_isub hx hb dX1_leastByLooks_31 ?_
          obtain ⟨r6, h5, hd⟩ := bp_e hd
          refine cVi_ (rest := [.int x3, .ref (ad 0)]) X (kX1_leastOfRun l Dd Y ad G x4 (x5 - 1) r6 h5) (cwV 2 X.1.2.2.2.2 gX1_leastByLooks_X1_leastOfRun rfl rfl rfl (by decide +kernel) ⟨Nat.le_of_ble_eq_true rfl, Nat.le_of_ble_eq_true rfl⟩) hW 0 1 rfl rfl rfl rfl hl.1 rfl (Nat.le_of_ble_eq_true rfl) dX1_leastByLooks_32 ⟨Nat.zero_le _, Nat.zero_le _⟩ (fun H locs hW => ?_)
          obtain ⟨r8, h7, hd⟩ := bp_e hd
          refine cVi_ (rest := []) X (kX1_lesser l Dd Y ad G x3 r6 r8 h7) (cwV 2 X.1.2.2.2.2 gX1_leastByLooks_X1_lesser rfl rfl rfl (by decide +kernel) ⟨Nat.le_of_ble_eq_true rfl, Nat.le_of_ble_eq_true rfl⟩) hW 0 1 rfl rfl rfl rfl hl.1 rfl (Nat.le_of_ble_eq_true rfl) dX1_leastByLooks_35 ⟨Nat.zero_le _, Nat.zero_le _⟩ (fun H locs hW => ?_)
          refine lv_istore_n (lv' := [(3, .int r8), (0, .ref (ad 0)), (2, .int x2), (4, .int x4), (5, .int x5)]) hx hb dX1_leastByLooks_38 rfl hl (by decide) rfl (fun ls hl => ?_)
          refine lv_aload_n hx hb dX1_leastByLooks_39 rfl (lv_at hl 1 rfl) ?_
          refine lv_iload_n hx hb dX1_leastByLooks_40 rfl (lv_at hl 0 rfl) ?_
          refine lv_iload hx hb dX1_leastByLooks_41 (lv_at hl 4 rfl) ?_
          obtain ⟨r10, h9, hd⟩ := bp_e hd
          refine cVi_ (rest := []) X (kX1_lesser l Dd Y ad G r8 x5 r10 h9) (cwV 2 X.1.2.2.2.2 gX1_leastByLooks_X1_lesser rfl rfl rfl (by decide +kernel) ⟨Nat.le_of_ble_eq_true rfl, Nat.le_of_ble_eq_true rfl⟩) hW 0 1 rfl rfl rfl rfl hl.1 rfl (Nat.le_of_ble_eq_true rfl) dX1_leastByLooks_43 ⟨Nat.zero_le _, Nat.zero_le _⟩ (fun H locs hW => ?_)
          refine lv_istore_n (lv' := [(3, .int r10), (0, .ref (ad 0)), (2, .int x2), (4, .int x4), (5, .int x5)]) hx hb dX1_leastByLooks_46 rfl hl (by decide) rfl (fun ls hl => ?_)
          refine lv_iload hx hb dX1_leastByLooks_47 (lv_at hl 4 rfl) ?_
          refine lv_iconst (v := 1) hx hb dX1_leastByLooks_49 (by decide) ?_
          refine lv_iadd hx hb dX1_leastByLooks_50 ?_
          refine lv_istore (lv' := [(4, .int (x5 + 1)), (3, .int r10), (0, .ref (ad 0)), (2, .int x2), (5, .int x5)]) hx hb dX1_leastByLooks_51 hl (by decide) rfl (fun ls hl => ?_)
          refine lv_iinc (v := x5 + 1) (lv' := [(5, .int (x5 + 1)), (4, .int (x5 + 1)), (3, .int r10), (0, .ref (ad 0)), (2, .int x2)]) hx hb dX1_leastByLooks_53 hl (k := 4) rfl rfl (by decide) rfl (fun ls hl => ?_)
          refine lv_goto (tgt := 8) hx hb dX1_leastByLooks_56 (by decide) ?_
          exact ih r10 (x5 + 1) (x5 + 1) z hd _ _ _ hW (lv_sub hl [3, 4, 2, 1, 0] rfl) kx0
  refine lv_iconst (v := (-1)) hx hb dX1_leastByLooks_0 (by decide) ?_
  refine lv_istore_n (lv' := [(3, .int (-1)), (0, .ref (ad 0)), (1, .int x1), (2, .int x2)]) hx hb dX1_leastByLooks_1 rfl hl (by decide) rfl (fun ls hl => ?_)
  refine lv_iload_n hx hb dX1_leastByLooks_2 rfl (lv_at hl 2 rfl) ?_
  refine lv_istore (lv' := [(4, .int x1), (3, .int (-1)), (0, .ref (ad 0)), (1, .int x1), (2, .int x2)]) hx hb dX1_leastByLooks_3 hl (by decide) rfl (fun ls hl => ?_)
  refine lv_iload_n hx hb dX1_leastByLooks_5 rfl (lv_at hl 3 rfl) ?_
  refine lv_istore (lv' := [(5, .int x1), (4, .int x1), (3, .int (-1)), (0, .ref (ad 0)), (1, .int x1), (2, .int x2)]) hx hb dX1_leastByLooks_6 hl (by decide) rfl (fun ls hl => ?_)
  obtain ⟨z8_10, hz8_10, hd⟩ := bp_e hd
  refine K8 G x2 FU (-1) x1 x1 z8_10 hz8_10 _ _ _ hW (lv_sub hl [3, 5, 2, 1, 0] rfl) (fun H locs ls e8 hW hl => ?_)
  refine lv_aload_n hx hb dX1_leastByLooks_59 rfl (lv_at hl 0 rfl) ?_
  refine lv_iload_n hx hb dX1_leastByLooks_60 rfl (lv_at hl 2 rfl) ?_
  refine lv_aload_n hx hb dX1_leastByLooks_61 rfl (lv_at hl 0 rfl) ?_
  refine lv_iload hx hb dX1_leastByLooks_62 (lv_at hl 3 rfl) ?_
  refine lv_iload_n hx hb dX1_leastByLooks_64 rfl (lv_at hl 1 rfl) ?_
  obtain ⟨r13, h12, hd⟩ := bp_e hd
  refine cVi_ (rest := [.int z8_10.2.1, .ref (ad 0)]) X (kX1_leastOfRun l Dd Y ad G z8_10.2.2 x2 r13 h12) (cwV 2 X.1.2.2.2.2 gX1_leastByLooks_X1_leastOfRun rfl rfl rfl (by decide +kernel) ⟨Nat.le_of_ble_eq_true rfl, Nat.le_of_ble_eq_true rfl⟩) hW 0 1 rfl rfl rfl rfl hl.1 rfl (Nat.le_of_ble_eq_true rfl) dX1_leastByLooks_65 ⟨Nat.zero_le _, Nat.zero_le _⟩ (fun H locs hW => ?_)
  obtain ⟨r15, h14, hd⟩ := bp_e hd
  refine cVi_ (rest := []) X (kX1_lesser l Dd Y ad G z8_10.2.1 r13 r15 h14) (cwV 2 X.1.2.2.2.2 gX1_leastByLooks_X1_lesser rfl rfl rfl (by decide +kernel) ⟨Nat.le_of_ble_eq_true rfl, Nat.le_of_ble_eq_true rfl⟩) hW 0 1 rfl rfl rfl rfl hl.1 rfl (Nat.le_of_ble_eq_true rfl) dX1_leastByLooks_68 ⟨Nat.zero_le _, Nat.zero_le _⟩ (fun H locs hW => ?_)
  have hd := Option.some.inj hd
  subst hd
  exact hQ _ _ _ _ rfl hW dX1_leastByLooks_71
abbrev rmX4_looksForRun : Room := { frames := 1, cells := 0, slots := 0, locals := 21 }
set_option maxRecDepth 100000 in
set_option maxHeartbeats 4000000 in
theorem kX4_looksForRun (l : Launch) (Dd : va_G) (Y : yT) (x0 : Int32) (r : Int32) (hd : dnX4_looksForRun x0 = some r) : MG l yX4_looksForRun wsX4_looksForRun rmX4_looksForRun Dd Y [.int x0] [] [] (some (.int r)) := by
  refine MGi (cc := cX4_looksForRun) (maxL := 1) (ty := .int) (by decide) rfl (Nat.le_of_ble_eq_true rfl) (fun {p e s m args below meth c A} ls Q X hW hl hQ => ?_)
  have hx := X.x
  have hb := X.b
  have hl : lv_has ls 1 [(0, .int x0)] := hl
  unfold dnX4_looksForRun at hd
  refine lv_iload_n hx hb dX4_looksForRun_0 rfl (lv_at hl 0 rfl) ?_
  refine lv_if_ne (tgt := 6) hx hb dX4_looksForRun_1 (by decide) (fun c1 => ?_) (fun c1 => ?_)
  · replace hd := if_f c1 hd
    refine lv_iload_n hx hb dX4_looksForRun_6 rfl (lv_at hl 0 rfl) ?_
    refine lv_iconst (v := 1) hx hb dX4_looksForRun_7 (by decide) ?_
    refine lv_iload_n hx hb dX4_looksForRun_8 rfl (lv_at hl 0 rfl) ?_
    obtain ⟨r3, h2, hd⟩ := bp_e hd
    refine cSi_ (rest := [.int 1, .int x0]) X (kX4_greatestLevel l Dd Y x0 r3 h2) (va_cwS 1 X.1.2.2.2.2 gX4_looksForRun_X4_greatestLevel rfl rfl rfl (by decide +kernel) ⟨Nat.le_of_ble_eq_true rfl, Nat.le_of_ble_eq_true rfl⟩) hW rfl hl.1 rfl (Nat.le_of_ble_eq_true rfl) dX4_looksForRun_9 ⟨Nat.zero_le _, Nat.zero_le _⟩ (fun H locs hW => ?_)
    refine lv_ishl hx hb dX4_looksForRun_12 ?_
    refine lv_icmp_ne (tgt := 20) hx hb dX4_looksForRun_13 (by decide) (fun c4 => ?_) (fun c4 => ?_)
    · replace hd := if_f c4 hd
      refine lv_iconst (v := 2) hx hb dX4_looksForRun_20 (by decide) ?_
      have hd := Option.some.inj hd
      subst hd
      exact hQ _ _ _ _ rfl hW dX4_looksForRun_21
    · replace hd := if_t c4 hd
      refine lv_iconst (v := 1) hx hb dX4_looksForRun_16 (by decide) ?_
      refine lv_goto (tgt := 21) hx hb dX4_looksForRun_17 (by decide) ?_
      have hd := Option.some.inj hd
      subst hd
      exact hQ _ _ _ _ rfl hW dX4_looksForRun_21
  · replace hd := if_t c1 hd
    refine lv_iconst (v := 0) hx hb dX4_looksForRun_4 (by decide) ?_
    have hd := Option.some.inj hd
    subst hd
    exact hQ _ _ _ _ rfl hW dX4_looksForRun_5
abbrev rmX4_looksFor : Room := { frames := 2, cells := 0, slots := 0, locals := 41 }
set_option maxRecDepth 100000 in
set_option maxHeartbeats 4000000 in
theorem kX4_looksFor (l : Launch) (Dd : va_G) (Y : yT) (x0 : Int32) (x1 : Int32) (x2 : Int64) (r : Int32) (hd : dnX4_looksFor x0 x1 x2 = some r) : MG l yX4_looksFor wsX4_looksFor rmX4_looksFor Dd Y [.int x0, .int x1, .long x2] [] [] (some (.int r)) := by
  refine MGi (cc := cX4_looksFor) (maxL := 7) (ty := .int) (by decide) rfl (Nat.le_of_ble_eq_true rfl) (fun {p e s m args below meth c A} ls Q X hW hl hQ => ?_)
  have hx := X.x
  have hb := X.b
  have hl : lv_has ls 7 [(0, .int x0), (1, .int x1), (2, .long x2)] := hl
  unfold dnX4_looksFor at hd
  have K9 : ∀ (x1 : Int32) (x2 : Int64) (n : Nat) (x4 : Int32) (x5 : Int32) (x6 : Int32) (z : Nat × Int32 × Int32), lpX4_looksFor_9 x1 x2 n x4 x5 x6 = some z → ∀ (H : Heap) (locs : List Loc) (ls : Array Slot), Wd Dd A s.heap [] H locs → lv_has ls 7 [(1, .int x1), (2, .long x2), (4, .int x4), (5, .int x5), (6, .int x6)] → (∀ (H : Heap) (locs : List Loc) (ls : Array Slot), z.1 = 0 → Wd Dd A s.heap [] H locs → lv_has ls 7 [(4, .int z.2.1), (5, .int z.2.2)] → W p l e rmX4_looksFor s m args below meth c H locs 0 0 Q (F0 m 51 ls [])) → W p l e rmX4_looksFor s m args below meth c H locs 0 0 Q (F0 m 9 ls []) := by
    intro x1 x2 n
    induction n with
    | zero => intro x4 x5 x6 z hd; cases hd
    | succ n ih =>
      intro x4 x5 x6 z hd H locs ls hW hl kx0
      unfold lpX4_looksFor_9 at hd
      refine lv_iload hx hb dX4_looksFor_9 (lv_at hl 4 rfl) ?_
      refine lv_iload_n hx hb dX4_looksFor_11 rfl (lv_at hl 0 rfl) ?_
      refine lv_icmp_gt (tgt := 51) hx hb dX4_looksFor_12 (by decide) (fun c1 => ?_) (fun c1 => ?_)
      · replace hd := if_t c1 hd
        cases hd
        exact kx0 _ _ _ rfl hW (lv_sub hl [2, 3] rfl)
      · replace hd := if_f c1 hd
        refine lv_lload_n hx hb dX4_looksFor_15 rfl (lv_at hl 1 rfl) ?_
        refine lv_iload hx hb dX4_looksFor_16 (lv_at hl 4 rfl) ?_
        obtain ⟨r3, h2, hd⟩ := bp_e hd
        refine cSi_ (rest := []) X (kX4_isAmong l Dd Y x2 x6 r3 h2) (va_cwS 2 X.1.2.2.2.2 gX4_looksFor_X4_isAmong rfl rfl rfl (by decide +kernel) ⟨Nat.le_of_ble_eq_true rfl, Nat.le_of_ble_eq_true rfl⟩) hW rfl hl.1 rfl (Nat.le_of_ble_eq_true rfl) dX4_looksFor_18 ⟨Nat.zero_le _, Nat.zero_le _⟩ (fun H locs hW => ?_)
        refine lv_if_eq (tgt := 42) hx hb dX4_looksFor_21 (by decide) (fun c4 => ?_) (fun c4 => ?_)
        · replace hd := if_t c4 hd
          refine lv_iinc (v := x5 + 1) (lv' := [(5, .int (x5 + 1)), (1, .int x1), (2, .long x2), (4, .int x4), (6, .int x6)]) hx hb dX4_looksFor_42 hl (k := 3) rfl rfl (by decide) rfl (fun ls hl => ?_)
          refine lv_iinc (v := x6 + 1) (lv' := [(6, .int (x6 + 1)), (5, .int (x5 + 1)), (1, .int x1), (2, .long x2), (4, .int x4)]) hx hb dX4_looksFor_45 hl (k := 4) rfl rfl (by decide) rfl (fun ls hl => ?_)
          refine lv_goto (tgt := 9) hx hb dX4_looksFor_48 (by decide) ?_
          exact ih x4 (x5 + 1) (x6 + 1) z hd _ _ _ hW (lv_sub hl [2, 3, 4, 1, 0] rfl) kx0
        · replace hd := if_f c4 hd
          refine lv_iload hx hb dX4_looksFor_24 (lv_at hl 2 rfl) ?_
          refine lv_iload hx hb dX4_looksFor_26 (lv_at hl 3 rfl) ?_
          obtain ⟨r6, h5, hd⟩ := bp_e hd
          refine cSi_ (rest := [.int x4]) X (kX4_looksForRun l Dd Y x5 r6 h5) (va_cwS 1 X.1.2.2.2.2 gX4_looksFor_X4_looksForRun rfl rfl rfl (by decide +kernel) ⟨Nat.le_of_ble_eq_true rfl, Nat.le_of_ble_eq_true rfl⟩) hW rfl hl.1 rfl (Nat.le_of_ble_eq_true rfl) dX4_looksFor_28 ⟨Nat.zero_le _, Nat.zero_le _⟩ (fun H locs hW => ?_)
          refine lv_iconst (v := 1) hx hb dX4_looksFor_31 (by decide) ?_
          refine lv_iadd hx hb dX4_looksFor_32 ?_
          refine lv_iadd hx hb dX4_looksFor_33 ?_
          refine lv_istore (lv' := [(4, .int (x4 + (r6 + 1))), (1, .int x1), (2, .long x2), (5, .int x5), (6, .int x6)]) hx hb dX4_looksFor_34 hl (by decide) rfl (fun ls hl => ?_)
          refine lv_iconst (v := 0) hx hb dX4_looksFor_36 (by decide) ?_
          refine lv_istore (lv' := [(5, .int 0), (4, .int (x4 + (r6 + 1))), (1, .int x1), (2, .long x2), (6, .int x6)]) hx hb dX4_looksFor_37 hl (by decide) rfl (fun ls hl => ?_)
          refine lv_goto (tgt := 45) hx hb dX4_looksFor_39 (by decide) ?_
          refine lv_iinc (v := x6 + 1) (lv' := [(6, .int (x6 + 1)), (5, .int 0), (4, .int (x4 + (r6 + 1))), (1, .int x1), (2, .long x2)]) hx hb dX4_looksFor_45 hl (k := 4) rfl rfl (by decide) rfl (fun ls hl => ?_)
          refine lv_goto (tgt := 9) hx hb dX4_looksFor_48 (by decide) ?_
          exact ih (x4 + (r6 + 1)) 0 (x6 + 1) z hd _ _ _ hW (lv_sub hl [3, 4, 2, 1, 0] rfl) kx0
  refine lv_iconst (v := 0) hx hb dX4_looksFor_0 (by decide) ?_
  refine lv_istore (lv' := [(4, .int 0), (0, .int x0), (1, .int x1), (2, .long x2)]) hx hb dX4_looksFor_1 hl (by decide) rfl (fun ls hl => ?_)
  refine lv_iconst (v := 0) hx hb dX4_looksFor_3 (by decide) ?_
  refine lv_istore (lv' := [(5, .int 0), (4, .int 0), (0, .int x0), (1, .int x1), (2, .long x2)]) hx hb dX4_looksFor_4 hl (by decide) rfl (fun ls hl => ?_)
  refine lv_iload_n hx hb dX4_looksFor_6 rfl (lv_at hl 2 rfl) ?_
  refine lv_istore (lv' := [(6, .int x0), (5, .int 0), (4, .int 0), (0, .int x0), (1, .int x1), (2, .long x2)]) hx hb dX4_looksFor_7 hl (by decide) rfl (fun ls hl => ?_)
  obtain ⟨z9_6, hz9_6, hd⟩ := bp_e hd
  refine K9 x1 x2 FU 0 0 x0 z9_6 hz9_6 _ _ _ hW (lv_sub hl [4, 5, 2, 1, 0] rfl) (fun H locs ls e9 hW hl => ?_)
  refine lv_iload hx hb dX4_looksFor_51 (lv_at hl 0 rfl) ?_
  refine lv_iload hx hb dX4_looksFor_53 (lv_at hl 1 rfl) ?_
  obtain ⟨r9, h8, hd⟩ := bp_e hd
  refine cSi_ (rest := [.int z9_6.2.1]) X (kX4_looksForRun l Dd Y z9_6.2.2 r9 h8) (va_cwS 1 X.1.2.2.2.2 gX4_looksFor_X4_looksForRun rfl rfl rfl (by decide +kernel) ⟨Nat.le_of_ble_eq_true rfl, Nat.le_of_ble_eq_true rfl⟩) hW rfl hl.1 rfl (Nat.le_of_ble_eq_true rfl) dX4_looksFor_55 ⟨Nat.zero_le _, Nat.zero_le _⟩ (fun H locs hW => ?_)
  refine lv_iadd hx hb dX4_looksFor_58 ?_
  have hd := Option.some.inj hd
  subst hd
  exact hQ _ _ _ _ rfl hW dX4_looksFor_59
abbrev rmX1_question : Room := { frames := 4, cells := 0, slots := 0, locals := 91 }
set_option maxRecDepth 100000 in
set_option maxHeartbeats 4000000 in
theorem kX1_question (l : Launch) (Dd : va_G) (Y : yT) (ad : Nat → Nat) (G : gR) (x1 : Int32) (x2 : Int32) (r : Int32) (G' : gR) (hd : dnX1_question G x1 x2 = some (r, G')) : MG l yX1_question wsX1_question rmX1_question Dd Y [.ref (ad 0), .int x1, .int x2] (WR Y ad G) (WR Y ad G') (some (.int r)) := by
  refine MGi (cc := cX1_question) (maxL := 3) (ty := .int) (by decide) rfl (Nat.le_of_ble_eq_true rfl) (fun {p e s m args below meth c A} ls Q X hW hl hQ => ?_)
  have hx := X.x
  have hb := X.b
  have hl : lv_has ls 3 [(0, .ref (ad 0)), (1, .int x1), (2, .int x2)] := hl
  have hinX1 : ∀ w ∈ wsX10, w ∈ wsX1_question := fun w h => List.mem_cons_of_mem _ (List.mem_append_right _ h)
  unfold dnX1_question at hd
  refine lv_aload_n hx hb dX1_question_0 rfl (lv_at hl 0 rfl) ?_
  obtain ⟨r2, h1, hd⟩ := bp_e hd
  refine cVi_ (rest := []) X (kX1_isBuiltByQuestion l Dd Y ad G r2 h1) (cwV 0 X.1.2.2.2.2 gX1_question_X1_isBuiltByQuestion rfl rfl rfl (by decide +kernel) ⟨Nat.le_of_ble_eq_true rfl, Nat.le_of_ble_eq_true rfl⟩) hW 0 1 rfl rfl rfl rfl hl.1 rfl (Nat.le_of_ble_eq_true rfl) dX1_question_1 ⟨Nat.zero_le _, Nat.zero_le _⟩ (fun H locs hW => ?_)
  refine lv_if_eq (tgt := 11) hx hb dX1_question_4 (by decide) (fun c3 => ?_) (fun c3 => ?_)
  · replace hd := if_t c3 hd
    refine lv_aload_n hx hb dX1_question_11 rfl (lv_at hl 0 rfl) ?_
    refine lv_dup hx hb dX1_question_12 rfl ?_
    refine g_ X hinX1 hW 0 rfl rfl 9 (by decide) 1 rfl rfl rfl dX1_question_13 ?_
    refine lv_iconst (v := 1) hx hb dX1_question_16 (by decide) ?_
    refine lv_iadd hx hb dX1_question_17 ?_
    obtain ⟨G4, eG4, hd⟩ := bw_e hd
    refine p_ (ty := .int) X hinX1 tyX1 tyX1_ok nmX1 hW 0 rfl rfl 9 (by decide) 1 rfl rfl rfl (by decide +kernel) rfl rfl (Nat.le_of_ble_eq_true rfl) dX1_question_18 (ws' := (WR Y ad G4)) (by rw [eG4]; rfl) (fun H locs hW => ?_)
    refine lv_aload_n hx hb dX1_question_21 rfl (lv_at hl 0 rfl) ?_
    refine lv_dup hx hb dX1_question_22 rfl ?_
    refine g_ X hinX1 hW 0 rfl rfl 7 (by decide) 2 rfl rfl rfl dX1_question_23 ?_
    refine lv_iload_n hx hb dX1_question_26 rfl (lv_at hl 1 rfl) ?_
    refine lv_iload_n hx hb dX1_question_27 rfl (lv_at hl 2 rfl) ?_
    refine lv_aload_n hx hb dX1_question_28 rfl (lv_at hl 0 rfl) ?_
    refine g_ X hinX1 hW 0 rfl rfl 6 (by decide) 3 rfl rfl rfl dX1_question_29 ?_
    obtain ⟨r6, h5, hd⟩ := bp_e hd
    refine cSNi_ (rest := [.int (G4.1 0 7), .ref (ad 0)]) X (kX4_looksFor l Dd Y x1 x2 G4.2 r6 h5) ⟨va_cnB 3 X.1.2.2.2.2 ggX1_question_X4_looksFor rfl rfl rfl X.2.2.2.1.1.2.2.1 (X.w (i := 31) rfl) (by decide +kernel) ⟨Nat.le_of_ble_eq_true rfl, Nat.le_of_ble_eq_true rfl⟩, X.w (i := 45) rfl, trivial⟩ hW rfl hl.1 rfl (Nat.le_of_ble_eq_true rfl) dX1_question_32 ⟨Nat.zero_le _, Nat.zero_le _⟩ (fun H locs hW => ?_)
    refine lv_iadd hx hb dX1_question_35 ?_
    obtain ⟨G7, eG7, hd⟩ := bw_e hd
    refine p_ (ty := .int) X hinX1 tyX1 tyX1_ok nmX1 hW 0 rfl rfl 7 (by decide) 2 rfl rfl rfl (by decide +kernel) rfl rfl (Nat.le_of_ble_eq_true rfl) dX1_question_36 (ws' := (WR Y ad G7)) (by rw [eG7]; rfl) (fun H locs hW => ?_)
    refine lv_aload_n hx hb dX1_question_39 rfl (lv_at hl 0 rfl) ?_
    refine lv_iload_n hx hb dX1_question_40 rfl (lv_at hl 1 rfl) ?_
    refine lv_iload_n hx hb dX1_question_41 rfl (lv_at hl 2 rfl) ?_
    obtain ⟨r9, h8, hd⟩ := bp_e hd
    refine cVi_ (rest := []) X (kX1_leastByLooks l Dd Y ad G7 x1 x2 r9 h8) (cwV 2 X.1.2.2.2.2 gX1_question_X1_leastByLooks rfl rfl rfl (by decide +kernel) ⟨Nat.le_of_ble_eq_true rfl, Nat.le_of_ble_eq_true rfl⟩) hW 0 1 rfl rfl rfl rfl hl.1 rfl (Nat.le_of_ble_eq_true rfl) dX1_question_42 ⟨Nat.zero_le _, Nat.zero_le _⟩ (fun H locs hW => ?_)
    obtain ⟨rfl, rfl⟩ := Prod.mk.inj (Option.some.inj hd)
    exact hQ _ _ _ _ rfl hW dX1_question_45
  · replace hd := if_f c3 hd
    refine lv_aload_n hx hb dX1_question_7 rfl (lv_at hl 0 rfl) ?_
    obtain ⟨G11, h10, hd⟩ := bp_e hd
    refine cVv_ (rest := []) X (kX1_buildAll l Dd Y ad G G11 h10) (cwV 0 X.1.2.2.2.2 gX1_question_X1_buildAll rfl rfl rfl (by decide +kernel) ⟨Nat.le_of_ble_eq_true rfl, Nat.le_of_ble_eq_true rfl⟩) hW 0 1 rfl rfl rfl rfl hl.1 rfl (Nat.le_of_ble_eq_true rfl) dX1_question_8 ⟨Nat.zero_le _, Nat.zero_le _⟩ (fun H locs hW => ?_)
    refine lv_aload_n hx hb dX1_question_11 rfl (lv_at hl 0 rfl) ?_
    refine lv_dup hx hb dX1_question_12 rfl ?_
    refine g_ X hinX1 hW 0 rfl rfl 9 (by decide) 1 rfl rfl rfl dX1_question_13 ?_
    refine lv_iconst (v := 1) hx hb dX1_question_16 (by decide) ?_
    refine lv_iadd hx hb dX1_question_17 ?_
    obtain ⟨G12, eG12, hd⟩ := bw_e hd
    refine p_ (ty := .int) X hinX1 tyX1 tyX1_ok nmX1 hW 0 rfl rfl 9 (by decide) 1 rfl rfl rfl (by decide +kernel) rfl rfl (Nat.le_of_ble_eq_true rfl) dX1_question_18 (ws' := (WR Y ad G12)) (by rw [eG12]; rfl) (fun H locs hW => ?_)
    refine lv_aload_n hx hb dX1_question_21 rfl (lv_at hl 0 rfl) ?_
    refine lv_dup hx hb dX1_question_22 rfl ?_
    refine g_ X hinX1 hW 0 rfl rfl 7 (by decide) 2 rfl rfl rfl dX1_question_23 ?_
    refine lv_iload_n hx hb dX1_question_26 rfl (lv_at hl 1 rfl) ?_
    refine lv_iload_n hx hb dX1_question_27 rfl (lv_at hl 2 rfl) ?_
    refine lv_aload_n hx hb dX1_question_28 rfl (lv_at hl 0 rfl) ?_
    refine g_ X hinX1 hW 0 rfl rfl 6 (by decide) 3 rfl rfl rfl dX1_question_29 ?_
    obtain ⟨r14, h13, hd⟩ := bp_e hd
    refine cSNi_ (rest := [.int (G12.1 0 7), .ref (ad 0)]) X (kX4_looksFor l Dd Y x1 x2 G12.2 r14 h13) ⟨va_cnB 3 X.1.2.2.2.2 ggX1_question_X4_looksFor rfl rfl rfl X.2.2.2.1.1.2.2.1 (X.w (i := 31) rfl) (by decide +kernel) ⟨Nat.le_of_ble_eq_true rfl, Nat.le_of_ble_eq_true rfl⟩, X.w (i := 45) rfl, trivial⟩ hW rfl hl.1 rfl (Nat.le_of_ble_eq_true rfl) dX1_question_32 ⟨Nat.zero_le _, Nat.zero_le _⟩ (fun H locs hW => ?_)
    refine lv_iadd hx hb dX1_question_35 ?_
    obtain ⟨G15, eG15, hd⟩ := bw_e hd
    refine p_ (ty := .int) X hinX1 tyX1 tyX1_ok nmX1 hW 0 rfl rfl 7 (by decide) 2 rfl rfl rfl (by decide +kernel) rfl rfl (Nat.le_of_ble_eq_true rfl) dX1_question_36 (ws' := (WR Y ad G15)) (by rw [eG15]; rfl) (fun H locs hW => ?_)
    refine lv_aload_n hx hb dX1_question_39 rfl (lv_at hl 0 rfl) ?_
    refine lv_iload_n hx hb dX1_question_40 rfl (lv_at hl 1 rfl) ?_
    refine lv_iload_n hx hb dX1_question_41 rfl (lv_at hl 2 rfl) ?_
    obtain ⟨r17, h16, hd⟩ := bp_e hd
    refine cVi_ (rest := []) X (kX1_leastByLooks l Dd Y ad G15 x1 x2 r17 h16) (cwV 2 X.1.2.2.2.2 gX1_question_X1_leastByLooks rfl rfl rfl (by decide +kernel) ⟨Nat.le_of_ble_eq_true rfl, Nat.le_of_ble_eq_true rfl⟩) hW 0 1 rfl rfl rfl rfl hl.1 rfl (Nat.le_of_ble_eq_true rfl) dX1_question_42 ⟨Nat.zero_le _, Nat.zero_le _⟩ (fun H locs hW => ?_)
    obtain ⟨rfl, rfl⟩ := Prod.mk.inj (Option.some.inj hd)
    exact hQ _ _ _ _ rfl hW dX1_question_45
abbrev rmJ13_bitCount_95d88 : Room := { frames := 0, cells := 0, slots := 0, locals := 0 }
set_option maxRecDepth 100000 in
set_option maxHeartbeats 4000000 in
theorem kJ13_bitCount_95d88 (l : Launch) (Dd : va_G) (Y : yT) (x0 : Int64) (r : Int32) (hd : dnJ13_bitCount_95d88 x0 = some r) : MG l yJ13_bitCount_95d88 wsJ13_bitCount_95d88 rmJ13_bitCount_95d88 Dd Y [.long x0] [] [] (some (.int r)) := by
  refine MGi (cc := cJ13_bitCount_95d88) (maxL := 2) (ty := .int) (by decide) rfl (Nat.le_of_ble_eq_true rfl) (fun {p e s m args below meth c A} ls Q X hW hl hQ => ?_)
  have hx := X.x
  have hb := X.b
  have hl : lv_has ls 2 [(0, .long x0)] := hl
  unfold dnJ13_bitCount_95d88 at hd
  refine lv_lload_n hx hb dJ13_bitCount_95d88_0 rfl (lv_at hl 0 rfl) ?_
  refine lv_lload_n hx hb dJ13_bitCount_95d88_1 rfl (lv_at hl 0 rfl) ?_
  refine lv_iconst (v := 1) hx hb dJ13_bitCount_95d88_2 (by decide) ?_
  refine lv_lushr (v := (x0.toUInt64 >>> ((1 : Int32).toInt64.toUInt64 &&& Int64.toUInt64 63)).toInt64) hx hb dJ13_bitCount_95d88_3 rfl ?_
  refine lv_ldc2 hx hb X.1.2.2.2.1 (X.w (i := 1) rfl) dJ13_bitCount_95d88_4 ?_
  refine lv_land hx hb dJ13_bitCount_95d88_7 ?_
  refine lv_lsub hx hb dJ13_bitCount_95d88_8 ?_
  obtain ⟨y1, ey1, hd⟩ := bw_e hd
  rw [← ey1]
  refine lv_lstore_n (lv' := [(0, .long y1)]) hx hb dJ13_bitCount_95d88_9 rfl hl (by decide) rfl (fun ls hl => ?_)
  refine lv_lload_n hx hb dJ13_bitCount_95d88_10 rfl (lv_at hl 0 rfl) ?_
  refine lv_ldc2 hx hb X.1.2.2.2.1 (X.w (i := 2) rfl) dJ13_bitCount_95d88_11 ?_
  refine lv_land hx hb dJ13_bitCount_95d88_14 ?_
  refine lv_lload_n hx hb dJ13_bitCount_95d88_15 rfl (lv_at hl 0 rfl) ?_
  refine lv_iconst (v := 2) hx hb dJ13_bitCount_95d88_16 (by decide) ?_
  refine lv_lushr (v := (y1.toUInt64 >>> ((2 : Int32).toInt64.toUInt64 &&& Int64.toUInt64 63)).toInt64) hx hb dJ13_bitCount_95d88_17 rfl ?_
  refine lv_ldc2 hx hb X.1.2.2.2.1 (X.w (i := 2) rfl) dJ13_bitCount_95d88_18 ?_
  refine lv_land hx hb dJ13_bitCount_95d88_21 ?_
  refine lv_ladd hx hb dJ13_bitCount_95d88_22 ?_
  obtain ⟨y2, ey2, hd⟩ := bw_e hd
  rw [← ey2]
  refine lv_lstore_n (lv' := [(0, .long y2)]) hx hb dJ13_bitCount_95d88_23 rfl hl (by decide) rfl (fun ls hl => ?_)
  refine lv_lload_n hx hb dJ13_bitCount_95d88_24 rfl (lv_at hl 0 rfl) ?_
  refine lv_lload_n hx hb dJ13_bitCount_95d88_25 rfl (lv_at hl 0 rfl) ?_
  refine lv_iconst (v := 4) hx hb dJ13_bitCount_95d88_26 (by decide) ?_
  refine lv_lushr (v := (y2.toUInt64 >>> ((4 : Int32).toInt64.toUInt64 &&& Int64.toUInt64 63)).toInt64) hx hb dJ13_bitCount_95d88_27 rfl ?_
  refine lv_ladd hx hb dJ13_bitCount_95d88_28 ?_
  refine lv_ldc2 hx hb X.1.2.2.2.1 (X.w (i := 3) rfl) dJ13_bitCount_95d88_29 ?_
  refine lv_land hx hb dJ13_bitCount_95d88_32 ?_
  obtain ⟨y3, ey3, hd⟩ := bw_e hd
  rw [← ey3]
  refine lv_lstore_n (lv' := [(0, .long y3)]) hx hb dJ13_bitCount_95d88_33 rfl hl (by decide) rfl (fun ls hl => ?_)
  refine lv_lload_n hx hb dJ13_bitCount_95d88_34 rfl (lv_at hl 0 rfl) ?_
  refine lv_lload_n hx hb dJ13_bitCount_95d88_35 rfl (lv_at hl 0 rfl) ?_
  refine lv_bipush (v := 8) hx hb dJ13_bitCount_95d88_36 (by decide) ?_
  refine lv_lushr (v := (y3.toUInt64 >>> ((8 : Int32).toInt64.toUInt64 &&& Int64.toUInt64 63)).toInt64) hx hb dJ13_bitCount_95d88_38 rfl ?_
  refine lv_ladd hx hb dJ13_bitCount_95d88_39 ?_
  obtain ⟨y4, ey4, hd⟩ := bw_e hd
  rw [← ey4]
  refine lv_lstore_n (lv' := [(0, .long y4)]) hx hb dJ13_bitCount_95d88_40 rfl hl (by decide) rfl (fun ls hl => ?_)
  refine lv_lload_n hx hb dJ13_bitCount_95d88_41 rfl (lv_at hl 0 rfl) ?_
  refine lv_lload_n hx hb dJ13_bitCount_95d88_42 rfl (lv_at hl 0 rfl) ?_
  refine lv_bipush (v := 16) hx hb dJ13_bitCount_95d88_43 (by decide) ?_
  refine lv_lushr (v := (y4.toUInt64 >>> ((16 : Int32).toInt64.toUInt64 &&& Int64.toUInt64 63)).toInt64) hx hb dJ13_bitCount_95d88_45 rfl ?_
  refine lv_ladd hx hb dJ13_bitCount_95d88_46 ?_
  obtain ⟨y5, ey5, hd⟩ := bw_e hd
  rw [← ey5]
  refine lv_lstore_n (lv' := [(0, .long y5)]) hx hb dJ13_bitCount_95d88_47 rfl hl (by decide) rfl (fun ls hl => ?_)
  refine lv_lload_n hx hb dJ13_bitCount_95d88_48 rfl (lv_at hl 0 rfl) ?_
  refine lv_lload_n hx hb dJ13_bitCount_95d88_49 rfl (lv_at hl 0 rfl) ?_
  refine lv_bipush (v := 32) hx hb dJ13_bitCount_95d88_50 (by decide) ?_
  refine lv_lushr (v := (y5.toUInt64 >>> ((32 : Int32).toInt64.toUInt64 &&& Int64.toUInt64 63)).toInt64) hx hb dJ13_bitCount_95d88_52 rfl ?_
  refine lv_ladd hx hb dJ13_bitCount_95d88_53 ?_
  obtain ⟨y6, ey6, hd⟩ := bw_e hd
  rw [← ey6]
  refine lv_lstore_n (lv' := [(0, .long y6)]) hx hb dJ13_bitCount_95d88_54 rfl hl (by decide) rfl (fun ls hl => ?_)
  refine lv_lload_n hx hb dJ13_bitCount_95d88_55 rfl (lv_at hl 0 rfl) ?_
  refine lv_l2i (v := y6.toInt32) hx hb dJ13_bitCount_95d88_56 rfl ?_
  refine lv_bipush (v := 127) hx hb dJ13_bitCount_95d88_57 (by decide) ?_
  refine lv_iand hx hb dJ13_bitCount_95d88_59 ?_
  have hd := Option.some.inj hd
  subst hd
  exact hQ _ _ _ _ rfl hW dJ13_bitCount_95d88_60
abbrev rmX1_store : Room := { frames := 0, cells := 0, slots := 0, locals := 0 }
set_option maxRecDepth 100000 in
set_option maxHeartbeats 4000000 in
theorem kX1_store (l : Launch) (Dd : va_G) (Y : yT) (ad : Nat → Nat) (G : gR) (x1 : Int32) (x2 : Int32) (G' : gR) (hd : dnX1_store G x1 x2 = some G') : MG l yX1_store wsX1_store rmX1_store Dd Y [.ref (ad 0), .int x1, .int x2] (WR Y ad G) (WR Y ad G') none := by
  refine MGv (cc := cX1_store) (maxL := 3) (by decide) rfl (Nat.le_of_ble_eq_true rfl) (fun {p e s m args below meth c A} ls Q X hW hl hQ => ?_)
  have hx := X.x
  have hb := X.b
  have hl : lv_has ls 3 [(0, .ref (ad 0)), (1, .int x1), (2, .int x2)] := hl
  have hinX1 : ∀ w ∈ wsX10, w ∈ wsX1_store := fun w h => List.mem_cons_of_mem _ (List.mem_append_right _ h)
  unfold dnX1_store at hd
  refine lv_iload_n hx hb dX1_store_0 rfl (lv_at hl 1 rfl) ?_
  refine lv_if_lt (tgt := 20) hx hb dX1_store_1 (by decide) (fun c1 => ?_) (fun c1 => ?_)
  · replace hd := if_t c1 hd
    obtain rfl := Option.some.inj hd
    exact hQ _ _ _ _ hW dX1_store_20
  · replace hd := if_f c1 hd
    refine lv_iload_n hx hb dX1_store_4 rfl (lv_at hl 1 rfl) ?_
    refine lv_aload_n hx hb dX1_store_5 rfl (lv_at hl 0 rfl) ?_
    refine g_ X hinX1 hW 0 rfl rfl 0 (by decide) 1 rfl rfl rfl dX1_store_6 ?_
    refine len_ (v := 40) X hW 1 0 rfl rfl rfl dX1_store_9 ?_
    refine lv_icmp_ge (tgt := 20) hx hb dX1_store_10 (by decide) (fun c2 => ?_) (fun c2 => ?_)
    · replace hd := if_t c2 hd
      obtain rfl := Option.some.inj hd
      exact hQ _ _ _ _ hW dX1_store_20
    · replace hd := if_f c2 hd
      refine lv_aload_n hx hb dX1_store_13 rfl (lv_at hl 0 rfl) ?_
      refine g_ X hinX1 hW 0 rfl rfl 0 (by decide) 1 rfl rfl rfl dX1_store_14 ?_
      refine lv_iload_n hx hb dX1_store_17 rfl (lv_at hl 1 rfl) ?_
      refine lv_iload_n hx hb dX1_store_18 rfl (lv_at hl 2 rfl) ?_
      obtain ⟨hi3, hd⟩ := wi_e hd
      obtain ⟨G4, eG4, hd⟩ := bw_e hd
      refine s_ X hW 1 rfl rfl hi3 dX1_store_19 (ws' := (WR Y ad G4)) (by rw [eG4]; rfl) (fun H locs hW => ?_)
      obtain rfl := Option.some.inj hd
      exact hQ _ _ _ _ hW dX1_store_20
abbrev rmX1_change : Room := { frames := 4, cells := 0, slots := 0, locals := 90 }
set_option maxRecDepth 100000 in
set_option maxHeartbeats 4000000 in
theorem kX1_change (l : Launch) (Dd : va_G) (Y : yT) (ad : Nat → Nat) (G : gR) (x1 : Int32) (x2 : Int32) (r : Int32) (G' : gR) (hd : dnX1_change G x1 x2 = some (r, G')) : MG l yX1_change wsX1_change rmX1_change Dd Y [.ref (ad 0), .int x1, .int x2] (WR Y ad G) (WR Y ad G') (some (.int r)) := by
  refine MGi (cc := cX1_change) (maxL := 4) (ty := .int) (by decide) rfl (Nat.le_of_ble_eq_true rfl) (fun {p e s m args below meth c A} ls Q X hW hl hQ => ?_)
  have hx := X.x
  have hb := X.b
  have hl : lv_has ls 4 [(0, .ref (ad 0)), (1, .int x1), (2, .int x2)] := hl
  have hinX1 : ∀ w ∈ wsX10, w ∈ wsX1_change := fun w h => List.mem_cons_of_mem _ (List.mem_append_right _ h)
  unfold dnX1_change at hd
  refine lv_aload_n hx hb dX1_change_0 rfl (lv_at hl 0 rfl) ?_
  refine lv_iload_n hx hb dX1_change_1 rfl (lv_at hl 1 rfl) ?_
  obtain ⟨r2, h1, hd⟩ := bp_e hd
  refine cVi_ (rest := []) X (kX1_valueAt l Dd Y ad G x1 r2 h1) (cwV 1 X.1.2.2.2.2 gX1_change_X1_valueAt rfl rfl rfl (by decide +kernel) ⟨Nat.le_of_ble_eq_true rfl, Nat.le_of_ble_eq_true rfl⟩) hW 0 1 rfl rfl rfl rfl hl.1 rfl (Nat.le_of_ble_eq_true rfl) dX1_change_2 ⟨Nat.zero_le _, Nat.zero_le _⟩ (fun H locs hW => ?_)
  refine lv_istore_n (lv' := [(3, .int r2), (0, .ref (ad 0)), (1, .int x1), (2, .int x2)]) hx hb dX1_change_5 rfl hl (by decide) rfl (fun ls hl => ?_)
  refine lv_aload_n hx hb dX1_change_6 rfl (lv_at hl 1 rfl) ?_
  refine lv_iload_n hx hb dX1_change_7 rfl (lv_at hl 2 rfl) ?_
  refine lv_iload_n hx hb dX1_change_8 rfl (lv_at hl 3 rfl) ?_
  obtain ⟨G4, h3, hd⟩ := bp_e hd
  refine cVv_ (rest := []) X (kX1_store l Dd Y ad G x1 x2 G4 h3) (cwV 2 X.1.2.2.2.2 gX1_change_X1_store rfl rfl rfl (by decide +kernel) ⟨Nat.le_of_ble_eq_true rfl, Nat.le_of_ble_eq_true rfl⟩) hW 0 1 rfl rfl rfl rfl hl.1 rfl (Nat.le_of_ble_eq_true rfl) dX1_change_9 ⟨Nat.zero_le _, Nat.zero_le _⟩ (fun H locs hW => ?_)
  refine lv_aload_n hx hb dX1_change_12 rfl (lv_at hl 1 rfl) ?_
  refine g_ X hinX1 hW 0 rfl rfl 4 (by decide) 1 rfl rfl rfl dX1_change_13 ?_
  refine lv_iconst (v := 1) hx hb dX1_change_16 (by decide) ?_
  refine lv_icmp_ne (tgt := 29) hx hb dX1_change_17 (by decide) (fun c5 => ?_) (fun c5 => ?_)
  · replace hd := if_f c5 hd
    refine lv_aload_n hx hb dX1_change_29 rfl (lv_at hl 1 rfl) ?_
    refine lv_dup hx hb dX1_change_30 rfl ?_
    refine g_ X hinX1 hW 0 rfl rfl 6 (by decide) 2 rfl rfl rfl dX1_change_31 ?_
    refine lv_lconst (v := 1) hx hb dX1_change_34 (by decide) ?_
    refine lv_iload_n hx hb dX1_change_35 rfl (lv_at hl 2 rfl) ?_
    refine lv_lshl (v := (1 : Int64) <<< (x1.toInt64 &&& 63)) hx hb dX1_change_36 rfl ?_
    refine lv_lor hx hb dX1_change_37 ?_
    obtain ⟨G6, eG6, hd⟩ := bw_e hd
    refine p_ (ty := .long) X hinX1 tyX1 tyX1_ok nmX1 hW 0 rfl rfl 6 (by decide) 2 rfl rfl rfl (by decide +kernel) rfl rfl (Nat.le_of_ble_eq_true rfl) dX1_change_38 (ws' := (WR Y ad G6)) (by rw [eG6]; rfl) (fun H locs hW => ?_)
    refine lv_aload_n hx hb dX1_change_41 rfl (lv_at hl 1 rfl) ?_
    refine g_ X hinX1 hW 0 rfl rfl 4 (by decide) 1 rfl rfl rfl dX1_change_42 ?_
    refine lv_iconst (v := 2) hx hb dX1_change_45 (by decide) ?_
    refine lv_icmp_ne (tgt := 67) hx hb dX1_change_46 (by decide) (fun c7 => ?_) (fun c7 => ?_)
    · replace hd := if_f c7 hd
      refine lv_iload_n hx hb dX1_change_67 rfl (lv_at hl 0 rfl) ?_
      obtain ⟨rfl, rfl⟩ := Prod.mk.inj (Option.some.inj hd)
      exact hQ _ _ _ _ rfl hW dX1_change_68
    · replace hd := if_t c7 hd
      refine lv_aload_n hx hb dX1_change_49 rfl (lv_at hl 1 rfl) ?_
      refine g_ X hinX1 hW 0 rfl rfl 6 (by decide) 2 rfl rfl rfl dX1_change_50 ?_
      obtain ⟨r9, h8, hd⟩ := bp_e hd
      refine cSi_ (rest := []) X (kJ13_bitCount_95d88 l Dd Y G6.2 r9 h8) (va_cwS 1 X.1.2.2.2.2 gX1_change_J13_bitCount_95d88 rfl rfl rfl (by decide +kernel) ⟨Nat.le_of_ble_eq_true rfl, Nat.le_of_ble_eq_true rfl⟩) hW rfl hl.1 rfl (Nat.le_of_ble_eq_true rfl) dX1_change_53 ⟨Nat.zero_le _, Nat.zero_le _⟩ (fun H locs hW => ?_)
      refine lv_aload_n hx hb dX1_change_56 rfl (lv_at hl 1 rfl) ?_
      refine g_ X hinX1 hW 0 rfl rfl 5 (by decide) 3 rfl rfl rfl dX1_change_57 ?_
      refine lv_icmp_le (tgt := 67) hx hb dX1_change_60 (by decide) (fun c10 => ?_) (fun c10 => ?_)
      · replace hd := if_t c10 hd
        refine lv_iload_n hx hb dX1_change_67 rfl (lv_at hl 0 rfl) ?_
        obtain ⟨rfl, rfl⟩ := Prod.mk.inj (Option.some.inj hd)
        exact hQ _ _ _ _ rfl hW dX1_change_68
      · replace hd := if_f c10 hd
        refine lv_aload_n hx hb dX1_change_63 rfl (lv_at hl 1 rfl) ?_
        obtain ⟨G12, h11, hd⟩ := bp_e hd
        refine cVv_ (rest := []) X (kX1_buildAll l Dd Y ad G6 G12 h11) (cwV 0 X.1.2.2.2.2 gX1_change_X1_buildAll rfl rfl rfl (by decide +kernel) ⟨Nat.le_of_ble_eq_true rfl, Nat.le_of_ble_eq_true rfl⟩) hW 0 1 rfl rfl rfl rfl hl.1 rfl (Nat.le_of_ble_eq_true rfl) dX1_change_64 ⟨Nat.zero_le _, Nat.zero_le _⟩ (fun H locs hW => ?_)
        refine lv_iload_n hx hb dX1_change_67 rfl (lv_at hl 0 rfl) ?_
        obtain ⟨rfl, rfl⟩ := Prod.mk.inj (Option.some.inj hd)
        exact hQ _ _ _ _ rfl hW dX1_change_68
  · replace hd := if_t c5 hd
    refine lv_aload_n hx hb dX1_change_20 rfl (lv_at hl 1 rfl) ?_
    refine lv_iload_n hx hb dX1_change_21 rfl (lv_at hl 2 rfl) ?_
    refine lv_iload_n hx hb dX1_change_22 rfl (lv_at hl 2 rfl) ?_
    obtain ⟨G14, h13, hd⟩ := bp_e hd
    refine cVv_ (rest := []) X (kX1_writeCellsOver l Dd Y ad G4 x1 x1 G14 h13) (cwV 2 X.1.2.2.2.2 gX1_change_X1_writeCellsOver rfl rfl rfl (by decide +kernel) ⟨Nat.le_of_ble_eq_true rfl, Nat.le_of_ble_eq_true rfl⟩) hW 0 1 rfl rfl rfl rfl hl.1 rfl (Nat.le_of_ble_eq_true rfl) dX1_change_23 ⟨Nat.zero_le _, Nat.zero_le _⟩ (fun H locs hW => ?_)
    refine lv_goto (tgt := 41) hx hb dX1_change_26 (by decide) ?_
    refine lv_aload_n hx hb dX1_change_41 rfl (lv_at hl 1 rfl) ?_
    refine g_ X hinX1 hW 0 rfl rfl 4 (by decide) 1 rfl rfl rfl dX1_change_42 ?_
    refine lv_iconst (v := 2) hx hb dX1_change_45 (by decide) ?_
    refine lv_icmp_ne (tgt := 67) hx hb dX1_change_46 (by decide) (fun c15 => ?_) (fun c15 => ?_)
    · replace hd := if_f c15 hd
      refine lv_iload_n hx hb dX1_change_67 rfl (lv_at hl 0 rfl) ?_
      obtain ⟨rfl, rfl⟩ := Prod.mk.inj (Option.some.inj hd)
      exact hQ _ _ _ _ rfl hW dX1_change_68
    · replace hd := if_t c15 hd
      refine lv_aload_n hx hb dX1_change_49 rfl (lv_at hl 1 rfl) ?_
      refine g_ X hinX1 hW 0 rfl rfl 6 (by decide) 2 rfl rfl rfl dX1_change_50 ?_
      obtain ⟨r17, h16, hd⟩ := bp_e hd
      refine cSi_ (rest := []) X (kJ13_bitCount_95d88 l Dd Y G14.2 r17 h16) (va_cwS 1 X.1.2.2.2.2 gX1_change_J13_bitCount_95d88 rfl rfl rfl (by decide +kernel) ⟨Nat.le_of_ble_eq_true rfl, Nat.le_of_ble_eq_true rfl⟩) hW rfl hl.1 rfl (Nat.le_of_ble_eq_true rfl) dX1_change_53 ⟨Nat.zero_le _, Nat.zero_le _⟩ (fun H locs hW => ?_)
      refine lv_aload_n hx hb dX1_change_56 rfl (lv_at hl 1 rfl) ?_
      refine g_ X hinX1 hW 0 rfl rfl 5 (by decide) 3 rfl rfl rfl dX1_change_57 ?_
      refine lv_icmp_le (tgt := 67) hx hb dX1_change_60 (by decide) (fun c18 => ?_) (fun c18 => ?_)
      · replace hd := if_t c18 hd
        refine lv_iload_n hx hb dX1_change_67 rfl (lv_at hl 0 rfl) ?_
        obtain ⟨rfl, rfl⟩ := Prod.mk.inj (Option.some.inj hd)
        exact hQ _ _ _ _ rfl hW dX1_change_68
      · replace hd := if_f c18 hd
        refine lv_aload_n hx hb dX1_change_63 rfl (lv_at hl 1 rfl) ?_
        obtain ⟨G20, h19, hd⟩ := bp_e hd
        refine cVv_ (rest := []) X (kX1_buildAll l Dd Y ad G14 G20 h19) (cwV 0 X.1.2.2.2.2 gX1_change_X1_buildAll rfl rfl rfl (by decide +kernel) ⟨Nat.le_of_ble_eq_true rfl, Nat.le_of_ble_eq_true rfl⟩) hW 0 1 rfl rfl rfl rfl hl.1 rfl (Nat.le_of_ble_eq_true rfl) dX1_change_64 ⟨Nat.zero_le _, Nat.zero_le _⟩ (fun H locs hW => ?_)
        refine lv_iload_n hx hb dX1_change_67 rfl (lv_at hl 0 rfl) ?_
        obtain ⟨rfl, rfl⟩ := Prod.mk.inj (Option.some.inj hd)
        exact hQ _ _ _ _ rfl hW dX1_change_68
abbrev rmX3_fromAt : Room := { frames := 0, cells := 0, slots := 0, locals := 0 }
set_option maxRecDepth 100000 in
set_option maxHeartbeats 4000000 in
theorem kX3_fromAt (l : Launch) (Dd : va_G) (Y : yT) (ad : Nat → Nat) (G : gR) (x1 : Int32) (r : Int32) (hd : dnX3_fromAt G x1 = some r) : MG l yX3_fromAt wsX3_fromAt rmX3_fromAt Dd Y [.ref (ad 3), .int x1] (WR Y ad G) (WR Y ad G) (some (.int r)) := by
  refine MGi (cc := cX3_fromAt) (maxL := 2) (ty := .int) (by decide) rfl (Nat.le_of_ble_eq_true rfl) (fun {p e s m args below meth c A} ls Q X hW hl hQ => ?_)
  have hx := X.x
  have hb := X.b
  have hl : lv_has ls 2 [(0, .ref (ad 3)), (1, .int x1)] := hl
  have hinX3 : ∀ w ∈ wsX30, w ∈ wsX3_fromAt := fun w h => List.mem_cons_of_mem _ (List.mem_append_right _ h)
  unfold dnX3_fromAt at hd
  refine lv_iload_n hx hb dX3_fromAt_0 rfl (lv_at hl 1 rfl) ?_
  refine lv_if_lt (tgt := 22) hx hb dX3_fromAt_1 (by decide) (fun c1 => ?_) (fun c1 => ?_)
  · replace hd := if_t c1 hd
    refine lv_iconst (v := 0) hx hb dX3_fromAt_22 (by decide) ?_
    have hd := Option.some.inj hd
    subst hd
    exact hQ _ _ _ _ rfl hW dX3_fromAt_23
  · replace hd := if_f c1 hd
    refine lv_iload_n hx hb dX3_fromAt_4 rfl (lv_at hl 1 rfl) ?_
    refine lv_aload_n hx hb dX3_fromAt_5 rfl (lv_at hl 0 rfl) ?_
    refine g_ X hinX3 hW 3 rfl rfl 0 (by decide) 1 rfl rfl rfl dX3_fromAt_6 ?_
    refine len_ (v := 8) X hW 4 0 rfl rfl rfl dX3_fromAt_9 ?_
    refine lv_icmp_ge (tgt := 22) hx hb dX3_fromAt_10 (by decide) (fun c2 => ?_) (fun c2 => ?_)
    · replace hd := if_t c2 hd
      refine lv_iconst (v := 0) hx hb dX3_fromAt_22 (by decide) ?_
      have hd := Option.some.inj hd
      subst hd
      exact hQ _ _ _ _ rfl hW dX3_fromAt_23
    · replace hd := if_f c2 hd
      refine lv_aload_n hx hb dX3_fromAt_13 rfl (lv_at hl 0 rfl) ?_
      refine g_ X hinX3 hW 3 rfl rfl 0 (by decide) 1 rfl rfl rfl dX3_fromAt_14 ?_
      refine lv_iload_n hx hb dX3_fromAt_17 rfl (lv_at hl 1 rfl) ?_
      obtain ⟨hi3, hd⟩ := ra_e hd
      refine a_ X hW 4 rfl rfl hi3 dX3_fromAt_18 ?_
      generalize (G.1 4) x1.toNatClampNeg = v4 at hd ⊢
      refine lv_goto (tgt := 23) hx hb dX3_fromAt_19 (by decide) ?_
      have hd := Option.some.inj hd
      subst hd
      exact hQ _ _ _ _ rfl hW dX3_fromAt_23
abbrev rmX3_store : Room := { frames := 0, cells := 0, slots := 0, locals := 0 }
set_option maxRecDepth 100000 in
set_option maxHeartbeats 4000000 in
theorem kX3_store (l : Launch) (Dd : va_G) (Y : yT) (ad : Nat → Nat) (G : gR) (x1 : Int32) (x2 : Int32) (x3 : Int32) (G' : gR) (hd : dnX3_store G x1 x2 x3 = some G') : MG l yX3_store wsX3_store rmX3_store Dd Y [.ref (ad 3), .int x1, .int x2, .int x3] (WR Y ad G) (WR Y ad G') none := by
  refine MGv (cc := cX3_store) (maxL := 4) (by decide) rfl (Nat.le_of_ble_eq_true rfl) (fun {p e s m args below meth c A} ls Q X hW hl hQ => ?_)
  have hx := X.x
  have hb := X.b
  have hl : lv_has ls 4 [(0, .ref (ad 3)), (1, .int x1), (2, .int x2), (3, .int x3)] := hl
  have hinX3 : ∀ w ∈ wsX30, w ∈ wsX3_store := fun w h => List.mem_cons_of_mem _ (List.mem_append_right _ h)
  unfold dnX3_store at hd
  refine lv_iload_n hx hb dX3_store_0 rfl (lv_at hl 1 rfl) ?_
  refine lv_if_lt (tgt := 36) hx hb dX3_store_1 (by decide) (fun c1 => ?_) (fun c1 => ?_)
  · replace hd := if_t c1 hd
    obtain rfl := Option.some.inj hd
    exact hQ _ _ _ _ hW dX3_store_36
  · replace hd := if_f c1 hd
    refine lv_iload_n hx hb dX3_store_4 rfl (lv_at hl 1 rfl) ?_
    refine lv_aload_n hx hb dX3_store_5 rfl (lv_at hl 0 rfl) ?_
    refine g_ X hinX3 hW 3 rfl rfl 0 (by decide) 1 rfl rfl rfl dX3_store_6 ?_
    refine len_ (v := 8) X hW 4 0 rfl rfl rfl dX3_store_9 ?_
    refine lv_icmp_ge (tgt := 36) hx hb dX3_store_10 (by decide) (fun c2 => ?_) (fun c2 => ?_)
    · replace hd := if_t c2 hd
      obtain rfl := Option.some.inj hd
      exact hQ _ _ _ _ hW dX3_store_36
    · replace hd := if_f c2 hd
      refine lv_iload_n hx hb dX3_store_13 rfl (lv_at hl 1 rfl) ?_
      refine lv_aload_n hx hb dX3_store_14 rfl (lv_at hl 0 rfl) ?_
      refine g_ X hinX3 hW 3 rfl rfl 1 (by decide) 2 rfl rfl rfl dX3_store_15 ?_
      refine len_ (v := 8) X hW 5 0 rfl rfl rfl dX3_store_18 ?_
      refine lv_icmp_ge (tgt := 36) hx hb dX3_store_19 (by decide) (fun h => absurd h c2) (fun _ => ?_)
      refine lv_aload_n hx hb dX3_store_22 rfl (lv_at hl 0 rfl) ?_
      refine g_ X hinX3 hW 3 rfl rfl 0 (by decide) 1 rfl rfl rfl dX3_store_23 ?_
      refine lv_iload_n hx hb dX3_store_26 rfl (lv_at hl 1 rfl) ?_
      refine lv_iload_n hx hb dX3_store_27 rfl (lv_at hl 2 rfl) ?_
      obtain ⟨hi3, hd⟩ := wi_e hd
      obtain ⟨G4, eG4, hd⟩ := bw_e hd
      refine s_ X hW 4 rfl rfl hi3 dX3_store_28 (ws' := (WR Y ad G4)) (by rw [eG4]; rfl) (fun H locs hW => ?_)
      refine lv_aload_n hx hb dX3_store_29 rfl (lv_at hl 0 rfl) ?_
      refine g_ X hinX3 hW 3 rfl rfl 1 (by decide) 2 rfl rfl rfl dX3_store_30 ?_
      refine lv_iload_n hx hb dX3_store_33 rfl (lv_at hl 1 rfl) ?_
      refine lv_iload_n hx hb dX3_store_34 rfl (lv_at hl 3 rfl) ?_
      obtain ⟨hi6, hd⟩ := wi_e hd
      obtain ⟨G7, eG7, hd⟩ := bw_e hd
      refine s_ X hW 5 rfl rfl hi6 dX3_store_35 (ws' := (WR Y ad G7)) (by rw [eG7]; rfl) (fun H locs hW => ?_)
      obtain rfl := Option.some.inj hd
      exact hQ _ _ _ _ hW dX3_store_36
abbrev rmX3_toAt : Room := { frames := 0, cells := 0, slots := 0, locals := 0 }
set_option maxRecDepth 100000 in
set_option maxHeartbeats 4000000 in
theorem kX3_toAt (l : Launch) (Dd : va_G) (Y : yT) (ad : Nat → Nat) (G : gR) (x1 : Int32) (r : Int32) (hd : dnX3_toAt G x1 = some r) : MG l yX3_toAt wsX3_toAt rmX3_toAt Dd Y [.ref (ad 3), .int x1] (WR Y ad G) (WR Y ad G) (some (.int r)) := by
  refine MGi (cc := cX3_toAt) (maxL := 2) (ty := .int) (by decide) rfl (Nat.le_of_ble_eq_true rfl) (fun {p e s m args below meth c A} ls Q X hW hl hQ => ?_)
  have hx := X.x
  have hb := X.b
  have hl : lv_has ls 2 [(0, .ref (ad 3)), (1, .int x1)] := hl
  have hinX3 : ∀ w ∈ wsX30, w ∈ wsX3_toAt := fun w h => List.mem_cons_of_mem _ (List.mem_append_right _ h)
  unfold dnX3_toAt at hd
  refine lv_iload_n hx hb dX3_toAt_0 rfl (lv_at hl 1 rfl) ?_
  refine lv_if_lt (tgt := 22) hx hb dX3_toAt_1 (by decide) (fun c1 => ?_) (fun c1 => ?_)
  · replace hd := if_t c1 hd
    refine lv_iconst (v := 0) hx hb dX3_toAt_22 (by decide) ?_
    have hd := Option.some.inj hd
    subst hd
    exact hQ _ _ _ _ rfl hW dX3_toAt_23
  · replace hd := if_f c1 hd
    refine lv_iload_n hx hb dX3_toAt_4 rfl (lv_at hl 1 rfl) ?_
    refine lv_aload_n hx hb dX3_toAt_5 rfl (lv_at hl 0 rfl) ?_
    refine g_ X hinX3 hW 3 rfl rfl 1 (by decide) 1 rfl rfl rfl dX3_toAt_6 ?_
    refine len_ (v := 8) X hW 5 0 rfl rfl rfl dX3_toAt_9 ?_
    refine lv_icmp_ge (tgt := 22) hx hb dX3_toAt_10 (by decide) (fun c2 => ?_) (fun c2 => ?_)
    · replace hd := if_t c2 hd
      refine lv_iconst (v := 0) hx hb dX3_toAt_22 (by decide) ?_
      have hd := Option.some.inj hd
      subst hd
      exact hQ _ _ _ _ rfl hW dX3_toAt_23
    · replace hd := if_f c2 hd
      refine lv_aload_n hx hb dX3_toAt_13 rfl (lv_at hl 0 rfl) ?_
      refine g_ X hinX3 hW 3 rfl rfl 1 (by decide) 1 rfl rfl rfl dX3_toAt_14 ?_
      refine lv_iload_n hx hb dX3_toAt_17 rfl (lv_at hl 1 rfl) ?_
      obtain ⟨hi3, hd⟩ := ra_e hd
      refine a_ X hW 5 rfl rfl hi3 dX3_toAt_18 ?_
      generalize (G.1 5) x1.toNatClampNeg = v4 at hd ⊢
      refine lv_goto (tgt := 23) hx hb dX3_toAt_19 (by decide) ?_
      have hd := Option.some.inj hd
      subst hd
      exact hQ _ _ _ _ rfl hW dX3_toAt_23
abbrev rmX3_removeAt : Room := { frames := 1, cells := 0, slots := 0, locals := 23 }
set_option maxRecDepth 100000 in
set_option maxHeartbeats 4000000 in
theorem kX3_removeAt (l : Launch) (Dd : va_G) (Y : yT) (ad : Nat → Nat) (G : gR) (x1 : Int32) (G' : gR) (hd : dnX3_removeAt G x1 = some G') : MG l yX3_removeAt wsX3_removeAt rmX3_removeAt Dd Y [.ref (ad 3), .int x1] (WR Y ad G) (WR Y ad G') none := by
  refine MGv (cc := cX3_removeAt) (maxL := 3) (by decide) rfl (Nat.le_of_ble_eq_true rfl) (fun {p e s m args below meth c A} ls Q X hW hl hQ => ?_)
  have hx := X.x
  have hb := X.b
  have hl : lv_has ls 3 [(0, .ref (ad 3)), (1, .int x1)] := hl
  have hinX3 : ∀ w ∈ wsX30, w ∈ wsX3_removeAt := fun w h => List.mem_cons_of_mem _ (List.mem_append_right _ h)
  unfold dnX3_removeAt at hd
  have K4 : ∀ (n : Nat) (x2 : Int32) (G : gR) (z : Nat × gR), lpX3_removeAt_4 n x2 G = some z → ∀ (H : Heap) (locs : List Loc) (ls : Array Slot), Wd Dd A s.heap (WR Y ad G) H locs → lv_has ls 3 [(0, .ref (ad 3)), (2, .int x2)] → (∀ (H : Heap) (locs : List Loc) (ls : Array Slot), z.1 = 0 → Wd Dd A s.heap (WR Y ad z.2) H locs → lv_has ls 3 [(0, .ref (ad 3))] → W p l e rmX3_removeAt s m args below meth c H locs 0 0 Q (F0 m 35 ls [])) → W p l e rmX3_removeAt s m args below meth c H locs 0 0 Q (F0 m 4 ls []) := by
    intro n
    induction n with
    | zero => intro x2 G z hd; cases hd
    | succ n ih =>
      intro x2 G z hd H locs ls hW hl kx0
      unfold lpX3_removeAt_4 at hd
      refine lv_iload_n hx hb dX3_removeAt_4 rfl (lv_at hl 1 rfl) ?_
      refine lv_aload_n hx hb dX3_removeAt_5 rfl (lv_at hl 0 rfl) ?_
      refine g_ X hinX3 hW 3 rfl rfl 2 (by decide) 1 rfl rfl rfl dX3_removeAt_6 ?_
      refine lv_icmp_ge (tgt := 35) hx hb dX3_removeAt_9 (by decide) (fun c1 => ?_) (fun c1 => ?_)
      · replace hd := if_t c1 hd
        cases hd
        exact kx0 _ _ _ rfl hW (lv_sub hl [0] rfl)
      · replace hd := if_f c1 hd
        refine lv_aload_n hx hb dX3_removeAt_12 rfl (lv_at hl 0 rfl) ?_
        refine lv_iload_n hx hb dX3_removeAt_13 rfl (lv_at hl 1 rfl) ?_
        refine lv_iconst (v := 1) hx hb dX3_removeAt_14 (by decide) ?_
        refine lv_isub hx hb dX3_removeAt_15 ?_
        refine lv_aload_n hx hb dX3_removeAt_16 rfl (lv_at hl 0 rfl) ?_
        refine lv_iload_n hx hb dX3_removeAt_17 rfl (lv_at hl 1 rfl) ?_
        obtain ⟨r3, h2, hd⟩ := bp_e hd
        refine cVi_ (rest := [.int (x2 - 1), .ref (ad 3)]) X (kX3_fromAt l Dd Y ad G x2 r3 h2) (cwV 1 X.1.2.2.2.2 gX3_removeAt_X3_fromAt rfl rfl rfl (by decide +kernel) ⟨Nat.le_of_ble_eq_true rfl, Nat.le_of_ble_eq_true rfl⟩) hW 3 3 rfl rfl rfl rfl hl.1 rfl (Nat.le_of_ble_eq_true rfl) dX3_removeAt_18 ⟨Nat.zero_le _, Nat.zero_le _⟩ (fun H locs hW => ?_)
        refine lv_aload_n hx hb dX3_removeAt_21 rfl (lv_at hl 0 rfl) ?_
        refine lv_iload_n hx hb dX3_removeAt_22 rfl (lv_at hl 1 rfl) ?_
        obtain ⟨r5, h4, hd⟩ := bp_e hd
        refine cVi_ (rest := [.int r3, .int (x2 - 1), .ref (ad 3)]) X (kX3_toAt l Dd Y ad G x2 r5 h4) (cwV 1 X.1.2.2.2.2 gX3_removeAt_X3_toAt rfl rfl rfl (by decide +kernel) ⟨Nat.le_of_ble_eq_true rfl, Nat.le_of_ble_eq_true rfl⟩) hW 3 3 rfl rfl rfl rfl hl.1 rfl (Nat.le_of_ble_eq_true rfl) dX3_removeAt_23 ⟨Nat.zero_le _, Nat.zero_le _⟩ (fun H locs hW => ?_)
        obtain ⟨G7, h6, hd⟩ := bp_e hd
        refine cVv_ (rest := []) X (kX3_store l Dd Y ad G (x2 - 1) r3 r5 G7 h6) (cwV 3 X.1.2.2.2.2 gX3_removeAt_X3_store rfl rfl rfl (by decide +kernel) ⟨Nat.le_of_ble_eq_true rfl, Nat.le_of_ble_eq_true rfl⟩) hW 3 3 rfl rfl rfl rfl hl.1 rfl (Nat.le_of_ble_eq_true rfl) dX3_removeAt_26 ⟨Nat.zero_le _, Nat.zero_le _⟩ (fun H locs hW => ?_)
        refine lv_iinc (v := x2 + 1) (lv' := [(2, .int (x2 + 1)), (0, .ref (ad 3))]) hx hb dX3_removeAt_29 hl (k := 1) rfl rfl (by decide) rfl (fun ls hl => ?_)
        refine lv_goto (tgt := 4) hx hb dX3_removeAt_32 (by decide) ?_
        exact ih (x2 + 1) G7 z hd _ _ _ hW (lv_sub hl [1, 0] rfl) kx0
  refine lv_iload_n hx hb dX3_removeAt_0 rfl (lv_at hl 1 rfl) ?_
  refine lv_iconst (v := 1) hx hb dX3_removeAt_1 (by decide) ?_
  refine lv_iadd hx hb dX3_removeAt_2 ?_
  refine lv_istore_n (lv' := [(2, .int (x1 + 1)), (0, .ref (ad 3)), (1, .int x1)]) hx hb dX3_removeAt_3 rfl hl (by decide) rfl (fun ls hl => ?_)
  obtain ⟨z4_7, hz4_7, hd⟩ := bp_e hd
  refine K4 FU (x1 + 1) G z4_7 hz4_7 _ _ _ hW (lv_sub hl [1, 0] rfl) (fun H locs ls e4 hW hl => ?_)
  refine lv_aload_n hx hb dX3_removeAt_35 rfl (lv_at hl 0 rfl) ?_
  refine lv_dup hx hb dX3_removeAt_36 rfl ?_
  refine g_ X hinX3 hW 3 rfl rfl 2 (by decide) 1 rfl rfl rfl dX3_removeAt_37 ?_
  refine lv_iconst (v := 1) hx hb dX3_removeAt_40 (by decide) ?_
  refine lv_isub hx hb dX3_removeAt_41 ?_
  obtain ⟨G9, eG9, hd⟩ := bw_e hd
  refine p_ (ty := .int) X hinX3 tyX3 tyX3_ok nmX3 hW 3 rfl rfl 2 (by decide) 1 rfl rfl rfl (by decide +kernel) rfl rfl (Nat.le_of_ble_eq_true rfl) dX3_removeAt_42 (ws' := (WR Y ad G9)) (by rw [eG9]; rfl) (fun H locs hW => ?_)
  obtain rfl := Option.some.inj hd
  exact hQ _ _ _ _ hW dX3_removeAt_45
abbrev rmX1_askAndDropBelow : Room := { frames := 5, cells := 0, slots := 0, locals := 113 }
set_option maxRecDepth 100000 in
set_option maxHeartbeats 4000000 in
theorem kX1_askAndDropBelow (l : Launch) (Dd : va_G) (Y : yT) (ad : Nat → Nat) (G : gR) (x1 : Int32) (r : Int32) (G' : gR) (hd : dnX1_askAndDropBelow G x1 = some (r, G')) : MG l yX1_askAndDropBelow wsX1_askAndDropBelow rmX1_askAndDropBelow Dd Y [.ref (ad 0), .int x1] (WR Y ad G) (WR Y ad G') (some (.int r)) := by
  refine MGi (cc := cX1_askAndDropBelow) (maxL := 6) (ty := .int) (by decide) rfl (Nat.le_of_ble_eq_true rfl) (fun {p e s m args below meth c A} ls Q X hW hl hQ => ?_)
  have hx := X.x
  have hb := X.b
  have hl : lv_has ls 6 [(0, .ref (ad 0)), (1, .int x1)] := hl
  have hinX1 : ∀ w ∈ wsX10, w ∈ wsX1_askAndDropBelow := fun w h => List.mem_cons_of_mem _ (List.mem_append_left _ (List.mem_append_right _ h))
  have hinX3 : ∀ w ∈ wsX30, w ∈ wsX1_askAndDropBelow := fun w h => List.mem_cons_of_mem _ (List.mem_append_right _ h)
  unfold dnX1_askAndDropBelow at hd
  have K13 : ∀ (x1 : Int32) (n : Nat) (x2 : Int32) (x3 : Int32) (x4 : Int32) (G : gR) (z : Nat × Int32 × gR), lpX1_askAndDropBelow_13 x1 n x2 x3 x4 G = some z → ∀ (H : Heap) (locs : List Loc) (ls : Array Slot), Wd Dd A s.heap (WR Y ad G) H locs → lv_has ls 6 [(0, .ref (ad 0)), (1, .int x1), (2, .int x2), (3, .int x3), (4, .int x4)] → (∀ (H : Heap) (locs : List Loc) (ls : Array Slot), z.1 = 0 → Wd Dd A s.heap (WR Y ad z.2.2) H locs → lv_has ls 6 [(2, .int z.2.1)] → W p l e rmX1_askAndDropBelow s m args below meth c H locs 0 0 Q (F0 m 73 ls [])) → W p l e rmX1_askAndDropBelow s m args below meth c H locs 0 0 Q (F0 m 13 ls []) := by
    intro x1 n
    induction n with
    | zero => intro x2 x3 x4 G z hd; cases hd
    | succ n ih =>
      intro x2 x3 x4 G z hd H locs ls hW hl kx0
      unfold lpX1_askAndDropBelow_13 at hd
      refine lv_iload hx hb dX1_askAndDropBelow_13 (lv_at hl 4 rfl) ?_
      refine lv_if_le (tgt := 73) hx hb dX1_askAndDropBelow_15 (by decide) (fun c1 => ?_) (fun c1 => ?_)
      · replace hd := if_t c1 hd
        cases hd
        exact kx0 _ _ _ rfl hW (lv_sub hl [2] rfl)
      · replace hd := if_f c1 hd
        refine lv_aload_n hx hb dX1_askAndDropBelow_18 rfl (lv_at hl 0 rfl) ?_
        refine lv_aload_n hx hb dX1_askAndDropBelow_19 rfl (lv_at hl 0 rfl) ?_
        refine g_ X hinX1 hW 0 rfl rfl 2 (by decide) 1 rfl rfl rfl dX1_askAndDropBelow_20 ?_
        refine lv_iload_n hx hb dX1_askAndDropBelow_23 rfl (lv_at hl 3 rfl) ?_
        obtain ⟨r3, h2, hd⟩ := bp_e hd
        refine cVi_ (rest := [.ref (ad 0)]) X (kX3_fromAt l Dd Y ad G x3 r3 h2) (cwV 1 X.1.2.2.2.2 gX1_askAndDropBelow_X3_fromAt rfl rfl rfl (by decide +kernel) ⟨Nat.le_of_ble_eq_true rfl, Nat.le_of_ble_eq_true rfl⟩) hW 3 3 rfl rfl rfl rfl hl.1 rfl (Nat.le_of_ble_eq_true rfl) dX1_askAndDropBelow_24 ⟨Nat.zero_le _, Nat.zero_le _⟩ (fun H locs hW => ?_)
        refine lv_aload_n hx hb dX1_askAndDropBelow_27 rfl (lv_at hl 0 rfl) ?_
        refine g_ X hinX1 hW 0 rfl rfl 2 (by decide) 1 rfl rfl rfl dX1_askAndDropBelow_28 ?_
        refine lv_iload_n hx hb dX1_askAndDropBelow_31 rfl (lv_at hl 3 rfl) ?_
        obtain ⟨r5, h4, hd⟩ := bp_e hd
        refine cVi_ (rest := [.int r3, .ref (ad 0)]) X (kX3_toAt l Dd Y ad G x3 r5 h4) (cwV 1 X.1.2.2.2.2 gX1_askAndDropBelow_X3_toAt rfl rfl rfl (by decide +kernel) ⟨Nat.le_of_ble_eq_true rfl, Nat.le_of_ble_eq_true rfl⟩) hW 3 3 rfl rfl rfl rfl hl.1 rfl (Nat.le_of_ble_eq_true rfl) dX1_askAndDropBelow_32 ⟨Nat.zero_le _, Nat.zero_le _⟩ (fun H locs hW => ?_)
        obtain ⟨r7, G8, h6, hd⟩ := bs_e hd
        refine cVi_ (rest := []) X (kX1_question l Dd Y ad G r3 r5 r7 G8 h6) (cwV 2 X.1.2.2.2.2 gX1_askAndDropBelow_X1_question rfl rfl rfl (by decide +kernel) ⟨Nat.le_of_ble_eq_true rfl, Nat.le_of_ble_eq_true rfl⟩) hW 0 1 rfl rfl rfl rfl hl.1 rfl (Nat.le_of_ble_eq_true rfl) dX1_askAndDropBelow_35 ⟨Nat.zero_le _, Nat.zero_le _⟩ (fun H locs hW => ?_)
        refine lv_istore (lv' := [(5, .int r7), (0, .ref (ad 0)), (1, .int x1), (2, .int x2), (3, .int x3), (4, .int x4)]) hx hb dX1_askAndDropBelow_38 hl (by decide) rfl (fun ls hl => ?_)
        refine lv_aload_n hx hb dX1_askAndDropBelow_40 rfl (lv_at hl 1 rfl) ?_
        refine lv_iload hx hb dX1_askAndDropBelow_41 (lv_at hl 0 rfl) ?_
        obtain ⟨r10, h9, hd⟩ := bp_e hd
        refine cVi_ (rest := []) X (kX1_valueAt l Dd Y ad G8 r7 r10 h9) (cwV 1 X.1.2.2.2.2 gX1_askAndDropBelow_X1_valueAt rfl rfl rfl (by decide +kernel) ⟨Nat.le_of_ble_eq_true rfl, Nat.le_of_ble_eq_true rfl⟩) hW 0 1 rfl rfl rfl rfl hl.1 rfl (Nat.le_of_ble_eq_true rfl) dX1_askAndDropBelow_43 ⟨Nat.zero_le _, Nat.zero_le _⟩ (fun H locs hW => ?_)
        refine lv_iload_n hx hb dX1_askAndDropBelow_46 rfl (lv_at hl 2 rfl) ?_
        refine lv_icmp_ge (tgt := 64) hx hb dX1_askAndDropBelow_47 (by decide) (fun c11 => ?_) (fun c11 => ?_)
        · replace hd := if_t c11 hd
          refine lv_iinc (v := x3 + 1) (lv' := [(3, .int (x3 + 1)), (5, .int r7), (0, .ref (ad 0)), (1, .int x1), (2, .int x2), (4, .int x4)]) hx hb dX1_askAndDropBelow_64 hl (k := 4) rfl rfl (by decide) rfl (fun ls hl => ?_)
          refine lv_iinc (v := x4 + (-1)) (lv' := [(4, .int (x4 + (-1))), (3, .int (x3 + 1)), (5, .int r7), (0, .ref (ad 0)), (1, .int x1), (2, .int x2)]) hx hb dX1_askAndDropBelow_67 hl (k := 5) rfl rfl (by decide) rfl (fun ls hl => ?_)
          refine lv_goto (tgt := 13) hx hb dX1_askAndDropBelow_70 (by decide) ?_
          exact ih x2 (x3 + 1) (x4 + (-1)) G8 z hd _ _ _ hW (lv_sub hl [3, 4, 5, 1, 0] rfl) kx0
        · replace hd := if_f c11 hd
          refine lv_aload_n hx hb dX1_askAndDropBelow_50 rfl (lv_at hl 1 rfl) ?_
          refine g_ X hinX1 hW 0 rfl rfl 2 (by decide) 1 rfl rfl rfl dX1_askAndDropBelow_51 ?_
          refine lv_iload_n hx hb dX1_askAndDropBelow_54 rfl (lv_at hl 4 rfl) ?_
          obtain ⟨G13, h12, hd⟩ := bp_e hd
          refine cVv_ (rest := []) X (kX3_removeAt l Dd Y ad G8 x3 G13 h12) (cwV 1 X.1.2.2.2.2 gX1_askAndDropBelow_X3_removeAt rfl rfl rfl (by decide +kernel) ⟨Nat.le_of_ble_eq_true rfl, Nat.le_of_ble_eq_true rfl⟩) hW 3 3 rfl rfl rfl rfl hl.1 rfl (Nat.le_of_ble_eq_true rfl) dX1_askAndDropBelow_55 ⟨Nat.zero_le _, Nat.zero_le _⟩ (fun H locs hW => ?_)
          refine lv_iinc (v := x2 + 1) (lv' := [(2, .int (x2 + 1)), (5, .int r7), (0, .ref (ad 0)), (1, .int x1), (3, .int x3), (4, .int x4)]) hx hb dX1_askAndDropBelow_58 hl (k := 3) rfl rfl (by decide) rfl (fun ls hl => ?_)
          refine lv_goto (tgt := 67) hx hb dX1_askAndDropBelow_61 (by decide) ?_
          refine lv_iinc (v := x4 + (-1)) (lv' := [(4, .int (x4 + (-1))), (2, .int (x2 + 1)), (5, .int r7), (0, .ref (ad 0)), (1, .int x1), (3, .int x3)]) hx hb dX1_askAndDropBelow_67 hl (k := 5) rfl rfl (by decide) rfl (fun ls hl => ?_)
          refine lv_goto (tgt := 13) hx hb dX1_askAndDropBelow_70 (by decide) ?_
          exact ih (x2 + 1) x3 (x4 + (-1)) G13 z hd _ _ _ hW (lv_sub hl [3, 4, 1, 5, 0] rfl) kx0
  refine lv_iconst (v := 0) hx hb dX1_askAndDropBelow_0 (by decide) ?_
  refine lv_istore_n (lv' := [(2, .int 0), (0, .ref (ad 0)), (1, .int x1)]) hx hb dX1_askAndDropBelow_1 rfl hl (by decide) rfl (fun ls hl => ?_)
  refine lv_iconst (v := 0) hx hb dX1_askAndDropBelow_2 (by decide) ?_
  refine lv_istore_n (lv' := [(3, .int 0), (2, .int 0), (0, .ref (ad 0)), (1, .int x1)]) hx hb dX1_askAndDropBelow_3 rfl hl (by decide) rfl (fun ls hl => ?_)
  refine lv_aload_n hx hb dX1_askAndDropBelow_4 rfl (lv_at hl 2 rfl) ?_
  refine g_ X hinX1 hW 0 rfl rfl 2 (by decide) 1 rfl rfl rfl dX1_askAndDropBelow_5 ?_
  refine g_ X hinX3 hW 3 rfl rfl 2 (by decide) 2 rfl rfl rfl dX1_askAndDropBelow_8 ?_
  refine lv_istore (lv' := [(4, .int (G.1 3 2)), (3, .int 0), (2, .int 0), (0, .ref (ad 0)), (1, .int x1)]) hx hb dX1_askAndDropBelow_11 hl (by decide) rfl (fun ls hl => ?_)
  obtain ⟨z13_13, hz13_13, hd⟩ := bp_e hd
  refine K13 x1 FU 0 0 (G.1 3 2) G z13_13 hz13_13 _ _ _ hW (lv_sub hl [3, 4, 2, 1, 0] rfl) (fun H locs ls e13 hW hl => ?_)
  refine lv_iload_n hx hb dX1_askAndDropBelow_73 rfl (lv_at hl 0 rfl) ?_
  obtain ⟨rfl, rfl⟩ := Prod.mk.inj (Option.some.inj hd)
  exact hQ _ _ _ _ rfl hW dX1_askAndDropBelow_74
abbrev rmX1_addAtEnd : Room := { frames := 1, cells := 0, slots := 0, locals := 22 }
set_option maxRecDepth 100000 in
set_option maxHeartbeats 4000000 in
theorem kX1_addAtEnd (l : Launch) (Dd : va_G) (Y : yT) (ad : Nat → Nat) (G : gR) (x1 : Int32) (G' : gR) (hd : dnX1_addAtEnd G x1 = some G') : MG l yX1_addAtEnd wsX1_addAtEnd rmX1_addAtEnd Dd Y [.ref (ad 0), .int x1] (WR Y ad G) (WR Y ad G') none := by
  refine MGv (cc := cX1_addAtEnd) (maxL := 2) (by decide) rfl (Nat.le_of_ble_eq_true rfl) (fun {p e s m args below meth c A} ls Q X hW hl hQ => ?_)
  have hx := X.x
  have hb := X.b
  have hl : lv_has ls 2 [(0, .ref (ad 0)), (1, .int x1)] := hl
  have hinX1 : ∀ w ∈ wsX10, w ∈ wsX1_addAtEnd := fun w h => List.mem_cons_of_mem _ (List.mem_append_right _ h)
  unfold dnX1_addAtEnd at hd
  refine lv_aload_n hx hb dX1_addAtEnd_0 rfl (lv_at hl 0 rfl) ?_
  refine lv_aload_n hx hb dX1_addAtEnd_1 rfl (lv_at hl 0 rfl) ?_
  refine g_ X hinX1 hW 0 rfl rfl 3 (by decide) 1 rfl rfl rfl dX1_addAtEnd_2 ?_
  refine lv_iload_n hx hb dX1_addAtEnd_5 rfl (lv_at hl 1 rfl) ?_
  obtain ⟨G2, h1, hd⟩ := bp_e hd
  refine cVv_ (rest := []) X (kX1_store l Dd Y ad G (G.1 0 3) x1 G2 h1) (cwV 2 X.1.2.2.2.2 gX1_addAtEnd_X1_store rfl rfl rfl (by decide +kernel) ⟨Nat.le_of_ble_eq_true rfl, Nat.le_of_ble_eq_true rfl⟩) hW 0 1 rfl rfl rfl rfl hl.1 rfl (Nat.le_of_ble_eq_true rfl) dX1_addAtEnd_6 ⟨Nat.zero_le _, Nat.zero_le _⟩ (fun H locs hW => ?_)
  refine lv_aload_n hx hb dX1_addAtEnd_9 rfl (lv_at hl 0 rfl) ?_
  refine lv_dup hx hb dX1_addAtEnd_10 rfl ?_
  refine g_ X hinX1 hW 0 rfl rfl 3 (by decide) 1 rfl rfl rfl dX1_addAtEnd_11 ?_
  refine lv_iconst (v := 1) hx hb dX1_addAtEnd_14 (by decide) ?_
  refine lv_iadd hx hb dX1_addAtEnd_15 ?_
  obtain ⟨G3, eG3, hd⟩ := bw_e hd
  refine p_ (ty := .int) X hinX1 tyX1 tyX1_ok nmX1 hW 0 rfl rfl 3 (by decide) 1 rfl rfl rfl (by decide +kernel) rfl rfl (Nat.le_of_ble_eq_true rfl) dX1_addAtEnd_16 (ws' := (WR Y ad G3)) (by rw [eG3]; rfl) (fun H locs hW => ?_)
  obtain rfl := Option.some.inj hd
  exact hQ _ _ _ _ hW dX1_addAtEnd_19
abbrev rmX3_makeRoomAt : Room := { frames := 1, cells := 0, slots := 0, locals := 23 }
set_option maxRecDepth 100000 in
set_option maxHeartbeats 4000000 in
theorem kX3_makeRoomAt (l : Launch) (Dd : va_G) (Y : yT) (ad : Nat → Nat) (G : gR) (x1 : Int32) (G' : gR) (hd : dnX3_makeRoomAt G x1 = some G') : MG l yX3_makeRoomAt wsX3_makeRoomAt rmX3_makeRoomAt Dd Y [.ref (ad 3), .int x1] (WR Y ad G) (WR Y ad G') none := by
  refine MGv (cc := cX3_makeRoomAt) (maxL := 5) (by decide) rfl (Nat.le_of_ble_eq_true rfl) (fun {p e s m args below meth c A} ls Q X hW hl hQ => ?_)
  have hx := X.x
  have hb := X.b
  have hl : lv_has ls 5 [(0, .ref (ad 3)), (1, .int x1)] := hl
  have hinX3 : ∀ w ∈ wsX30, w ∈ wsX3_makeRoomAt := fun w h => List.mem_cons_of_mem _ (List.mem_append_right _ h)
  unfold dnX3_makeRoomAt at hd
  have K2 : ∀ (x1 : Int32) (n : Nat) (x2 : Int32) (G : gR) (z : Nat × gR), lpX3_makeRoomAt_2 x1 n x2 G = some z → ∀ (H : Heap) (locs : List Loc) (ls : Array Slot), Wd Dd A s.heap (WR Y ad G) H locs → lv_has ls 5 [(0, .ref (ad 3)), (1, .int x1), (2, .int x2)] → (∀ (H : Heap) (locs : List Loc) (ls : Array Slot), z.1 = 0 → Wd Dd A s.heap (WR Y ad z.2) H locs → lv_has ls 5 [] → W p l e rmX3_makeRoomAt s m args below meth c H locs 0 0 Q (F0 m 61 ls [])) → W p l e rmX3_makeRoomAt s m args below meth c H locs 0 0 Q (F0 m 2 ls []) := by
    intro x1 n
    induction n with
    | zero => intro x2 G z hd; cases hd
    | succ n ih =>
      intro x2 G z hd H locs ls hW hl kx0
      unfold lpX3_makeRoomAt_2 at hd
      refine lv_iload_n hx hb dX3_makeRoomAt_2 rfl (lv_at hl 2 rfl) ?_
      refine lv_aload_n hx hb dX3_makeRoomAt_3 rfl (lv_at hl 0 rfl) ?_
      refine g_ X hinX3 hW 3 rfl rfl 2 (by decide) 1 rfl rfl rfl dX3_makeRoomAt_4 ?_
      refine lv_icmp_ge (tgt := 61) hx hb dX3_makeRoomAt_7 (by decide) (fun c1 => ?_) (fun c1 => ?_)
      · replace hd := if_t c1 hd
        cases hd
        exact kx0 _ _ _ rfl hW (lv_sub hl [] rfl)
      · replace hd := if_f c1 hd
        refine lv_aload_n hx hb dX3_makeRoomAt_10 rfl (lv_at hl 0 rfl) ?_
        refine lv_iload_n hx hb dX3_makeRoomAt_11 rfl (lv_at hl 2 rfl) ?_
        obtain ⟨r3, h2, hd⟩ := bp_e hd
        refine cVi_ (rest := []) X (kX3_fromAt l Dd Y ad G x2 r3 h2) (cwV 1 X.1.2.2.2.2 gX3_makeRoomAt_X3_fromAt rfl rfl rfl (by decide +kernel) ⟨Nat.le_of_ble_eq_true rfl, Nat.le_of_ble_eq_true rfl⟩) hW 3 3 rfl rfl rfl rfl hl.1 rfl (Nat.le_of_ble_eq_true rfl) dX3_makeRoomAt_12 ⟨Nat.zero_le _, Nat.zero_le _⟩ (fun H locs hW => ?_)
        refine lv_istore_n (lv' := [(3, .int r3), (0, .ref (ad 3)), (1, .int x1), (2, .int x2)]) hx hb dX3_makeRoomAt_15 rfl hl (by decide) rfl (fun ls hl => ?_)
        refine lv_aload_n hx hb dX3_makeRoomAt_16 rfl (lv_at hl 1 rfl) ?_
        refine lv_iload_n hx hb dX3_makeRoomAt_17 rfl (lv_at hl 3 rfl) ?_
        obtain ⟨r5, h4, hd⟩ := bp_e hd
        refine cVi_ (rest := []) X (kX3_toAt l Dd Y ad G x2 r5 h4) (cwV 1 X.1.2.2.2.2 gX3_makeRoomAt_X3_toAt rfl rfl rfl (by decide +kernel) ⟨Nat.le_of_ble_eq_true rfl, Nat.le_of_ble_eq_true rfl⟩) hW 3 3 rfl rfl rfl rfl hl.1 rfl (Nat.le_of_ble_eq_true rfl) dX3_makeRoomAt_18 ⟨Nat.zero_le _, Nat.zero_le _⟩ (fun H locs hW => ?_)
        refine lv_istore (lv' := [(4, .int r5), (3, .int r3), (0, .ref (ad 3)), (1, .int x1), (2, .int x2)]) hx hb dX3_makeRoomAt_21 hl (by decide) rfl (fun ls hl => ?_)
        refine lv_aload_n hx hb dX3_makeRoomAt_23 rfl (lv_at hl 2 rfl) ?_
        refine lv_iload_n hx hb dX3_makeRoomAt_24 rfl (lv_at hl 4 rfl) ?_
        refine lv_iload_n hx hb dX3_makeRoomAt_25 rfl (lv_at hl 1 rfl) ?_
        refine lv_iload_n hx hb dX3_makeRoomAt_26 rfl (lv_at hl 3 rfl) ?_
        refine lv_icmp_lt (tgt := 36) hx hb dX3_makeRoomAt_27 (by decide) (fun c6 => ?_) (fun c6 => ?_)
        · replace hd := if_t c6 hd
          refine lv_iload_n hx hb dX3_makeRoomAt_36 rfl (lv_at hl 1 rfl) ?_
          refine lv_iload hx hb dX3_makeRoomAt_37 (lv_at hl 0 rfl) ?_
          refine lv_iload_n hx hb dX3_makeRoomAt_39 rfl (lv_at hl 3 rfl) ?_
          refine lv_icmp_lt (tgt := 50) hx hb dX3_makeRoomAt_40 (by decide) (fun c7 => ?_) (fun c7 => ?_)
          · replace hd := if_t c7 hd
            refine lv_iload hx hb dX3_makeRoomAt_50 (lv_at hl 0 rfl) ?_
            obtain ⟨G9, h8, hd⟩ := bp_e hd
            refine cVv_ (rest := []) X (kX3_store l Dd Y ad G x2 r3 r5 G9 h8) (cwV 3 X.1.2.2.2.2 gX3_makeRoomAt_X3_store rfl rfl rfl (by decide +kernel) ⟨Nat.le_of_ble_eq_true rfl, Nat.le_of_ble_eq_true rfl⟩) hW 3 3 rfl rfl rfl rfl hl.1 rfl (Nat.le_of_ble_eq_true rfl) dX3_makeRoomAt_52 ⟨Nat.zero_le _, Nat.zero_le _⟩ (fun H locs hW => ?_)
            refine lv_iinc (v := x2 + 1) (lv' := [(2, .int (x2 + 1)), (4, .int r5), (3, .int r3), (0, .ref (ad 3)), (1, .int x1)]) hx hb dX3_makeRoomAt_55 hl (k := 4) rfl rfl (by decide) rfl (fun ls hl => ?_)
            refine lv_goto (tgt := 2) hx hb dX3_makeRoomAt_58 (by decide) ?_
            exact ih (x2 + 1) G9 z hd _ _ _ hW (lv_sub hl [3, 4, 0] rfl) kx0
          · replace hd := if_f c7 hd
            refine lv_iload hx hb dX3_makeRoomAt_43 (lv_at hl 0 rfl) ?_
            refine lv_iconst (v := 1) hx hb dX3_makeRoomAt_45 (by decide) ?_
            refine lv_iadd hx hb dX3_makeRoomAt_46 ?_
            refine lv_goto (tgt := 52) hx hb dX3_makeRoomAt_47 (by decide) ?_
            obtain ⟨G11, h10, hd⟩ := bp_e hd
            refine cVv_ (rest := []) X (kX3_store l Dd Y ad G x2 r3 (r5 + 1) G11 h10) (cwV 3 X.1.2.2.2.2 gX3_makeRoomAt_X3_store rfl rfl rfl (by decide +kernel) ⟨Nat.le_of_ble_eq_true rfl, Nat.le_of_ble_eq_true rfl⟩) hW 3 3 rfl rfl rfl rfl hl.1 rfl (Nat.le_of_ble_eq_true rfl) dX3_makeRoomAt_52 ⟨Nat.zero_le _, Nat.zero_le _⟩ (fun H locs hW => ?_)
            refine lv_iinc (v := x2 + 1) (lv' := [(2, .int (x2 + 1)), (4, .int r5), (3, .int r3), (0, .ref (ad 3)), (1, .int x1)]) hx hb dX3_makeRoomAt_55 hl (k := 4) rfl rfl (by decide) rfl (fun ls hl => ?_)
            refine lv_goto (tgt := 2) hx hb dX3_makeRoomAt_58 (by decide) ?_
            exact ih (x2 + 1) G11 z hd _ _ _ hW (lv_sub hl [3, 4, 0] rfl) kx0
        · replace hd := if_f c6 hd
          refine lv_iload_n hx hb dX3_makeRoomAt_30 rfl (lv_at hl 1 rfl) ?_
          refine lv_iconst (v := 1) hx hb dX3_makeRoomAt_31 (by decide) ?_
          refine lv_iadd hx hb dX3_makeRoomAt_32 ?_
          refine lv_goto (tgt := 37) hx hb dX3_makeRoomAt_33 (by decide) ?_
          refine lv_iload hx hb dX3_makeRoomAt_37 (lv_at hl 0 rfl) ?_
          refine lv_iload_n hx hb dX3_makeRoomAt_39 rfl (lv_at hl 3 rfl) ?_
          refine lv_icmp_lt (tgt := 50) hx hb dX3_makeRoomAt_40 (by decide) (fun c12 => ?_) (fun c12 => ?_)
          · replace hd := if_t c12 hd
            refine lv_iload hx hb dX3_makeRoomAt_50 (lv_at hl 0 rfl) ?_
            obtain ⟨G14, h13, hd⟩ := bp_e hd
            refine cVv_ (rest := []) X (kX3_store l Dd Y ad G x2 (r3 + 1) r5 G14 h13) (cwV 3 X.1.2.2.2.2 gX3_makeRoomAt_X3_store rfl rfl rfl (by decide +kernel) ⟨Nat.le_of_ble_eq_true rfl, Nat.le_of_ble_eq_true rfl⟩) hW 3 3 rfl rfl rfl rfl hl.1 rfl (Nat.le_of_ble_eq_true rfl) dX3_makeRoomAt_52 ⟨Nat.zero_le _, Nat.zero_le _⟩ (fun H locs hW => ?_)
            refine lv_iinc (v := x2 + 1) (lv' := [(2, .int (x2 + 1)), (4, .int r5), (3, .int r3), (0, .ref (ad 3)), (1, .int x1)]) hx hb dX3_makeRoomAt_55 hl (k := 4) rfl rfl (by decide) rfl (fun ls hl => ?_)
            refine lv_goto (tgt := 2) hx hb dX3_makeRoomAt_58 (by decide) ?_
            exact ih (x2 + 1) G14 z hd _ _ _ hW (lv_sub hl [3, 4, 0] rfl) kx0
          · replace hd := if_f c12 hd
            refine lv_iload hx hb dX3_makeRoomAt_43 (lv_at hl 0 rfl) ?_
            refine lv_iconst (v := 1) hx hb dX3_makeRoomAt_45 (by decide) ?_
            refine lv_iadd hx hb dX3_makeRoomAt_46 ?_
            refine lv_goto (tgt := 52) hx hb dX3_makeRoomAt_47 (by decide) ?_
            obtain ⟨G16, h15, hd⟩ := bp_e hd
            refine cVv_ (rest := []) X (kX3_store l Dd Y ad G x2 (r3 + 1) (r5 + 1) G16 h15) (cwV 3 X.1.2.2.2.2 gX3_makeRoomAt_X3_store rfl rfl rfl (by decide +kernel) ⟨Nat.le_of_ble_eq_true rfl, Nat.le_of_ble_eq_true rfl⟩) hW 3 3 rfl rfl rfl rfl hl.1 rfl (Nat.le_of_ble_eq_true rfl) dX3_makeRoomAt_52 ⟨Nat.zero_le _, Nat.zero_le _⟩ (fun H locs hW => ?_)
            refine lv_iinc (v := x2 + 1) (lv' := [(2, .int (x2 + 1)), (4, .int r5), (3, .int r3), (0, .ref (ad 3)), (1, .int x1)]) hx hb dX3_makeRoomAt_55 hl (k := 4) rfl rfl (by decide) rfl (fun ls hl => ?_)
            refine lv_goto (tgt := 2) hx hb dX3_makeRoomAt_58 (by decide) ?_
            exact ih (x2 + 1) G16 z hd _ _ _ hW (lv_sub hl [3, 4, 0] rfl) kx0
  refine lv_iconst (v := 0) hx hb dX3_makeRoomAt_0 (by decide) ?_
  refine lv_istore_n (lv' := [(2, .int 0), (0, .ref (ad 3)), (1, .int x1)]) hx hb dX3_makeRoomAt_1 rfl hl (by decide) rfl (fun ls hl => ?_)
  obtain ⟨z2_16, hz2_16, hd⟩ := bp_e hd
  refine K2 x1 FU 0 G z2_16 hz2_16 _ _ _ hW (lv_sub hl [1, 2, 0] rfl) (fun H locs ls e2 hW hl => ?_)
  obtain rfl := Option.some.inj hd
  exact hQ _ _ _ _ hW dX3_makeRoomAt_61
abbrev rmX1_insert : Room := { frames := 4, cells := 0, slots := 0, locals := 90 }
set_option maxRecDepth 100000 in
set_option maxHeartbeats 4000000 in
theorem kX1_insert (l : Launch) (Dd : va_G) (Y : yT) (ad : Nat → Nat) (G : gR) (x1 : Int32) (x2 : Int32) (G' : gR) (hd : dnX1_insert G x1 x2 = some G') : MG l yX1_insert wsX1_insert rmX1_insert Dd Y [.ref (ad 0), .int x1, .int x2] (WR Y ad G) (WR Y ad G') none := by
  refine MGv (cc := cX1_insert) (maxL := 4) (by decide) rfl (Nat.le_of_ble_eq_true rfl) (fun {p e s m args below meth c A} ls Q X hW hl hQ => ?_)
  have hx := X.x
  have hb := X.b
  have hl : lv_has ls 4 [(0, .ref (ad 0)), (1, .int x1), (2, .int x2)] := hl
  have hinX1 : ∀ w ∈ wsX10, w ∈ wsX1_insert := fun w h => List.mem_cons_of_mem _ (List.mem_append_left _ (List.mem_append_right _ h))
  unfold dnX1_insert at hd
  have K5 : ∀ (x1 : Int32) (x2 : Int32) (n : Nat) (x3 : Int32) (G : gR) (z : Nat × gR), lpX1_insert_5 x1 x2 n x3 G = some z → ∀ (H : Heap) (locs : List Loc) (ls : Array Slot), Wd Dd A s.heap (WR Y ad G) H locs → lv_has ls 4 [(0, .ref (ad 0)), (1, .int x1), (2, .int x2), (3, .int x3)] → (∀ (H : Heap) (locs : List Loc) (ls : Array Slot), z.1 = 0 → Wd Dd A s.heap (WR Y ad z.2) H locs → lv_has ls 4 [(0, .ref (ad 0)), (1, .int x1), (2, .int x2)] → W p l e rmX1_insert s m args below meth c H locs 0 0 Q (F0 m 28 ls [])) → W p l e rmX1_insert s m args below meth c H locs 0 0 Q (F0 m 5 ls []) := by
    intro x1 x2 n
    induction n with
    | zero => intro x3 G z hd; cases hd
    | succ n ih =>
      intro x3 G z hd H locs ls hW hl kx0
      unfold lpX1_insert_5 at hd
      refine lv_iload_n hx hb dX1_insert_5 rfl (lv_at hl 3 rfl) ?_
      refine lv_iload_n hx hb dX1_insert_6 rfl (lv_at hl 1 rfl) ?_
      refine lv_icmp_le (tgt := 28) hx hb dX1_insert_7 (by decide) (fun c1 => ?_) (fun c1 => ?_)
      · replace hd := if_t c1 hd
        cases hd
        exact kx0 _ _ _ rfl hW (lv_sub hl [0, 1, 2] rfl)
      · replace hd := if_f c1 hd
        refine lv_aload_n hx hb dX1_insert_10 rfl (lv_at hl 0 rfl) ?_
        refine lv_iload_n hx hb dX1_insert_11 rfl (lv_at hl 3 rfl) ?_
        refine lv_aload_n hx hb dX1_insert_12 rfl (lv_at hl 0 rfl) ?_
        refine lv_iload_n hx hb dX1_insert_13 rfl (lv_at hl 3 rfl) ?_
        refine lv_iconst (v := 1) hx hb dX1_insert_14 (by decide) ?_
        refine lv_isub hx hb dX1_insert_15 ?_
        obtain ⟨r3, h2, hd⟩ := bp_e hd
        refine cVi_ (rest := [.int x3, .ref (ad 0)]) X (kX1_valueAt l Dd Y ad G (x3 - 1) r3 h2) (cwV 1 X.1.2.2.2.2 gX1_insert_X1_valueAt rfl rfl rfl (by decide +kernel) ⟨Nat.le_of_ble_eq_true rfl, Nat.le_of_ble_eq_true rfl⟩) hW 0 1 rfl rfl rfl rfl hl.1 rfl (Nat.le_of_ble_eq_true rfl) dX1_insert_16 ⟨Nat.zero_le _, Nat.zero_le _⟩ (fun H locs hW => ?_)
        obtain ⟨G5, h4, hd⟩ := bp_e hd
        refine cVv_ (rest := []) X (kX1_store l Dd Y ad G x3 r3 G5 h4) (cwV 2 X.1.2.2.2.2 gX1_insert_X1_store rfl rfl rfl (by decide +kernel) ⟨Nat.le_of_ble_eq_true rfl, Nat.le_of_ble_eq_true rfl⟩) hW 0 1 rfl rfl rfl rfl hl.1 rfl (Nat.le_of_ble_eq_true rfl) dX1_insert_19 ⟨Nat.zero_le _, Nat.zero_le _⟩ (fun H locs hW => ?_)
        refine lv_iinc (v := x3 + (-1)) (lv' := [(3, .int (x3 + (-1))), (0, .ref (ad 0)), (1, .int x1), (2, .int x2)]) hx hb dX1_insert_22 hl (k := 3) rfl rfl (by decide) rfl (fun ls hl => ?_)
        refine lv_goto (tgt := 5) hx hb dX1_insert_25 (by decide) ?_
        exact ih (x3 + (-1)) G5 z hd _ _ _ hW (lv_sub hl [1, 2, 3, 0] rfl) kx0
  refine lv_aload_n hx hb dX1_insert_0 rfl (lv_at hl 0 rfl) ?_
  refine g_ X hinX1 hW 0 rfl rfl 3 (by decide) 1 rfl rfl rfl dX1_insert_1 ?_
  refine lv_istore_n (lv' := [(3, .int (G.1 0 3)), (0, .ref (ad 0)), (1, .int x1), (2, .int x2)]) hx hb dX1_insert_4 rfl hl (by decide) rfl (fun ls hl => ?_)
  obtain ⟨z5_5, hz5_5, hd⟩ := bp_e hd
  refine K5 x1 x2 FU (G.1 0 3) G z5_5 hz5_5 _ _ _ hW (lv_sub hl [1, 2, 3, 0] rfl) (fun H locs ls e5 hW hl => ?_)
  refine lv_aload_n hx hb dX1_insert_28 rfl (lv_at hl 0 rfl) ?_
  refine lv_iload_n hx hb dX1_insert_29 rfl (lv_at hl 1 rfl) ?_
  refine lv_iload_n hx hb dX1_insert_30 rfl (lv_at hl 2 rfl) ?_
  obtain ⟨G8, h7, hd⟩ := bp_e hd
  refine cVv_ (rest := []) X (kX1_store l Dd Y ad z5_5.2 x1 x2 G8 h7) (cwV 2 X.1.2.2.2.2 gX1_insert_X1_store rfl rfl rfl (by decide +kernel) ⟨Nat.le_of_ble_eq_true rfl, Nat.le_of_ble_eq_true rfl⟩) hW 0 1 rfl rfl rfl rfl hl.1 rfl (Nat.le_of_ble_eq_true rfl) dX1_insert_31 ⟨Nat.zero_le _, Nat.zero_le _⟩ (fun H locs hW => ?_)
  refine lv_aload_n hx hb dX1_insert_34 rfl (lv_at hl 0 rfl) ?_
  refine lv_dup hx hb dX1_insert_35 rfl ?_
  refine g_ X hinX1 hW 0 rfl rfl 3 (by decide) 1 rfl rfl rfl dX1_insert_36 ?_
  refine lv_iconst (v := 1) hx hb dX1_insert_39 (by decide) ?_
  refine lv_iadd hx hb dX1_insert_40 ?_
  obtain ⟨G9, eG9, hd⟩ := bw_e hd
  refine p_ (ty := .int) X hinX1 tyX1 tyX1_ok nmX1 hW 0 rfl rfl 3 (by decide) 1 rfl rfl rfl (by decide +kernel) rfl rfl (Nat.le_of_ble_eq_true rfl) dX1_insert_41 (ws' := (WR Y ad G9)) (by rw [eG9]; rfl) (fun H locs hW => ?_)
  refine lv_aload_n hx hb dX1_insert_44 rfl (lv_at hl 0 rfl) ?_
  refine g_ X hinX1 hW 0 rfl rfl 2 (by decide) 2 rfl rfl rfl dX1_insert_45 ?_
  refine lv_iload_n hx hb dX1_insert_48 rfl (lv_at hl 1 rfl) ?_
  obtain ⟨G11, h10, hd⟩ := bp_e hd
  refine cVv_ (rest := []) X (kX3_makeRoomAt l Dd Y ad G9 x1 G11 h10) (cwV 1 X.1.2.2.2.2 gX1_insert_X3_makeRoomAt rfl rfl rfl (by decide +kernel) ⟨Nat.le_of_ble_eq_true rfl, Nat.le_of_ble_eq_true rfl⟩) hW 3 3 rfl rfl rfl rfl hl.1 rfl (Nat.le_of_ble_eq_true rfl) dX1_insert_49 ⟨Nat.zero_le _, Nat.zero_le _⟩ (fun H locs hW => ?_)
  refine lv_aload_n hx hb dX1_insert_52 rfl (lv_at hl 0 rfl) ?_
  obtain ⟨G13, h12, hd⟩ := bp_e hd
  refine cVv_ (rest := []) X (kX1_buildAll l Dd Y ad G11 G13 h12) (cwV 0 X.1.2.2.2.2 gX1_insert_X1_buildAll rfl rfl rfl (by decide +kernel) ⟨Nat.le_of_ble_eq_true rfl, Nat.le_of_ble_eq_true rfl⟩) hW 0 1 rfl rfl rfl rfl hl.1 rfl (Nat.le_of_ble_eq_true rfl) dX1_insert_53 ⟨Nat.zero_le _, Nat.zero_le _⟩ (fun H locs hW => ?_)
  obtain rfl := Option.some.inj hd
  exact hQ _ _ _ _ hW dX1_insert_56
abbrev rmX3_closeRoomAt : Room := { frames := 2, cells := 0, slots := 0, locals := 45 }
set_option maxRecDepth 100000 in
set_option maxHeartbeats 4000000 in
theorem kX3_closeRoomAt (l : Launch) (Dd : va_G) (Y : yT) (ad : Nat → Nat) (G : gR) (x1 : Int32) (G' : gR) (hd : dnX3_closeRoomAt G x1 = some G') : MG l yX3_closeRoomAt wsX3_closeRoomAt rmX3_closeRoomAt Dd Y [.ref (ad 3), .int x1] (WR Y ad G) (WR Y ad G') none := by
  refine MGv (cc := cX3_closeRoomAt) (maxL := 5) (by decide) rfl (Nat.le_of_ble_eq_true rfl) (fun {p e s m args below meth c A} ls Q X hW hl hQ => ?_)
  have hx := X.x
  have hb := X.b
  have hl : lv_has ls 5 [(0, .ref (ad 3)), (1, .int x1)] := hl
  have hinX3 : ∀ w ∈ wsX30, w ∈ wsX3_closeRoomAt := fun w h => List.mem_cons_of_mem _ (List.mem_append_right _ h)
  unfold dnX3_closeRoomAt at hd
  have K7 : ∀ (x1 : Int32) (n : Nat) (x2 : Int32) (G : gR) (z : Nat × gR), lpX3_closeRoomAt_7 x1 n x2 G = some z → ∀ (H : Heap) (locs : List Loc) (ls : Array Slot), Wd Dd A s.heap (WR Y ad G) H locs → lv_has ls 5 [(0, .ref (ad 3)), (1, .int x1), (2, .int x2)] → (∀ (H : Heap) (locs : List Loc) (ls : Array Slot), z.1 = 0 → Wd Dd A s.heap (WR Y ad z.2) H locs → lv_has ls 5 [] → W p l e rmX3_closeRoomAt s m args below meth c H locs 0 0 Q (F0 m 81 ls [])) → W p l e rmX3_closeRoomAt s m args below meth c H locs 0 0 Q (F0 m 7 ls []) := by
    intro x1 n
    induction n with
    | zero => intro x2 G z hd; cases hd
    | succ n ih =>
      intro x2 G z hd H locs ls hW hl kx0
      unfold lpX3_closeRoomAt_7 at hd
      refine lv_iload_n hx hb dX3_closeRoomAt_7 rfl (lv_at hl 2 rfl) ?_
      refine lv_if_lt (tgt := 81) hx hb dX3_closeRoomAt_8 (by decide) (fun c1 => ?_) (fun c1 => ?_)
      · replace hd := if_t c1 hd
        cases hd
        exact kx0 _ _ _ rfl hW (lv_sub hl [] rfl)
      · replace hd := if_f c1 hd
        refine lv_aload_n hx hb dX3_closeRoomAt_11 rfl (lv_at hl 0 rfl) ?_
        refine lv_iload_n hx hb dX3_closeRoomAt_12 rfl (lv_at hl 2 rfl) ?_
        obtain ⟨r3, h2, hd⟩ := bp_e hd
        refine cVi_ (rest := []) X (kX3_fromAt l Dd Y ad G x2 r3 h2) (cwV 1 X.1.2.2.2.2 gX3_closeRoomAt_X3_fromAt rfl rfl rfl (by decide +kernel) ⟨Nat.le_of_ble_eq_true rfl, Nat.le_of_ble_eq_true rfl⟩) hW 3 3 rfl rfl rfl rfl hl.1 rfl (Nat.le_of_ble_eq_true rfl) dX3_closeRoomAt_13 ⟨Nat.zero_le _, Nat.zero_le _⟩ (fun H locs hW => ?_)
        refine lv_istore_n (lv' := [(3, .int r3), (0, .ref (ad 3)), (1, .int x1), (2, .int x2)]) hx hb dX3_closeRoomAt_16 rfl hl (by decide) rfl (fun ls hl => ?_)
        refine lv_aload_n hx hb dX3_closeRoomAt_17 rfl (lv_at hl 1 rfl) ?_
        refine lv_iload_n hx hb dX3_closeRoomAt_18 rfl (lv_at hl 3 rfl) ?_
        obtain ⟨r5, h4, hd⟩ := bp_e hd
        refine cVi_ (rest := []) X (kX3_toAt l Dd Y ad G x2 r5 h4) (cwV 1 X.1.2.2.2.2 gX3_closeRoomAt_X3_toAt rfl rfl rfl (by decide +kernel) ⟨Nat.le_of_ble_eq_true rfl, Nat.le_of_ble_eq_true rfl⟩) hW 3 3 rfl rfl rfl rfl hl.1 rfl (Nat.le_of_ble_eq_true rfl) dX3_closeRoomAt_19 ⟨Nat.zero_le _, Nat.zero_le _⟩ (fun H locs hW => ?_)
        refine lv_istore (lv' := [(4, .int r5), (3, .int r3), (0, .ref (ad 3)), (1, .int x1), (2, .int x2)]) hx hb dX3_closeRoomAt_22 hl (by decide) rfl (fun ls hl => ?_)
        refine lv_iload_n hx hb dX3_closeRoomAt_24 rfl (lv_at hl 1 rfl) ?_
        refine lv_iload_n hx hb dX3_closeRoomAt_25 rfl (lv_at hl 3 rfl) ?_
        refine lv_icmp_ne (tgt := 43) hx hb dX3_closeRoomAt_26 (by decide) (fun c6 => ?_) (fun c6 => ?_)
        · replace hd := if_f c6 hd
          refine lv_aload_n hx hb dX3_closeRoomAt_43 rfl (lv_at hl 2 rfl) ?_
          refine lv_iload_n hx hb dX3_closeRoomAt_44 rfl (lv_at hl 4 rfl) ?_
          refine lv_iload_n hx hb dX3_closeRoomAt_45 rfl (lv_at hl 1 rfl) ?_
          refine lv_iload_n hx hb dX3_closeRoomAt_46 rfl (lv_at hl 3 rfl) ?_
          refine lv_icmp_le (tgt := 56) hx hb dX3_closeRoomAt_47 (by decide) (fun c7 => ?_) (fun c7 => ?_)
          · replace hd := if_t c7 hd
            refine lv_iload_n hx hb dX3_closeRoomAt_56 rfl (lv_at hl 1 rfl) ?_
            refine lv_iload hx hb dX3_closeRoomAt_57 (lv_at hl 0 rfl) ?_
            refine lv_iload_n hx hb dX3_closeRoomAt_59 rfl (lv_at hl 3 rfl) ?_
            refine lv_icmp_lt (tgt := 70) hx hb dX3_closeRoomAt_60 (by decide) (fun c8 => ?_) (fun c8 => ?_)
            · replace hd := if_t c8 hd
              refine lv_iload hx hb dX3_closeRoomAt_70 (lv_at hl 0 rfl) ?_
              obtain ⟨G10, h9, hd⟩ := bp_e hd
              refine cVv_ (rest := []) X (kX3_store l Dd Y ad G x2 r3 r5 G10 h9) (cwV 3 X.1.2.2.2.2 gX3_closeRoomAt_X3_store rfl rfl rfl (by decide +kernel) ⟨Nat.le_of_ble_eq_true rfl, Nat.le_of_ble_eq_true rfl⟩) hW 3 3 rfl rfl rfl rfl hl.1 rfl (Nat.le_of_ble_eq_true rfl) dX3_closeRoomAt_72 ⟨Nat.zero_le _, Nat.zero_le _⟩ (fun H locs hW => ?_)
              refine lv_iinc (v := x2 + (-1)) (lv' := [(2, .int (x2 + (-1))), (4, .int r5), (3, .int r3), (0, .ref (ad 3)), (1, .int x1)]) hx hb dX3_closeRoomAt_75 hl (k := 4) rfl rfl (by decide) rfl (fun ls hl => ?_)
              refine lv_goto (tgt := 7) hx hb dX3_closeRoomAt_78 (by decide) ?_
              exact ih (x2 + (-1)) G10 z hd _ _ _ hW (lv_sub hl [3, 4, 0] rfl) kx0
            · replace hd := if_f c8 hd
              refine lv_iload hx hb dX3_closeRoomAt_63 (lv_at hl 0 rfl) ?_
              refine lv_iconst (v := 1) hx hb dX3_closeRoomAt_65 (by decide) ?_
              refine lv_isub hx hb dX3_closeRoomAt_66 ?_
              refine lv_goto (tgt := 72) hx hb dX3_closeRoomAt_67 (by decide) ?_
              obtain ⟨G12, h11, hd⟩ := bp_e hd
              refine cVv_ (rest := []) X (kX3_store l Dd Y ad G x2 r3 (r5 - 1) G12 h11) (cwV 3 X.1.2.2.2.2 gX3_closeRoomAt_X3_store rfl rfl rfl (by decide +kernel) ⟨Nat.le_of_ble_eq_true rfl, Nat.le_of_ble_eq_true rfl⟩) hW 3 3 rfl rfl rfl rfl hl.1 rfl (Nat.le_of_ble_eq_true rfl) dX3_closeRoomAt_72 ⟨Nat.zero_le _, Nat.zero_le _⟩ (fun H locs hW => ?_)
              refine lv_iinc (v := x2 + (-1)) (lv' := [(2, .int (x2 + (-1))), (4, .int r5), (3, .int r3), (0, .ref (ad 3)), (1, .int x1)]) hx hb dX3_closeRoomAt_75 hl (k := 4) rfl rfl (by decide) rfl (fun ls hl => ?_)
              refine lv_goto (tgt := 7) hx hb dX3_closeRoomAt_78 (by decide) ?_
              exact ih (x2 + (-1)) G12 z hd _ _ _ hW (lv_sub hl [3, 4, 0] rfl) kx0
          · replace hd := if_f c7 hd
            refine lv_iload_n hx hb dX3_closeRoomAt_50 rfl (lv_at hl 1 rfl) ?_
            refine lv_iconst (v := 1) hx hb dX3_closeRoomAt_51 (by decide) ?_
            refine lv_isub hx hb dX3_closeRoomAt_52 ?_
            refine lv_goto (tgt := 57) hx hb dX3_closeRoomAt_53 (by decide) ?_
            refine lv_iload hx hb dX3_closeRoomAt_57 (lv_at hl 0 rfl) ?_
            refine lv_iload_n hx hb dX3_closeRoomAt_59 rfl (lv_at hl 3 rfl) ?_
            refine lv_icmp_lt (tgt := 70) hx hb dX3_closeRoomAt_60 (by decide) (fun c13 => ?_) (fun c13 => ?_)
            · replace hd := if_t c13 hd
              refine lv_iload hx hb dX3_closeRoomAt_70 (lv_at hl 0 rfl) ?_
              obtain ⟨G15, h14, hd⟩ := bp_e hd
              refine cVv_ (rest := []) X (kX3_store l Dd Y ad G x2 (r3 - 1) r5 G15 h14) (cwV 3 X.1.2.2.2.2 gX3_closeRoomAt_X3_store rfl rfl rfl (by decide +kernel) ⟨Nat.le_of_ble_eq_true rfl, Nat.le_of_ble_eq_true rfl⟩) hW 3 3 rfl rfl rfl rfl hl.1 rfl (Nat.le_of_ble_eq_true rfl) dX3_closeRoomAt_72 ⟨Nat.zero_le _, Nat.zero_le _⟩ (fun H locs hW => ?_)
              refine lv_iinc (v := x2 + (-1)) (lv' := [(2, .int (x2 + (-1))), (4, .int r5), (3, .int r3), (0, .ref (ad 3)), (1, .int x1)]) hx hb dX3_closeRoomAt_75 hl (k := 4) rfl rfl (by decide) rfl (fun ls hl => ?_)
              refine lv_goto (tgt := 7) hx hb dX3_closeRoomAt_78 (by decide) ?_
              exact ih (x2 + (-1)) G15 z hd _ _ _ hW (lv_sub hl [3, 4, 0] rfl) kx0
            · replace hd := if_f c13 hd
              refine lv_iload hx hb dX3_closeRoomAt_63 (lv_at hl 0 rfl) ?_
              refine lv_iconst (v := 1) hx hb dX3_closeRoomAt_65 (by decide) ?_
              refine lv_isub hx hb dX3_closeRoomAt_66 ?_
              refine lv_goto (tgt := 72) hx hb dX3_closeRoomAt_67 (by decide) ?_
              obtain ⟨G17, h16, hd⟩ := bp_e hd
              refine cVv_ (rest := []) X (kX3_store l Dd Y ad G x2 (r3 - 1) (r5 - 1) G17 h16) (cwV 3 X.1.2.2.2.2 gX3_closeRoomAt_X3_store rfl rfl rfl (by decide +kernel) ⟨Nat.le_of_ble_eq_true rfl, Nat.le_of_ble_eq_true rfl⟩) hW 3 3 rfl rfl rfl rfl hl.1 rfl (Nat.le_of_ble_eq_true rfl) dX3_closeRoomAt_72 ⟨Nat.zero_le _, Nat.zero_le _⟩ (fun H locs hW => ?_)
              refine lv_iinc (v := x2 + (-1)) (lv' := [(2, .int (x2 + (-1))), (4, .int r5), (3, .int r3), (0, .ref (ad 3)), (1, .int x1)]) hx hb dX3_closeRoomAt_75 hl (k := 4) rfl rfl (by decide) rfl (fun ls hl => ?_)
              refine lv_goto (tgt := 7) hx hb dX3_closeRoomAt_78 (by decide) ?_
              exact ih (x2 + (-1)) G17 z hd _ _ _ hW (lv_sub hl [3, 4, 0] rfl) kx0
        · replace hd := if_t c6 hd
          refine lv_iload hx hb dX3_closeRoomAt_29 (lv_at hl 0 rfl) ?_
          refine lv_iload_n hx hb dX3_closeRoomAt_31 rfl (lv_at hl 3 rfl) ?_
          refine lv_icmp_ne (tgt := 43) hx hb dX3_closeRoomAt_32 (by decide) (fun c18 => ?_) (fun c18 => ?_)
          · replace hd := if_f c18 hd
            refine lv_aload_n hx hb dX3_closeRoomAt_43 rfl (lv_at hl 2 rfl) ?_
            refine lv_iload_n hx hb dX3_closeRoomAt_44 rfl (lv_at hl 4 rfl) ?_
            refine lv_iload_n hx hb dX3_closeRoomAt_45 rfl (lv_at hl 1 rfl) ?_
            refine lv_iload_n hx hb dX3_closeRoomAt_46 rfl (lv_at hl 3 rfl) ?_
            refine lv_icmp_le (tgt := 56) hx hb dX3_closeRoomAt_47 (by decide) (fun c19 => ?_) (fun c19 => ?_)
            · replace hd := if_t c19 hd
              refine lv_iload_n hx hb dX3_closeRoomAt_56 rfl (lv_at hl 1 rfl) ?_
              refine lv_iload hx hb dX3_closeRoomAt_57 (lv_at hl 0 rfl) ?_
              refine lv_iload_n hx hb dX3_closeRoomAt_59 rfl (lv_at hl 3 rfl) ?_
              refine lv_icmp_lt (tgt := 70) hx hb dX3_closeRoomAt_60 (by decide) (fun c20 => ?_) (fun c20 => ?_)
              · replace hd := if_t c20 hd
                refine lv_iload hx hb dX3_closeRoomAt_70 (lv_at hl 0 rfl) ?_
                obtain ⟨G22, h21, hd⟩ := bp_e hd
                refine cVv_ (rest := []) X (kX3_store l Dd Y ad G x2 r3 r5 G22 h21) (cwV 3 X.1.2.2.2.2 gX3_closeRoomAt_X3_store rfl rfl rfl (by decide +kernel) ⟨Nat.le_of_ble_eq_true rfl, Nat.le_of_ble_eq_true rfl⟩) hW 3 3 rfl rfl rfl rfl hl.1 rfl (Nat.le_of_ble_eq_true rfl) dX3_closeRoomAt_72 ⟨Nat.zero_le _, Nat.zero_le _⟩ (fun H locs hW => ?_)
                refine lv_iinc (v := x2 + (-1)) (lv' := [(2, .int (x2 + (-1))), (4, .int r5), (3, .int r3), (0, .ref (ad 3)), (1, .int x1)]) hx hb dX3_closeRoomAt_75 hl (k := 4) rfl rfl (by decide) rfl (fun ls hl => ?_)
                refine lv_goto (tgt := 7) hx hb dX3_closeRoomAt_78 (by decide) ?_
                exact ih (x2 + (-1)) G22 z hd _ _ _ hW (lv_sub hl [3, 4, 0] rfl) kx0
              · replace hd := if_f c20 hd
                refine lv_iload hx hb dX3_closeRoomAt_63 (lv_at hl 0 rfl) ?_
                refine lv_iconst (v := 1) hx hb dX3_closeRoomAt_65 (by decide) ?_
                refine lv_isub hx hb dX3_closeRoomAt_66 ?_
                refine lv_goto (tgt := 72) hx hb dX3_closeRoomAt_67 (by decide) ?_
                obtain ⟨G24, h23, hd⟩ := bp_e hd
                refine cVv_ (rest := []) X (kX3_store l Dd Y ad G x2 r3 (r5 - 1) G24 h23) (cwV 3 X.1.2.2.2.2 gX3_closeRoomAt_X3_store rfl rfl rfl (by decide +kernel) ⟨Nat.le_of_ble_eq_true rfl, Nat.le_of_ble_eq_true rfl⟩) hW 3 3 rfl rfl rfl rfl hl.1 rfl (Nat.le_of_ble_eq_true rfl) dX3_closeRoomAt_72 ⟨Nat.zero_le _, Nat.zero_le _⟩ (fun H locs hW => ?_)
                refine lv_iinc (v := x2 + (-1)) (lv' := [(2, .int (x2 + (-1))), (4, .int r5), (3, .int r3), (0, .ref (ad 3)), (1, .int x1)]) hx hb dX3_closeRoomAt_75 hl (k := 4) rfl rfl (by decide) rfl (fun ls hl => ?_)
                refine lv_goto (tgt := 7) hx hb dX3_closeRoomAt_78 (by decide) ?_
                exact ih (x2 + (-1)) G24 z hd _ _ _ hW (lv_sub hl [3, 4, 0] rfl) kx0
            · replace hd := if_f c19 hd
              refine lv_iload_n hx hb dX3_closeRoomAt_50 rfl (lv_at hl 1 rfl) ?_
              refine lv_iconst (v := 1) hx hb dX3_closeRoomAt_51 (by decide) ?_
              refine lv_isub hx hb dX3_closeRoomAt_52 ?_
              refine lv_goto (tgt := 57) hx hb dX3_closeRoomAt_53 (by decide) ?_
              refine lv_iload hx hb dX3_closeRoomAt_57 (lv_at hl 0 rfl) ?_
              refine lv_iload_n hx hb dX3_closeRoomAt_59 rfl (lv_at hl 3 rfl) ?_
              refine lv_icmp_lt (tgt := 70) hx hb dX3_closeRoomAt_60 (by decide) (fun c25 => ?_) (fun c25 => ?_)
              · replace hd := if_t c25 hd
                refine lv_iload hx hb dX3_closeRoomAt_70 (lv_at hl 0 rfl) ?_
                obtain ⟨G27, h26, hd⟩ := bp_e hd
                refine cVv_ (rest := []) X (kX3_store l Dd Y ad G x2 (r3 - 1) r5 G27 h26) (cwV 3 X.1.2.2.2.2 gX3_closeRoomAt_X3_store rfl rfl rfl (by decide +kernel) ⟨Nat.le_of_ble_eq_true rfl, Nat.le_of_ble_eq_true rfl⟩) hW 3 3 rfl rfl rfl rfl hl.1 rfl (Nat.le_of_ble_eq_true rfl) dX3_closeRoomAt_72 ⟨Nat.zero_le _, Nat.zero_le _⟩ (fun H locs hW => ?_)
                refine lv_iinc (v := x2 + (-1)) (lv' := [(2, .int (x2 + (-1))), (4, .int r5), (3, .int r3), (0, .ref (ad 3)), (1, .int x1)]) hx hb dX3_closeRoomAt_75 hl (k := 4) rfl rfl (by decide) rfl (fun ls hl => ?_)
                refine lv_goto (tgt := 7) hx hb dX3_closeRoomAt_78 (by decide) ?_
                exact ih (x2 + (-1)) G27 z hd _ _ _ hW (lv_sub hl [3, 4, 0] rfl) kx0
              · replace hd := if_f c25 hd
                refine lv_iload hx hb dX3_closeRoomAt_63 (lv_at hl 0 rfl) ?_
                refine lv_iconst (v := 1) hx hb dX3_closeRoomAt_65 (by decide) ?_
                refine lv_isub hx hb dX3_closeRoomAt_66 ?_
                refine lv_goto (tgt := 72) hx hb dX3_closeRoomAt_67 (by decide) ?_
                obtain ⟨G29, h28, hd⟩ := bp_e hd
                refine cVv_ (rest := []) X (kX3_store l Dd Y ad G x2 (r3 - 1) (r5 - 1) G29 h28) (cwV 3 X.1.2.2.2.2 gX3_closeRoomAt_X3_store rfl rfl rfl (by decide +kernel) ⟨Nat.le_of_ble_eq_true rfl, Nat.le_of_ble_eq_true rfl⟩) hW 3 3 rfl rfl rfl rfl hl.1 rfl (Nat.le_of_ble_eq_true rfl) dX3_closeRoomAt_72 ⟨Nat.zero_le _, Nat.zero_le _⟩ (fun H locs hW => ?_)
                refine lv_iinc (v := x2 + (-1)) (lv' := [(2, .int (x2 + (-1))), (4, .int r5), (3, .int r3), (0, .ref (ad 3)), (1, .int x1)]) hx hb dX3_closeRoomAt_75 hl (k := 4) rfl rfl (by decide) rfl (fun ls hl => ?_)
                refine lv_goto (tgt := 7) hx hb dX3_closeRoomAt_78 (by decide) ?_
                exact ih (x2 + (-1)) G29 z hd _ _ _ hW (lv_sub hl [3, 4, 0] rfl) kx0
          · replace hd := if_t c18 hd
            refine lv_aload_n hx hb dX3_closeRoomAt_35 rfl (lv_at hl 2 rfl) ?_
            refine lv_iload_n hx hb dX3_closeRoomAt_36 rfl (lv_at hl 4 rfl) ?_
            obtain ⟨G31, h30, hd⟩ := bp_e hd
            refine cVv_ (rest := []) X (kX3_removeAt l Dd Y ad G x2 G31 h30) (cwV 1 X.1.2.2.2.2 gX3_closeRoomAt_X3_removeAt rfl rfl rfl (by decide +kernel) ⟨Nat.le_of_ble_eq_true rfl, Nat.le_of_ble_eq_true rfl⟩) hW 3 3 rfl rfl rfl rfl hl.1 rfl (Nat.le_of_ble_eq_true rfl) dX3_closeRoomAt_37 ⟨Nat.zero_le _, Nat.zero_le _⟩ (fun H locs hW => ?_)
            refine lv_goto (tgt := 75) hx hb dX3_closeRoomAt_40 (by decide) ?_
            refine lv_iinc (v := x2 + (-1)) (lv' := [(2, .int (x2 + (-1))), (4, .int r5), (3, .int r3), (0, .ref (ad 3)), (1, .int x1)]) hx hb dX3_closeRoomAt_75 hl (k := 4) rfl rfl (by decide) rfl (fun ls hl => ?_)
            refine lv_goto (tgt := 7) hx hb dX3_closeRoomAt_78 (by decide) ?_
            exact ih (x2 + (-1)) G31 z hd _ _ _ hW (lv_sub hl [3, 4, 0] rfl) kx0
  refine lv_aload_n hx hb dX3_closeRoomAt_0 rfl (lv_at hl 0 rfl) ?_
  refine g_ X hinX3 hW 3 rfl rfl 2 (by decide) 1 rfl rfl rfl dX3_closeRoomAt_1 ?_
  refine lv_iconst (v := 1) hx hb dX3_closeRoomAt_4 (by decide) ?_
  refine lv_isub hx hb dX3_closeRoomAt_5 ?_
  refine lv_istore_n (lv' := [(2, .int ((G.1 3 2) - 1)), (0, .ref (ad 3)), (1, .int x1)]) hx hb dX3_closeRoomAt_6 rfl hl (by decide) rfl (fun ls hl => ?_)
  obtain ⟨z7_31, hz7_31, hd⟩ := bp_e hd
  refine K7 x1 FU ((G.1 3 2) - 1) G z7_31 hz7_31 _ _ _ hW (lv_sub hl [1, 2, 0] rfl) (fun H locs ls e7 hW hl => ?_)
  obtain rfl := Option.some.inj hd
  exact hQ _ _ _ _ hW dX3_closeRoomAt_81
abbrev rmX1_remove : Room := { frames := 4, cells := 0, slots := 0, locals := 90 }
set_option maxRecDepth 100000 in
set_option maxHeartbeats 4000000 in
theorem kX1_remove (l : Launch) (Dd : va_G) (Y : yT) (ad : Nat → Nat) (G : gR) (x1 : Int32) (r : Int32) (G' : gR) (hd : dnX1_remove G x1 = some (r, G')) : MG l yX1_remove wsX1_remove rmX1_remove Dd Y [.ref (ad 0), .int x1] (WR Y ad G) (WR Y ad G') (some (.int r)) := by
  refine MGi (cc := cX1_remove) (maxL := 4) (ty := .int) (by decide) rfl (Nat.le_of_ble_eq_true rfl) (fun {p e s m args below meth c A} ls Q X hW hl hQ => ?_)
  have hx := X.x
  have hb := X.b
  have hl : lv_has ls 4 [(0, .ref (ad 0)), (1, .int x1)] := hl
  have hinX1 : ∀ w ∈ wsX10, w ∈ wsX1_remove := fun w h => List.mem_cons_of_mem _ (List.mem_append_left _ (List.mem_append_right _ h))
  unfold dnX1_remove at hd
  have K8 : ∀ (x1 : Int32) (x2 : Int32) (n : Nat) (x3 : Int32) (G : gR) (z : Nat × gR), lpX1_remove_8 x1 x2 n x3 G = some z → ∀ (H : Heap) (locs : List Loc) (ls : Array Slot), Wd Dd A s.heap (WR Y ad G) H locs → lv_has ls 4 [(0, .ref (ad 0)), (1, .int x1), (2, .int x2), (3, .int x3)] → (∀ (H : Heap) (locs : List Loc) (ls : Array Slot), z.1 = 0 → Wd Dd A s.heap (WR Y ad z.2) H locs → lv_has ls 4 [(0, .ref (ad 0)), (1, .int x1), (2, .int x2)] → W p l e rmX1_remove s m args below meth c H locs 0 0 Q (F0 m 36 ls [])) → W p l e rmX1_remove s m args below meth c H locs 0 0 Q (F0 m 8 ls []) := by
    intro x1 x2 n
    induction n with
    | zero => intro x3 G z hd; cases hd
    | succ n ih =>
      intro x3 G z hd H locs ls hW hl kx0
      unfold lpX1_remove_8 at hd
      refine lv_iload_n hx hb dX1_remove_8 rfl (lv_at hl 3 rfl) ?_
      refine lv_aload_n hx hb dX1_remove_9 rfl (lv_at hl 0 rfl) ?_
      refine g_ X hinX1 hW 0 rfl rfl 3 (by decide) 1 rfl rfl rfl dX1_remove_10 ?_
      refine lv_iconst (v := 1) hx hb dX1_remove_13 (by decide) ?_
      refine lv_isub hx hb dX1_remove_14 ?_
      refine lv_icmp_ge (tgt := 36) hx hb dX1_remove_15 (by decide) (fun c1 => ?_) (fun c1 => ?_)
      · replace hd := if_t c1 hd
        cases hd
        exact kx0 _ _ _ rfl hW (lv_sub hl [0, 1, 2] rfl)
      · replace hd := if_f c1 hd
        refine lv_aload_n hx hb dX1_remove_18 rfl (lv_at hl 0 rfl) ?_
        refine lv_iload_n hx hb dX1_remove_19 rfl (lv_at hl 3 rfl) ?_
        refine lv_aload_n hx hb dX1_remove_20 rfl (lv_at hl 0 rfl) ?_
        refine lv_iload_n hx hb dX1_remove_21 rfl (lv_at hl 3 rfl) ?_
        refine lv_iconst (v := 1) hx hb dX1_remove_22 (by decide) ?_
        refine lv_iadd hx hb dX1_remove_23 ?_
        obtain ⟨r3, h2, hd⟩ := bp_e hd
        refine cVi_ (rest := [.int x3, .ref (ad 0)]) X (kX1_valueAt l Dd Y ad G (x3 + 1) r3 h2) (cwV 1 X.1.2.2.2.2 gX1_remove_X1_valueAt rfl rfl rfl (by decide +kernel) ⟨Nat.le_of_ble_eq_true rfl, Nat.le_of_ble_eq_true rfl⟩) hW 0 1 rfl rfl rfl rfl hl.1 rfl (Nat.le_of_ble_eq_true rfl) dX1_remove_24 ⟨Nat.zero_le _, Nat.zero_le _⟩ (fun H locs hW => ?_)
        obtain ⟨G5, h4, hd⟩ := bp_e hd
        refine cVv_ (rest := []) X (kX1_store l Dd Y ad G x3 r3 G5 h4) (cwV 2 X.1.2.2.2.2 gX1_remove_X1_store rfl rfl rfl (by decide +kernel) ⟨Nat.le_of_ble_eq_true rfl, Nat.le_of_ble_eq_true rfl⟩) hW 0 1 rfl rfl rfl rfl hl.1 rfl (Nat.le_of_ble_eq_true rfl) dX1_remove_27 ⟨Nat.zero_le _, Nat.zero_le _⟩ (fun H locs hW => ?_)
        refine lv_iinc (v := x3 + 1) (lv' := [(3, .int (x3 + 1)), (0, .ref (ad 0)), (1, .int x1), (2, .int x2)]) hx hb dX1_remove_30 hl (k := 3) rfl rfl (by decide) rfl (fun ls hl => ?_)
        refine lv_goto (tgt := 8) hx hb dX1_remove_33 (by decide) ?_
        exact ih (x3 + 1) G5 z hd _ _ _ hW (lv_sub hl [1, 2, 3, 0] rfl) kx0
  refine lv_aload_n hx hb dX1_remove_0 rfl (lv_at hl 0 rfl) ?_
  refine lv_iload_n hx hb dX1_remove_1 rfl (lv_at hl 1 rfl) ?_
  obtain ⟨r7, h6, hd⟩ := bp_e hd
  refine cVi_ (rest := []) X (kX1_valueAt l Dd Y ad G x1 r7 h6) (cwV 1 X.1.2.2.2.2 gX1_remove_X1_valueAt rfl rfl rfl (by decide +kernel) ⟨Nat.le_of_ble_eq_true rfl, Nat.le_of_ble_eq_true rfl⟩) hW 0 1 rfl rfl rfl rfl hl.1 rfl (Nat.le_of_ble_eq_true rfl) dX1_remove_2 ⟨Nat.zero_le _, Nat.zero_le _⟩ (fun H locs hW => ?_)
  refine lv_istore_n (lv' := [(2, .int r7), (0, .ref (ad 0)), (1, .int x1)]) hx hb dX1_remove_5 rfl hl (by decide) rfl (fun ls hl => ?_)
  refine lv_iload_n hx hb dX1_remove_6 rfl (lv_at hl 2 rfl) ?_
  refine lv_istore_n (lv' := [(3, .int x1), (2, .int r7), (0, .ref (ad 0)), (1, .int x1)]) hx hb dX1_remove_7 rfl hl (by decide) rfl (fun ls hl => ?_)
  obtain ⟨z8_7, hz8_7, hd⟩ := bp_e hd
  refine K8 x1 r7 FU x1 G z8_7 hz8_7 _ _ _ hW (lv_sub hl [2, 3, 1, 0] rfl) (fun H locs ls e8 hW hl => ?_)
  refine lv_aload_n hx hb dX1_remove_36 rfl (lv_at hl 0 rfl) ?_
  refine lv_dup hx hb dX1_remove_37 rfl ?_
  refine g_ X hinX1 hW 0 rfl rfl 3 (by decide) 1 rfl rfl rfl dX1_remove_38 ?_
  refine lv_iconst (v := 1) hx hb dX1_remove_41 (by decide) ?_
  refine lv_isub hx hb dX1_remove_42 ?_
  obtain ⟨G9, eG9, hd⟩ := bw_e hd
  refine p_ (ty := .int) X hinX1 tyX1 tyX1_ok nmX1 hW 0 rfl rfl 3 (by decide) 1 rfl rfl rfl (by decide +kernel) rfl rfl (Nat.le_of_ble_eq_true rfl) dX1_remove_43 (ws' := (WR Y ad G9)) (by rw [eG9]; rfl) (fun H locs hW => ?_)
  refine lv_aload_n hx hb dX1_remove_46 rfl (lv_at hl 0 rfl) ?_
  refine g_ X hinX1 hW 0 rfl rfl 2 (by decide) 2 rfl rfl rfl dX1_remove_47 ?_
  refine lv_iload_n hx hb dX1_remove_50 rfl (lv_at hl 1 rfl) ?_
  obtain ⟨G11, h10, hd⟩ := bp_e hd
  refine cVv_ (rest := []) X (kX3_closeRoomAt l Dd Y ad G9 x1 G11 h10) (cwV 1 X.1.2.2.2.2 gX1_remove_X3_closeRoomAt rfl rfl rfl (by decide +kernel) ⟨Nat.le_of_ble_eq_true rfl, Nat.le_of_ble_eq_true rfl⟩) hW 3 3 rfl rfl rfl rfl hl.1 rfl (Nat.le_of_ble_eq_true rfl) dX1_remove_51 ⟨Nat.zero_le _, Nat.zero_le _⟩ (fun H locs hW => ?_)
  refine lv_aload_n hx hb dX1_remove_54 rfl (lv_at hl 0 rfl) ?_
  obtain ⟨G13, h12, hd⟩ := bp_e hd
  refine cVv_ (rest := []) X (kX1_buildAll l Dd Y ad G11 G13 h12) (cwV 0 X.1.2.2.2.2 gX1_remove_X1_buildAll rfl rfl rfl (by decide +kernel) ⟨Nat.le_of_ble_eq_true rfl, Nat.le_of_ble_eq_true rfl⟩) hW 0 1 rfl rfl rfl rfl hl.1 rfl (Nat.le_of_ble_eq_true rfl) dX1_remove_55 ⟨Nat.zero_le _, Nat.zero_le _⟩ (fun H locs hW => ?_)
  refine lv_iload_n hx hb dX1_remove_58 rfl (lv_at hl 2 rfl) ?_
  obtain ⟨rfl, rfl⟩ := Prod.mk.inj (Option.some.inj hd)
  exact hQ _ _ _ _ rfl hW dX1_remove_59
abbrev rmX1_changeRule : Room := { frames := 4, cells := 0, slots := 0, locals := 90 }
set_option maxRecDepth 100000 in
set_option maxHeartbeats 4000000 in
theorem kX1_changeRule (l : Launch) (Dd : va_G) (Y : yT) (ad : Nat → Nat) (G : gR) (x1 : Int32) (r : Int32) (G' : gR) (hd : dnX1_changeRule G x1 = some (r, G')) : MG l yX1_changeRule wsX1_changeRule rmX1_changeRule Dd Y [.ref (ad 0), .int x1] (WR Y ad G) (WR Y ad G') (some (.int r)) := by
  refine MGi (cc := cX1_changeRule) (maxL := 3) (ty := .int) (by decide) rfl (Nat.le_of_ble_eq_true rfl) (fun {p e s m args below meth c A} ls Q X hW hl hQ => ?_)
  have hx := X.x
  have hb := X.b
  have hl : lv_has ls 3 [(0, .ref (ad 0)), (1, .int x1)] := hl
  have hinX1 : ∀ w ∈ wsX10, w ∈ wsX1_changeRule := fun w h => List.mem_cons_of_mem _ (List.mem_append_right _ h)
  unfold dnX1_changeRule at hd
  refine lv_aload_n hx hb dX1_changeRule_0 rfl (lv_at hl 0 rfl) ?_
  refine g_ X hinX1 hW 0 rfl rfl 4 (by decide) 1 rfl rfl rfl dX1_changeRule_1 ?_
  refine lv_istore_n (lv' := [(2, .int (G.1 0 4)), (0, .ref (ad 0)), (1, .int x1)]) hx hb dX1_changeRule_4 rfl hl (by decide) rfl (fun ls hl => ?_)
  refine lv_aload_n hx hb dX1_changeRule_5 rfl (lv_at hl 1 rfl) ?_
  refine lv_iload_n hx hb dX1_changeRule_6 rfl (lv_at hl 2 rfl) ?_
  obtain ⟨G1, eG1, hd⟩ := bw_e hd
  refine p_ (ty := .int) X hinX1 tyX1 tyX1_ok nmX1 hW 0 rfl rfl 4 (by decide) 1 rfl rfl rfl (by decide +kernel) rfl rfl (Nat.le_of_ble_eq_true rfl) dX1_changeRule_7 (ws' := (WR Y ad G1)) (by rw [eG1]; rfl) (fun H locs hW => ?_)
  refine lv_aload_n hx hb dX1_changeRule_10 rfl (lv_at hl 1 rfl) ?_
  obtain ⟨G3, h2, hd⟩ := bp_e hd
  refine cVv_ (rest := []) X (kX1_buildAll l Dd Y ad G1 G3 h2) (cwV 0 X.1.2.2.2.2 gX1_changeRule_X1_buildAll rfl rfl rfl (by decide +kernel) ⟨Nat.le_of_ble_eq_true rfl, Nat.le_of_ble_eq_true rfl⟩) hW 0 1 rfl rfl rfl rfl hl.1 rfl (Nat.le_of_ble_eq_true rfl) dX1_changeRule_11 ⟨Nat.zero_le _, Nat.zero_le _⟩ (fun H locs hW => ?_)
  refine lv_iload_n hx hb dX1_changeRule_14 rfl (lv_at hl 0 rfl) ?_
  obtain ⟨rfl, rfl⟩ := Prod.mk.inj (Option.some.inj hd)
  exact hQ _ _ _ _ rfl hW dX1_changeRule_15
abbrev rmX1_changeMost : Room := { frames := 0, cells := 0, slots := 0, locals := 0 }
set_option maxRecDepth 100000 in
set_option maxHeartbeats 4000000 in
theorem kX1_changeMost (l : Launch) (Dd : va_G) (Y : yT) (ad : Nat → Nat) (G : gR) (x1 : Int32) (r : Int32) (G' : gR) (hd : dnX1_changeMost G x1 = some (r, G')) : MG l yX1_changeMost wsX1_changeMost rmX1_changeMost Dd Y [.ref (ad 0), .int x1] (WR Y ad G) (WR Y ad G') (some (.int r)) := by
  refine MGi (cc := cX1_changeMost) (maxL := 3) (ty := .int) (by decide) rfl (Nat.le_of_ble_eq_true rfl) (fun {p e s m args below meth c A} ls Q X hW hl hQ => ?_)
  have hx := X.x
  have hb := X.b
  have hl : lv_has ls 3 [(0, .ref (ad 0)), (1, .int x1)] := hl
  have hinX1 : ∀ w ∈ wsX10, w ∈ wsX1_changeMost := fun w h => List.mem_cons_of_mem _ (List.mem_append_right _ h)
  unfold dnX1_changeMost at hd
  refine lv_aload_n hx hb dX1_changeMost_0 rfl (lv_at hl 0 rfl) ?_
  refine g_ X hinX1 hW 0 rfl rfl 5 (by decide) 1 rfl rfl rfl dX1_changeMost_1 ?_
  refine lv_istore_n (lv' := [(2, .int (G.1 0 5)), (0, .ref (ad 0)), (1, .int x1)]) hx hb dX1_changeMost_4 rfl hl (by decide) rfl (fun ls hl => ?_)
  refine lv_aload_n hx hb dX1_changeMost_5 rfl (lv_at hl 1 rfl) ?_
  refine lv_iload_n hx hb dX1_changeMost_6 rfl (lv_at hl 2 rfl) ?_
  obtain ⟨G1, eG1, hd⟩ := bw_e hd
  refine p_ (ty := .int) X hinX1 tyX1 tyX1_ok nmX1 hW 0 rfl rfl 5 (by decide) 1 rfl rfl rfl (by decide +kernel) rfl rfl (Nat.le_of_ble_eq_true rfl) dX1_changeMost_7 (ws' := (WR Y ad G1)) (by rw [eG1]; rfl) (fun H locs hW => ?_)
  refine lv_iload_n hx hb dX1_changeMost_10 rfl (lv_at hl 0 rfl) ?_
  obtain ⟨rfl, rfl⟩ := Prod.mk.inj (Option.some.inj hd)
  exact hQ _ _ _ _ rfl hW dX1_changeMost_11
abbrev rmX2_addWord : Room := { frames := 0, cells := 0, slots := 0, locals := 0 }
set_option maxRecDepth 100000 in
set_option maxHeartbeats 4000000 in
theorem kX2_addWord (l : Launch) (Dd : va_G) (Y : yT) (ad ar : Nat → Nat) (D : gD) (x1 : Int32) (D' : gD) (hd : dnX2_addWord D x1 = some D') : MG l yX2_addWord wsX2_addWord rmX2_addWord Dd Y [.ref (ad 0), .int x1] (WD Y ad ar D) (WD Y ad ar D') none := by
  refine MGv (cc := cX2_addWord) (maxL := 3) (by decide) rfl (Nat.le_of_ble_eq_true rfl) (fun {p e s m args below meth c A} ls Q X hW hl hQ => ?_)
  have hx := X.x
  have hb := X.b
  have hl : lv_has ls 3 [(0, .ref (ad 0)), (1, .int x1)] := hl
  have hinX2 : ∀ w ∈ wsX20, w ∈ wsX2_addWord := fun w h => List.mem_cons_of_mem _ (List.mem_append_right _ h)
  unfold dnX2_addWord at hd
  have K3 : ∀ (x1 : Int32) (n : Nat) (x2 : Int32) (D : gD) (z : Nat × gD), lpX2_addWord_3 x1 n x2 D = some z → ∀ (H : Heap) (locs : List Loc) (ls : Array Slot), Wd Dd A s.heap (WD Y ad ar D) H locs → lv_has ls 3 [(0, .ref (ad 0)), (1, .int x1), (2, .int x2)] → (∀ (H : Heap) (locs : List Loc) (ls : Array Slot), z.1 = 0 → Wd Dd A s.heap (WD Y ad ar z.2) H locs → lv_has ls 3 [] → W p l e rmX2_addWord s m args below meth c H locs 0 0 Q (F0 m 58 ls [])) → W p l e rmX2_addWord s m args below meth c H locs 0 0 Q (F0 m 3 ls []) := by
    intro x1 n
    induction n with
    | zero => intro x2 D z hd; cases hd
    | succ n ih =>
      intro x2 D z hd H locs ls hW hl kx0
      unfold lpX2_addWord_3 at hd
      refine lv_iload_n hx hb dX2_addWord_3 rfl (lv_at hl 2 rfl) ?_
      refine lv_if_lt (tgt := 58) hx hb dX2_addWord_4 (by decide) (fun c1 => ?_) (fun c1 => ?_)
      · replace hd := if_t c1 hd
        cases hd
        exact kx0 _ _ _ rfl hW (lv_sub hl [] rfl)
      · replace hd := if_f c1 hd
        refine lv_aload_n hx hb dX2_addWord_7 rfl (lv_at hl 0 rfl) ?_
        refine g_ X hinX2 hW 0 rfl rfl 1 (by decide) 1 rfl rfl rfl dX2_addWord_8 ?_
        refine lv_if_lt (tgt := 52) hx hb dX2_addWord_11 (by decide) (fun c2 => ?_) (fun c2 => ?_)
        · replace hd := if_t c2 hd
          refine lv_iinc (v := x2 + (-8)) (lv' := [(2, .int (x2 + (-8))), (0, .ref (ad 0)), (1, .int x1)]) hx hb dX2_addWord_52 hl (k := 2) rfl rfl (by decide) rfl (fun ls hl => ?_)
          refine lv_goto (tgt := 3) hx hb dX2_addWord_55 (by decide) ?_
          exact ih (x2 + (-8)) D z hd _ _ _ hW (lv_sub hl [1, 2, 0] rfl) kx0
        · replace hd := if_f c2 hd
          refine lv_aload_n hx hb dX2_addWord_14 rfl (lv_at hl 0 rfl) ?_
          refine g_ X hinX2 hW 0 rfl rfl 1 (by decide) 1 rfl rfl rfl dX2_addWord_15 ?_
          refine lv_aload_n hx hb dX2_addWord_18 rfl (lv_at hl 0 rfl) ?_
          refine g_ X hinX2 hW 0 rfl rfl 0 (by decide) 2 rfl rfl rfl dX2_addWord_19 ?_
          refine len_ (v := 500) X hW 1 0 rfl rfl rfl dX2_addWord_22 ?_
          refine lv_icmp_ge (tgt := 52) hx hb dX2_addWord_23 (by decide) (fun c3 => ?_) (fun c3 => ?_)
          · replace hd := if_t c3 hd
            refine lv_iinc (v := x2 + (-8)) (lv' := [(2, .int (x2 + (-8))), (0, .ref (ad 0)), (1, .int x1)]) hx hb dX2_addWord_52 hl (k := 2) rfl rfl (by decide) rfl (fun ls hl => ?_)
            refine lv_goto (tgt := 3) hx hb dX2_addWord_55 (by decide) ?_
            exact ih (x2 + (-8)) D z hd _ _ _ hW (lv_sub hl [1, 2, 0] rfl) kx0
          · replace hd := if_f c3 hd
            refine lv_aload_n hx hb dX2_addWord_26 rfl (lv_at hl 0 rfl) ?_
            refine g_ X hinX2 hW 0 rfl rfl 0 (by decide) 2 rfl rfl rfl dX2_addWord_27 ?_
            refine lv_aload_n hx hb dX2_addWord_30 rfl (lv_at hl 0 rfl) ?_
            refine g_ X hinX2 hW 0 rfl rfl 1 (by decide) 1 rfl rfl rfl dX2_addWord_31 ?_
            refine lv_iload_n hx hb dX2_addWord_34 rfl (lv_at hl 1 rfl) ?_
            refine lv_iload_n hx hb dX2_addWord_35 rfl (lv_at hl 2 rfl) ?_
            refine lv_iushr (v := (x1.toUInt32 >>> (x2.toUInt32 &&& Int32.toUInt32 31)).toInt32) hx hb dX2_addWord_36 rfl ?_
            refine lv_sipush (v := 255) hx hb dX2_addWord_37 (by decide) ?_
            refine lv_iand hx hb dX2_addWord_40 ?_
            obtain ⟨hi4, hd⟩ := wi_e hd
            obtain ⟨F5, eF5, hd⟩ := bw_e hd
            refine s_ X hW 1 rfl rfl hi4 dX2_addWord_41 (ws' := (WD Y ad ar (F5, D.2))) (by rw [eF5]; rfl) (fun H locs hW => ?_)
            refine lv_aload_n hx hb dX2_addWord_42 rfl (lv_at hl 0 rfl) ?_
            refine lv_dup hx hb dX2_addWord_43 rfl ?_
            refine g_ X hinX2 hW 0 rfl rfl 1 (by decide) 1 rfl rfl rfl dX2_addWord_44 ?_
            refine lv_iconst (v := 1) hx hb dX2_addWord_47 (by decide) ?_
            refine lv_iadd hx hb dX2_addWord_48 ?_
            obtain ⟨F7, eF7, hd⟩ := bw_e hd
            refine p_ (ty := .int) X hinX2 tyX2 tyX2_ok nmX2 hW 0 rfl rfl 1 (by decide) 1 rfl rfl rfl (by decide +kernel) rfl rfl (Nat.le_of_ble_eq_true rfl) dX2_addWord_49 (ws' := (WD Y ad ar (F7, D.2))) (by rw [eF7]; rfl) (fun H locs hW => ?_)
            refine lv_iinc (v := x2 + (-8)) (lv' := [(2, .int (x2 + (-8))), (0, .ref (ad 0)), (1, .int x1)]) hx hb dX2_addWord_52 hl (k := 2) rfl rfl (by decide) rfl (fun ls hl => ?_)
            refine lv_goto (tgt := 3) hx hb dX2_addWord_55 (by decide) ?_
            exact ih (x2 + (-8)) (F7, D.2) z hd _ _ _ hW (lv_sub hl [1, 2, 0] rfl) kx0
  refine lv_bipush (v := 24) hx hb dX2_addWord_0 (by decide) ?_
  refine lv_istore_n (lv' := [(2, .int 24), (0, .ref (ad 0)), (1, .int x1)]) hx hb dX2_addWord_2 rfl hl (by decide) rfl (fun ls hl => ?_)
  obtain ⟨z3_7, hz3_7, hd⟩ := bp_e hd
  refine K3 x1 FU 24 D z3_7 hz3_7 _ _ _ hW (lv_sub hl [1, 2, 0] rfl) (fun H locs ls e3 hW hl => ?_)
  obtain rfl := Option.some.inj hd
  exact hQ _ _ _ _ hW dX2_addWord_58
abbrev rmX3_add : Room := { frames := 1, cells := 0, slots := 0, locals := 23 }
set_option maxRecDepth 100000 in
set_option maxHeartbeats 4000000 in
theorem kX3_add (l : Launch) (Dd : va_G) (Y : yT) (ad : Nat → Nat) (G : gR) (x1 : Int32) (x2 : Int32) (G' : gR) (hd : dnX3_add G x1 x2 = some G') : MG l yX3_add wsX3_add rmX3_add Dd Y [.ref (ad 3), .int x1, .int x2] (WR Y ad G) (WR Y ad G') none := by
  refine MGv (cc := cX3_add) (maxL := 3) (by decide) rfl (Nat.le_of_ble_eq_true rfl) (fun {p e s m args below meth c A} ls Q X hW hl hQ => ?_)
  have hx := X.x
  have hb := X.b
  have hl : lv_has ls 3 [(0, .ref (ad 3)), (1, .int x1), (2, .int x2)] := hl
  have hinX3 : ∀ w ∈ wsX30, w ∈ wsX3_add := fun w h => List.mem_cons_of_mem _ (List.mem_append_right _ h)
  unfold dnX3_add at hd
  refine lv_aload_n hx hb dX3_add_0 rfl (lv_at hl 0 rfl) ?_
  refine lv_aload_n hx hb dX3_add_1 rfl (lv_at hl 0 rfl) ?_
  refine g_ X hinX3 hW 3 rfl rfl 2 (by decide) 1 rfl rfl rfl dX3_add_2 ?_
  refine lv_iload_n hx hb dX3_add_5 rfl (lv_at hl 1 rfl) ?_
  refine lv_iload_n hx hb dX3_add_6 rfl (lv_at hl 2 rfl) ?_
  obtain ⟨G2, h1, hd⟩ := bp_e hd
  refine cVv_ (rest := []) X (kX3_store l Dd Y ad G (G.1 3 2) x1 x2 G2 h1) (cwV 3 X.1.2.2.2.2 gX3_add_X3_store rfl rfl rfl (by decide +kernel) ⟨Nat.le_of_ble_eq_true rfl, Nat.le_of_ble_eq_true rfl⟩) hW 3 3 rfl rfl rfl rfl hl.1 rfl (Nat.le_of_ble_eq_true rfl) dX3_add_7 ⟨Nat.zero_le _, Nat.zero_le _⟩ (fun H locs hW => ?_)
  refine lv_aload_n hx hb dX3_add_10 rfl (lv_at hl 0 rfl) ?_
  refine lv_dup hx hb dX3_add_11 rfl ?_
  refine g_ X hinX3 hW 3 rfl rfl 2 (by decide) 1 rfl rfl rfl dX3_add_12 ?_
  refine lv_iconst (v := 1) hx hb dX3_add_15 (by decide) ?_
  refine lv_iadd hx hb dX3_add_16 ?_
  obtain ⟨G3, eG3, hd⟩ := bw_e hd
  refine p_ (ty := .int) X hinX3 tyX3 tyX3_ok nmX3 hW 3 rfl rfl 2 (by decide) 1 rfl rfl rfl (by decide +kernel) rfl rfl (Nat.le_of_ble_eq_true rfl) dX3_add_17 (ws' := (WR Y ad G3)) (by rw [eG3]; rfl) (fun H locs hW => ?_)
  obtain rfl := Option.some.inj hd
  exact hQ _ _ _ _ hW dX3_add_20
abbrev rmX2_carryOut : Room := { frames := 5, cells := 0, slots := 0, locals := 113 }
set_option maxRecDepth 100000 in
set_option maxHeartbeats 4000000 in
theorem kX2_carryOut (l : Launch) (Dd : va_G) (Y : yT) (ad ar : Nat → Nat) (D : gD) (x1 : Int32) (D' : gD) (hd : dnX2_carryOut D x1 = some D') : MG l yX2_carryOut wsX2_carryOut rmX2_carryOut Dd Y [.ref (ad 0), .int x1] (WD Y ad ar D) (WD Y ad ar D') none := by
  refine MGv (cc := cX2_carryOut) (maxL := 2) (by decide) rfl (Nat.le_of_ble_eq_true rfl) (fun {p e s m args below meth c A} ls Q X hW hl hQ => ?_)
  have hx := X.x
  have hb := X.b
  have hl : lv_has ls 2 [(0, .ref (ad 0)), (1, .int x1)] := hl
  have hinX1 : ∀ w ∈ wsX10, w ∈ wsX2_carryOut := fun w h => List.mem_cons_of_mem _ (List.mem_append_left _ (List.mem_append_right _ h))
  have hinX2 : ∀ w ∈ wsX20, w ∈ wsX2_carryOut := fun w h => List.mem_cons_of_mem _ (List.mem_append_left _ (List.mem_append_left _ (List.mem_append_right _ h)))
  unfold dnX2_carryOut at hd
  refine lv_iload_n hx hb dX2_carryOut_0 rfl (lv_at hl 1 rfl) ?_
  by_cases t1 : x1 = 1
  · replace hd := if_t t1 hd
    refine lv_tableIn (off := 35) (tgt := 36) hx hb dX2_carryOut_1 (by rw [t1]; decide) (by rw [t1]; decide) (by rw [t1]; rfl) (by decide) ?_
    refine lv_aload_n hx hb dX2_carryOut_36 rfl (lv_at hl 0 rfl) ?_
    refine g_ X hinX2 hW 0 rfl rfl 2 (by decide) 1 rfl rfl rfl dX2_carryOut_37 ?_
    refine lv_aload_n hx hb dX2_carryOut_40 rfl (lv_at hl 0 rfl) ?_
    refine g_ X hinX2 hW 0 rfl rfl 9 (by decide) 2 rfl rfl rfl dX2_carryOut_41 ?_
    refine lv_aload_n hx hb dX2_carryOut_44 rfl (lv_at hl 0 rfl) ?_
    refine g_ X hinX2 hW 0 rfl rfl 10 (by decide) 3 rfl rfl rfl dX2_carryOut_45 ?_
    obtain ⟨r3, G4, h2, hd⟩ := bs_e hd
    refine cVpi_ (wc := (WR Y ar D.2)) (w1 := (WR Y ar G4)) (ws' := (WD Y ad ar (D.1, G4))) (rest := []) X (kX1_change l Dd Y ar D.2 (D.1 0 9) (D.1 0 10) r3 G4 h2) (cwV 2 X.1.2.2.2.2 gX2_carryOut_X1_change rfl rfl rfl (by decide +kernel) ⟨Nat.le_of_ble_eq_true rfl, Nat.le_of_ble_eq_true rfl⟩) hW rfl rfl 0 1 rfl rfl rfl rfl hl.1 rfl (Nat.le_of_ble_eq_true rfl) dX2_carryOut_48 ⟨Nat.zero_le _, Nat.zero_le _⟩ (fun H locs hW => ?_)
    refine lv_pop hx hb dX2_carryOut_51 rfl ?_
    refine lv_goto (tgt := 128) hx hb dX2_carryOut_52 (by decide) ?_
    obtain rfl := Option.some.inj hd
    exact hQ _ _ _ _ hW dX2_carryOut_128
  replace hd := if_f t1 hd
  have ot1 : ¬ x1.toInt = 1 := fun h => t1 (Int32.toInt_inj.mp (h.trans (by decide)))
  by_cases t5 : x1 = 2
  · replace hd := if_t t5 hd
    refine lv_tableIn (off := 54) (tgt := 55) hx hb dX2_carryOut_1 (by rw [t5]; decide) (by rw [t5]; decide) (by rw [t5]; rfl) (by decide) ?_
    refine lv_aload_n hx hb dX2_carryOut_55 rfl (lv_at hl 0 rfl) ?_
    refine g_ X hinX2 hW 0 rfl rfl 2 (by decide) 1 rfl rfl rfl dX2_carryOut_56 ?_
    refine lv_aload_n hx hb dX2_carryOut_59 rfl (lv_at hl 0 rfl) ?_
    refine g_ X hinX2 hW 0 rfl rfl 9 (by decide) 2 rfl rfl rfl dX2_carryOut_60 ?_
    refine lv_aload_n hx hb dX2_carryOut_63 rfl (lv_at hl 0 rfl) ?_
    refine g_ X hinX2 hW 0 rfl rfl 10 (by decide) 3 rfl rfl rfl dX2_carryOut_64 ?_
    obtain ⟨r7, G8, h6, hd⟩ := bs_e hd
    refine cVpi_ (wc := (WR Y ar D.2)) (w1 := (WR Y ar G8)) (ws' := (WD Y ad ar (D.1, G8))) (rest := []) X (kX1_question l Dd Y ar D.2 (D.1 0 9) (D.1 0 10) r7 G8 h6) (cwV 2 X.1.2.2.2.2 gX2_carryOut_X1_question rfl rfl rfl (by decide +kernel) ⟨Nat.le_of_ble_eq_true rfl, Nat.le_of_ble_eq_true rfl⟩) hW rfl rfl 0 1 rfl rfl rfl rfl hl.1 rfl (Nat.le_of_ble_eq_true rfl) dX2_carryOut_67 ⟨Nat.zero_le _, Nat.zero_le _⟩ (fun H locs hW => ?_)
    refine lv_pop hx hb dX2_carryOut_70 rfl ?_
    refine lv_goto (tgt := 128) hx hb dX2_carryOut_71 (by decide) ?_
    obtain rfl := Option.some.inj hd
    exact hQ _ _ _ _ hW dX2_carryOut_128
  replace hd := if_f t5 hd
  have ot5 : ¬ x1.toInt = 2 := fun h => t5 (Int32.toInt_inj.mp (h.trans (by decide)))
  by_cases t9 : x1 = 3
  · replace hd := if_t t9 hd
    refine lv_tableIn (off := 73) (tgt := 74) hx hb dX2_carryOut_1 (by rw [t9]; decide) (by rw [t9]; decide) (by rw [t9]; rfl) (by decide) ?_
    refine lv_aload_n hx hb dX2_carryOut_74 rfl (lv_at hl 0 rfl) ?_
    refine g_ X hinX2 hW 0 rfl rfl 2 (by decide) 1 rfl rfl rfl dX2_carryOut_75 ?_
    refine g_ X hinX1 hW 2 rfl rfl 2 (by decide) 4 rfl rfl rfl dX2_carryOut_78 ?_
    refine lv_aload_n hx hb dX2_carryOut_81 rfl (lv_at hl 0 rfl) ?_
    refine g_ X hinX2 hW 0 rfl rfl 9 (by decide) 2 rfl rfl rfl dX2_carryOut_82 ?_
    refine lv_aload_n hx hb dX2_carryOut_85 rfl (lv_at hl 0 rfl) ?_
    refine g_ X hinX2 hW 0 rfl rfl 10 (by decide) 3 rfl rfl rfl dX2_carryOut_86 ?_
    obtain ⟨G11, h10, hd⟩ := bp_e hd
    refine cVpv_ (wc := (WR Y ar D.2)) (w1 := (WR Y ar G11)) (ws' := (WD Y ad ar (D.1, G11))) (rest := []) X (kX3_add l Dd Y ar D.2 (D.1 0 9) (D.1 0 10) G11 h10) (cwV 2 X.1.2.2.2.2 gX2_carryOut_X3_add rfl rfl rfl (by decide +kernel) ⟨Nat.le_of_ble_eq_true rfl, Nat.le_of_ble_eq_true rfl⟩) hW rfl rfl 3 3 rfl rfl rfl rfl hl.1 rfl (Nat.le_of_ble_eq_true rfl) dX2_carryOut_89 ⟨Nat.zero_le _, Nat.zero_le _⟩ (fun H locs hW => ?_)
    refine lv_goto (tgt := 128) hx hb dX2_carryOut_92 (by decide) ?_
    obtain rfl := Option.some.inj hd
    exact hQ _ _ _ _ hW dX2_carryOut_128
  replace hd := if_f t9 hd
  have ot9 : ¬ x1.toInt = 3 := fun h => t9 (Int32.toInt_inj.mp (h.trans (by decide)))
  by_cases t12 : x1 = 4
  · replace hd := if_t t12 hd
    refine lv_tableIn (off := 94) (tgt := 95) hx hb dX2_carryOut_1 (by rw [t12]; decide) (by rw [t12]; decide) (by rw [t12]; rfl) (by decide) ?_
    refine lv_aload_n hx hb dX2_carryOut_95 rfl (lv_at hl 0 rfl) ?_
    refine g_ X hinX2 hW 0 rfl rfl 2 (by decide) 1 rfl rfl rfl dX2_carryOut_96 ?_
    refine lv_aload_n hx hb dX2_carryOut_99 rfl (lv_at hl 0 rfl) ?_
    refine g_ X hinX2 hW 0 rfl rfl 9 (by decide) 2 rfl rfl rfl dX2_carryOut_100 ?_
    refine lv_aload_n hx hb dX2_carryOut_103 rfl (lv_at hl 0 rfl) ?_
    refine g_ X hinX2 hW 0 rfl rfl 10 (by decide) 3 rfl rfl rfl dX2_carryOut_104 ?_
    obtain ⟨G14, h13, hd⟩ := bp_e hd
    refine cVpv_ (wc := (WR Y ar D.2)) (w1 := (WR Y ar G14)) (ws' := (WD Y ad ar (D.1, G14))) (rest := []) X (kX1_insert l Dd Y ar D.2 (D.1 0 9) (D.1 0 10) G14 h13) (cwV 2 X.1.2.2.2.2 gX2_carryOut_X1_insert rfl rfl rfl (by decide +kernel) ⟨Nat.le_of_ble_eq_true rfl, Nat.le_of_ble_eq_true rfl⟩) hW rfl rfl 0 1 rfl rfl rfl rfl hl.1 rfl (Nat.le_of_ble_eq_true rfl) dX2_carryOut_107 ⟨Nat.zero_le _, Nat.zero_le _⟩ (fun H locs hW => ?_)
    refine lv_goto (tgt := 128) hx hb dX2_carryOut_110 (by decide) ?_
    obtain rfl := Option.some.inj hd
    exact hQ _ _ _ _ hW dX2_carryOut_128
  replace hd := if_f t12 hd
  have ot12 : ¬ x1.toInt = 4 := fun h => t12 (Int32.toInt_inj.mp (h.trans (by decide)))
  by_cases t15 : x1 = 5
  · replace hd := if_t t15 hd
    refine lv_tableIn (off := 112) (tgt := 113) hx hb dX2_carryOut_1 (by rw [t15]; decide) (by rw [t15]; decide) (by rw [t15]; rfl) (by decide) ?_
    refine lv_aload_n hx hb dX2_carryOut_113 rfl (lv_at hl 0 rfl) ?_
    refine g_ X hinX2 hW 0 rfl rfl 2 (by decide) 1 rfl rfl rfl dX2_carryOut_114 ?_
    refine lv_aload_n hx hb dX2_carryOut_117 rfl (lv_at hl 0 rfl) ?_
    refine g_ X hinX2 hW 0 rfl rfl 9 (by decide) 2 rfl rfl rfl dX2_carryOut_118 ?_
    obtain ⟨r17, G18, h16, hd⟩ := bs_e hd
    refine cVpi_ (wc := (WR Y ar D.2)) (w1 := (WR Y ar G18)) (ws' := (WD Y ad ar (D.1, G18))) (rest := []) X (kX1_remove l Dd Y ar D.2 (D.1 0 9) r17 G18 h16) (cwV 1 X.1.2.2.2.2 gX2_carryOut_X1_remove rfl rfl rfl (by decide +kernel) ⟨Nat.le_of_ble_eq_true rfl, Nat.le_of_ble_eq_true rfl⟩) hW rfl rfl 0 1 rfl rfl rfl rfl hl.1 rfl (Nat.le_of_ble_eq_true rfl) dX2_carryOut_121 ⟨Nat.zero_le _, Nat.zero_le _⟩ (fun H locs hW => ?_)
    refine lv_pop hx hb dX2_carryOut_124 rfl ?_
    refine lv_goto (tgt := 128) hx hb dX2_carryOut_125 (by decide) ?_
    obtain rfl := Option.some.inj hd
    exact hQ _ _ _ _ hW dX2_carryOut_128
  replace hd := if_f t15 hd
  have ot15 : ¬ x1.toInt = 5 := fun h => t15 (Int32.toInt_inj.mp (h.trans (by decide)))
  refine lv_tableOut (tgt := 128) hx hb dX2_carryOut_1 (by omega) (by decide) ?_
  obtain rfl := Option.some.inj hd
  exact hQ _ _ _ _ hW dX2_carryOut_128
abbrev rmX2_byteAt : Room := { frames := 0, cells := 0, slots := 0, locals := 0 }
set_option maxRecDepth 100000 in
set_option maxHeartbeats 4000000 in
theorem kX2_byteAt (l : Launch) (Dd : va_G) (Y : yT) (ad ar : Nat → Nat) (D : gD) (x1 : Int32) (r : Int32) (hd : dnX2_byteAt D x1 = some r) : MG l yX2_byteAt wsX2_byteAt rmX2_byteAt Dd Y [.ref (ad 0), .int x1] (WD Y ad ar D) (WD Y ad ar D) (some (.int r)) := by
  refine MGi (cc := cX2_byteAt) (maxL := 2) (ty := .int) (by decide) rfl (Nat.le_of_ble_eq_true rfl) (fun {p e s m args below meth c A} ls Q X hW hl hQ => ?_)
  have hx := X.x
  have hb := X.b
  have hl : lv_has ls 2 [(0, .ref (ad 0)), (1, .int x1)] := hl
  have hinX2 : ∀ w ∈ wsX20, w ∈ wsX2_byteAt := fun w h => List.mem_cons_of_mem _ (List.mem_append_right _ h)
  unfold dnX2_byteAt at hd
  refine lv_iload_n hx hb dX2_byteAt_0 rfl (lv_at hl 1 rfl) ?_
  refine lv_if_lt (tgt := 30) hx hb dX2_byteAt_1 (by decide) (fun c1 => ?_) (fun c1 => ?_)
  · replace hd := if_t c1 hd
    refine lv_iconst (v := (-1)) hx hb dX2_byteAt_30 (by decide) ?_
    have hd := Option.some.inj hd
    subst hd
    exact hQ _ _ _ _ rfl hW dX2_byteAt_31
  · replace hd := if_f c1 hd
    refine lv_iload_n hx hb dX2_byteAt_4 rfl (lv_at hl 1 rfl) ?_
    refine lv_aload_n hx hb dX2_byteAt_5 rfl (lv_at hl 0 rfl) ?_
    refine g_ X hinX2 hW 0 rfl rfl 5 (by decide) 1 rfl rfl rfl dX2_byteAt_6 ?_
    refine lv_icmp_ge (tgt := 30) hx hb dX2_byteAt_9 (by decide) (fun c2 => ?_) (fun c2 => ?_)
    · replace hd := if_t c2 hd
      refine lv_iconst (v := (-1)) hx hb dX2_byteAt_30 (by decide) ?_
      have hd := Option.some.inj hd
      subst hd
      exact hQ _ _ _ _ rfl hW dX2_byteAt_31
    · replace hd := if_f c2 hd
      refine lv_iload_n hx hb dX2_byteAt_12 rfl (lv_at hl 1 rfl) ?_
      refine lv_aload_n hx hb dX2_byteAt_13 rfl (lv_at hl 0 rfl) ?_
      refine g_ X hinX2 hW 0 rfl rfl 0 (by decide) 2 rfl rfl rfl dX2_byteAt_14 ?_
      refine len_ (v := 500) X hW 1 0 rfl rfl rfl dX2_byteAt_17 ?_
      refine lv_icmp_ge (tgt := 30) hx hb dX2_byteAt_18 (by decide) (fun c3 => ?_) (fun c3 => ?_)
      · replace hd := if_t c3 hd
        refine lv_iconst (v := (-1)) hx hb dX2_byteAt_30 (by decide) ?_
        have hd := Option.some.inj hd
        subst hd
        exact hQ _ _ _ _ rfl hW dX2_byteAt_31
      · replace hd := if_f c3 hd
        refine lv_aload_n hx hb dX2_byteAt_21 rfl (lv_at hl 0 rfl) ?_
        refine g_ X hinX2 hW 0 rfl rfl 0 (by decide) 2 rfl rfl rfl dX2_byteAt_22 ?_
        refine lv_iload_n hx hb dX2_byteAt_25 rfl (lv_at hl 1 rfl) ?_
        obtain ⟨hi4, hd⟩ := ra_e hd
        refine a_ X hW 1 rfl rfl hi4 dX2_byteAt_26 ?_
        generalize (D.1 1) x1.toNatClampNeg = v5 at hd ⊢
        refine lv_goto (tgt := 31) hx hb dX2_byteAt_27 (by decide) ?_
        have hd := Option.some.inj hd
        subst hd
        exact hQ _ _ _ _ rfl hW dX2_byteAt_31
abbrev rmX2_goTo : Room := { frames := 1, cells := 0, slots := 0, locals := 21 }
set_option maxRecDepth 100000 in
set_option maxHeartbeats 4000000 in
theorem kX2_goTo (l : Launch) (Dd : va_G) (Y : yT) (ad ar : Nat → Nat) (D : gD) (x1 : Int32) (D' : gD) (hd : dnX2_goTo D x1 = some D') : MG l yX2_goTo wsX2_goTo rmX2_goTo Dd Y [.ref (ad 0), .int x1] (WD Y ad ar D) (WD Y ad ar D') none := by
  refine MGv (cc := cX2_goTo) (maxL := 2) (by decide) rfl (Nat.le_of_ble_eq_true rfl) (fun {p e s m args below meth c A} ls Q X hW hl hQ => ?_)
  have hx := X.x
  have hb := X.b
  have hl : lv_has ls 2 [(0, .ref (ad 0)), (1, .int x1)] := hl
  have hinX2 : ∀ w ∈ wsX20, w ∈ wsX2_goTo := fun w h => List.mem_cons_of_mem _ (List.mem_append_right _ h)
  unfold dnX2_goTo at hd
  have K5 : ∀ (n : Nat) (D : gD) (z : Nat × gD), lpX2_goTo_5 n D = some z → ∀ (H : Heap) (locs : List Loc) (ls : Array Slot), Wd Dd A s.heap (WD Y ad ar D) H locs → lv_has ls 2 [(0, .ref (ad 0))] → (∀ (H : Heap) (locs : List Loc) (ls : Array Slot), z.1 = 0 → Wd Dd A s.heap (WD Y ad ar z.2) H locs → lv_has ls 2 [] → W p l e rmX2_goTo s m args below meth c H locs 0 0 Q (F0 m 42 ls [])) → W p l e rmX2_goTo s m args below meth c H locs 0 0 Q (F0 m 5 ls []) := by
    intro n
    induction n with
    | zero => intro D z hd; cases hd
    | succ n ih =>
      intro D z hd H locs ls hW hl kx0
      unfold lpX2_goTo_5 at hd
      refine lv_aload_n hx hb dX2_goTo_5 rfl (lv_at hl 0 rfl) ?_
      refine g_ X hinX2 hW 0 rfl rfl 6 (by decide) 1 rfl rfl rfl dX2_goTo_6 ?_
      refine lv_aload_n hx hb dX2_goTo_9 rfl (lv_at hl 0 rfl) ?_
      refine g_ X hinX2 hW 0 rfl rfl 5 (by decide) 2 rfl rfl rfl dX2_goTo_10 ?_
      refine lv_icmp_ge (tgt := 42) hx hb dX2_goTo_13 (by decide) (fun c1 => ?_) (fun c1 => ?_)
      · replace hd := if_t c1 hd
        cases hd
        exact kx0 _ _ _ rfl hW (lv_sub hl [] rfl)
      · replace hd := if_f c1 hd
        refine lv_aload_n hx hb dX2_goTo_16 rfl (lv_at hl 0 rfl) ?_
        refine lv_aload_n hx hb dX2_goTo_17 rfl (lv_at hl 0 rfl) ?_
        refine g_ X hinX2 hW 0 rfl rfl 6 (by decide) 1 rfl rfl rfl dX2_goTo_18 ?_
        obtain ⟨r3, h2, hd⟩ := bp_e hd
        refine cVi_ (rest := []) X (kX2_byteAt l Dd Y ad ar D (D.1 0 6) r3 h2) (cwV 1 X.1.2.2.2.2 gX2_goTo_X2_byteAt rfl rfl rfl (by decide +kernel) ⟨Nat.le_of_ble_eq_true rfl, Nat.le_of_ble_eq_true rfl⟩) hW 0 2 rfl rfl rfl rfl hl.1 rfl (Nat.le_of_ble_eq_true rfl) dX2_goTo_21 ⟨Nat.zero_le _, Nat.zero_le _⟩ (fun H locs hW => ?_)
        refine lv_bipush (v := 32) hx hb dX2_goTo_24 (by decide) ?_
        refine lv_icmp_ne (tgt := 42) hx hb dX2_goTo_26 (by decide) (fun c4 => ?_) (fun c4 => ?_)
        · replace hd := if_f c4 hd
          cases hd
          exact kx0 _ _ _ rfl hW (lv_sub hl [] rfl)
        · replace hd := if_t c4 hd
          refine lv_aload_n hx hb dX2_goTo_29 rfl (lv_at hl 0 rfl) ?_
          refine lv_dup hx hb dX2_goTo_30 rfl ?_
          refine g_ X hinX2 hW 0 rfl rfl 6 (by decide) 1 rfl rfl rfl dX2_goTo_31 ?_
          refine lv_iconst (v := 1) hx hb dX2_goTo_34 (by decide) ?_
          refine lv_iadd hx hb dX2_goTo_35 ?_
          obtain ⟨F5, eF5, hd⟩ := bw_e hd
          refine p_ (ty := .int) X hinX2 tyX2 tyX2_ok nmX2 hW 0 rfl rfl 6 (by decide) 1 rfl rfl rfl (by decide +kernel) rfl rfl (Nat.le_of_ble_eq_true rfl) dX2_goTo_36 (ws' := (WD Y ad ar (F5, D.2))) (by rw [eF5]; rfl) (fun H locs hW => ?_)
          refine lv_goto (tgt := 5) hx hb dX2_goTo_39 (by decide) ?_
          exact ih  (F5, D.2) z hd _ _ _ hW (lv_sub hl [0] rfl) kx0
  refine lv_aload_n hx hb dX2_goTo_0 rfl (lv_at hl 0 rfl) ?_
  refine lv_iload_n hx hb dX2_goTo_1 rfl (lv_at hl 1 rfl) ?_
  obtain ⟨F6, eF6, hd⟩ := bw_e hd
  refine p_ (ty := .int) X hinX2 tyX2 tyX2_ok nmX2 hW 0 rfl rfl 6 (by decide) 1 rfl rfl rfl (by decide +kernel) rfl rfl (Nat.le_of_ble_eq_true rfl) dX2_goTo_2 (ws' := (WD Y ad ar (F6, D.2))) (by rw [eF6]; rfl) (fun H locs hW => ?_)
  obtain ⟨z5_6, hz5_6, hd⟩ := bp_e hd
  refine K5 FU (F6, D.2) z5_6 hz5_6 _ _ _ hW (lv_sub hl [0] rfl) (fun H locs ls e5 hW hl => ?_)
  obtain rfl := Option.some.inj hd
  exact hQ _ _ _ _ hW dX2_goTo_42
abbrev rmX2_fail : Room := { frames := 0, cells := 0, slots := 0, locals := 0 }
set_option maxRecDepth 100000 in
set_option maxHeartbeats 4000000 in
theorem kX2_fail (l : Launch) (Dd : va_G) (Y : yT) (ad ar : Nat → Nat) (D : gD) (x1 : Int32) (x2 : Int32) (r : Int32) (D' : gD) (hd : dnX2_fail D x1 x2 = some (r, D')) : MG l yX2_fail wsX2_fail rmX2_fail Dd Y [.ref (ad 0), .int x1, .int x2] (WD Y ad ar D) (WD Y ad ar D') (some (.int r)) := by
  refine MGi (cc := cX2_fail) (maxL := 3) (ty := .boolean) (by decide) rfl (Nat.le_of_ble_eq_true rfl) (fun {p e s m args below meth c A} ls Q X hW hl hQ => ?_)
  have hx := X.x
  have hb := X.b
  have hl : lv_has ls 3 [(0, .ref (ad 0)), (1, .int x1), (2, .int x2)] := hl
  have hinX2 : ∀ w ∈ wsX20, w ∈ wsX2_fail := fun w h => List.mem_cons_of_mem _ (List.mem_append_right _ h)
  unfold dnX2_fail at hd
  refine lv_aload_n hx hb dX2_fail_0 rfl (lv_at hl 0 rfl) ?_
  refine lv_iload_n hx hb dX2_fail_1 rfl (lv_at hl 1 rfl) ?_
  obtain ⟨F1, eF1, hd⟩ := bw_e hd
  refine p_ (ty := .int) X hinX2 tyX2 tyX2_ok nmX2 hW 0 rfl rfl 3 (by decide) 1 rfl rfl rfl (by decide +kernel) rfl rfl (Nat.le_of_ble_eq_true rfl) dX2_fail_2 (ws' := (WD Y ad ar (F1, D.2))) (by rw [eF1]; rfl) (fun H locs hW => ?_)
  refine lv_aload_n hx hb dX2_fail_5 rfl (lv_at hl 0 rfl) ?_
  refine lv_iload_n hx hb dX2_fail_6 rfl (lv_at hl 2 rfl) ?_
  obtain ⟨F2, eF2, hd⟩ := bw_e hd
  refine p_ (ty := .int) X hinX2 tyX2 tyX2_ok nmX2 hW 0 rfl rfl 4 (by decide) 2 rfl rfl rfl (by decide +kernel) rfl rfl (Nat.le_of_ble_eq_true rfl) dX2_fail_7 (ws' := (WD Y ad ar (F2, D.2))) (by rw [eF2]; rfl) (fun H locs hW => ?_)
  refine lv_iconst (v := 0) hx hb dX2_fail_10 (by decide) ?_
  obtain ⟨rfl, rfl⟩ := Prod.mk.inj (Option.some.inj hd)
  exact hQ _ _ _ _ (nz_b (Or.inl rfl)) hW dX2_fail_11
abbrev rmX2_isDigit : Room := { frames := 0, cells := 0, slots := 0, locals := 0 }
set_option maxRecDepth 100000 in
set_option maxHeartbeats 4000000 in
theorem kX2_isDigit (l : Launch) (Dd : va_G) (Y : yT) (x0 : Int32) (r : Int32) (hd : dnX2_isDigit x0 = some r) : MG l yX2_isDigit wsX2_isDigit rmX2_isDigit Dd Y [.int x0] [] [] (some (.int r)) := by
  refine MGi (cc := cX2_isDigit) (maxL := 1) (ty := .boolean) (by decide) rfl (Nat.le_of_ble_eq_true rfl) (fun {p e s m args below meth c A} ls Q X hW hl hQ => ?_)
  have hx := X.x
  have hb := X.b
  have hl : lv_has ls 1 [(0, .int x0)] := hl
  unfold dnX2_isDigit at hd
  refine lv_iload_n hx hb dX2_isDigit_0 rfl (lv_at hl 0 rfl) ?_
  refine lv_bipush (v := 48) hx hb dX2_isDigit_1 (by decide) ?_
  refine lv_icmp_lt (tgt := 16) hx hb dX2_isDigit_3 (by decide) (fun c1 => ?_) (fun c1 => ?_)
  · replace hd := if_t c1 hd
    refine lv_iconst (v := 0) hx hb dX2_isDigit_16 (by decide) ?_
    have hd := Option.some.inj hd
    subst hd
    exact hQ _ _ _ _ (nz_b (Or.inl rfl)) hW dX2_isDigit_17
  · replace hd := if_f c1 hd
    refine lv_iload_n hx hb dX2_isDigit_6 rfl (lv_at hl 0 rfl) ?_
    refine lv_bipush (v := 57) hx hb dX2_isDigit_7 (by decide) ?_
    refine lv_icmp_gt (tgt := 16) hx hb dX2_isDigit_9 (by decide) (fun c2 => ?_) (fun c2 => ?_)
    · replace hd := if_t c2 hd
      refine lv_iconst (v := 0) hx hb dX2_isDigit_16 (by decide) ?_
      have hd := Option.some.inj hd
      subst hd
      exact hQ _ _ _ _ (nz_b (Or.inl rfl)) hW dX2_isDigit_17
    · replace hd := if_f c2 hd
      refine lv_iconst (v := 1) hx hb dX2_isDigit_12 (by decide) ?_
      refine lv_goto (tgt := 17) hx hb dX2_isDigit_13 (by decide) ?_
      have hd := Option.some.inj hd
      subst hd
      exact hQ _ _ _ _ (nz_b (Or.inr rfl)) hW dX2_isDigit_17
abbrev rmX2_readNumber : Room := { frames := 2, cells := 0, slots := 0, locals := 42 }
set_option maxRecDepth 100000 in
set_option maxHeartbeats 4000000 in
theorem kX2_readNumber (l : Launch) (Dd : va_G) (Y : yT) (ad ar : Nat → Nat) (D : gD) (x1 : Int32) (x2 : Int32) (r : Int32) (D' : gD) (hd : dnX2_readNumber D x1 x2 = some (r, D')) : MG l yX2_readNumber wsX2_readNumber rmX2_readNumber Dd Y [.ref (ad 0), .int x1, .int x2] (WD Y ad ar D) (WD Y ad ar D') (some (.int r)) := by
  refine MGi (cc := cX2_readNumber) (maxL := 4) (ty := .boolean) (by decide) rfl (Nat.le_of_ble_eq_true rfl) (fun {p e s m args below meth c A} ls Q X hW hl hQ => ?_)
  have hx := X.x
  have hb := X.b
  have hl : lv_has ls 4 [(0, .ref (ad 0)), (1, .int x1), (2, .int x2)] := hl
  have hinX2 : ∀ w ∈ wsX20, w ∈ wsX2_readNumber := fun w h => List.mem_cons_of_mem _ (List.mem_append_right _ h)
  unfold dnX2_readNumber at hd
  have K43 : ∀ (x1 : Int32) (x2 : Int32) (n : Nat) (x3 : Int32) (D : gD) (z : Nat × Int32 × gD), lpX2_readNumber_43 x1 x2 n x3 D = some z → ∀ (H : Heap) (locs : List Loc) (ls : Array Slot), Wd Dd A s.heap (WD Y ad ar D) H locs → lv_has ls 4 [(0, .ref (ad 0)), (1, .int x1), (2, .int x2), (3, .int x3)] → (∀ (H : Heap) (locs : List Loc) (ls : Array Slot), z.1 = 0 → Wd Dd A s.heap (WD Y ad ar z.2.2) H locs → lv_has ls 4 [(0, .ref (ad 0)), (1, .int x1), (2, .int x2), (3, .int z.2.1)] → W p l e rmX2_readNumber s m args below meth c H locs 0 0 Q (F0 m 94 ls [])) → W p l e rmX2_readNumber s m args below meth c H locs 0 0 Q (F0 m 43 ls []) := by
    intro x1 x2 n
    induction n with
    | zero => intro x3 D z hd; cases hd
    | succ n ih =>
      intro x3 D z hd H locs ls hW hl kx0
      unfold lpX2_readNumber_43 at hd
      refine lv_iload_n hx hb dX2_readNumber_43 rfl (lv_at hl 3 rfl) ?_
      refine lv_aload_n hx hb dX2_readNumber_44 rfl (lv_at hl 0 rfl) ?_
      refine g_ X hinX2 hW 0 rfl rfl 5 (by decide) 4 rfl rfl rfl dX2_readNumber_45 ?_
      refine lv_icmp_ge (tgt := 94) hx hb dX2_readNumber_48 (by decide) (fun c1 => ?_) (fun c1 => ?_)
      · replace hd := if_t c1 hd
        cases hd
        exact kx0 _ _ _ rfl hW (lv_sub hl [0, 1, 2, 3] rfl)
      · replace hd := if_f c1 hd
        refine lv_aload_n hx hb dX2_readNumber_51 rfl (lv_at hl 0 rfl) ?_
        refine lv_iload_n hx hb dX2_readNumber_52 rfl (lv_at hl 3 rfl) ?_
        obtain ⟨r3, h2, hd⟩ := bp_e hd
        refine cVi_ (rest := []) X (kX2_byteAt l Dd Y ad ar D x3 r3 h2) (cwV 1 X.1.2.2.2.2 gX2_readNumber_X2_byteAt rfl rfl rfl (by decide +kernel) ⟨Nat.le_of_ble_eq_true rfl, Nat.le_of_ble_eq_true rfl⟩) hW 0 2 rfl rfl rfl rfl hl.1 rfl (Nat.le_of_ble_eq_true rfl) dX2_readNumber_53 ⟨Nat.zero_le _, Nat.zero_le _⟩ (fun H locs hW => ?_)
        obtain ⟨r5, h4, hd⟩ := bp_e hd
        refine cSi_ (rest := []) X (kX2_isDigit l Dd Y r3 r5 h4) (va_cwS 1 X.1.2.2.2.2 gX2_readNumber_X2_isDigit rfl rfl rfl (by decide +kernel) ⟨Nat.le_of_ble_eq_true rfl, Nat.le_of_ble_eq_true rfl⟩) hW rfl hl.1 rfl (Nat.le_of_ble_eq_true rfl) dX2_readNumber_56 ⟨Nat.zero_le _, Nat.zero_le _⟩ (fun H locs hW => ?_)
        refine lv_if_eq (tgt := 94) hx hb dX2_readNumber_59 (by decide) (fun c6 => ?_) (fun c6 => ?_)
        · replace hd := if_t c6 hd
          cases hd
          exact kx0 _ _ _ rfl hW (lv_sub hl [0, 1, 2, 3] rfl)
        · replace hd := if_f c6 hd
          refine lv_aload_n hx hb dX2_readNumber_62 rfl (lv_at hl 0 rfl) ?_
          refine lv_bipush (v := 10) hx hb dX2_readNumber_63 (by decide) ?_
          refine lv_aload_n hx hb dX2_readNumber_65 rfl (lv_at hl 0 rfl) ?_
          refine g_ X hinX2 hW 0 rfl rfl 7 (by decide) 3 rfl rfl rfl dX2_readNumber_66 ?_
          refine lv_imul hx hb dX2_readNumber_69 ?_
          refine lv_aload_n hx hb dX2_readNumber_70 rfl (lv_at hl 0 rfl) ?_
          refine lv_iload_n hx hb dX2_readNumber_71 rfl (lv_at hl 3 rfl) ?_
          obtain ⟨r8, h7, hd⟩ := bp_e hd
          refine cVi_ (rest := [.int (10 * (D.1 0 7)), .ref (ad 0)]) X (kX2_byteAt l Dd Y ad ar D x3 r8 h7) (cwV 1 X.1.2.2.2.2 gX2_readNumber_X2_byteAt rfl rfl rfl (by decide +kernel) ⟨Nat.le_of_ble_eq_true rfl, Nat.le_of_ble_eq_true rfl⟩) hW 0 2 rfl rfl rfl rfl hl.1 rfl (Nat.le_of_ble_eq_true rfl) dX2_readNumber_72 ⟨Nat.zero_le _, Nat.zero_le _⟩ (fun H locs hW => ?_)
          refine lv_iadd hx hb dX2_readNumber_75 ?_
          refine lv_bipush (v := 48) hx hb dX2_readNumber_76 (by decide) ?_
          refine lv_isub hx hb dX2_readNumber_78 ?_
          refine lv_sipush (v := 1000) hx hb dX2_readNumber_79 (by decide) ?_
          refine min_ X hl.1 5 6 7 8 rfl rfl rfl rfl ⟨Nat.le_of_ble_eq_true rfl, Nat.le_of_ble_eq_true rfl⟩ (Nat.le_of_ble_eq_true rfl) ⟨Nat.zero_le _, Nat.zero_le _⟩ dX2_readNumber_82 ?_
          obtain ⟨F9, eF9, hd⟩ := bw_e hd
          refine p_ (ty := .int) X hinX2 tyX2 tyX2_ok nmX2 hW 0 rfl rfl 7 (by decide) 3 rfl rfl rfl (by decide +kernel) rfl rfl (Nat.le_of_ble_eq_true rfl) dX2_readNumber_85 (ws' := (WD Y ad ar (F9, D.2))) (by rw [eF9]; rfl) (fun H locs hW => ?_)
          refine lv_iinc (v := x3 + 1) (lv' := [(3, .int (x3 + 1)), (0, .ref (ad 0)), (1, .int x1), (2, .int x2)]) hx hb dX2_readNumber_88 hl (k := 3) rfl rfl (by decide) rfl (fun ls hl => ?_)
          refine lv_goto (tgt := 43) hx hb dX2_readNumber_91 (by decide) ?_
          exact ih (x3 + 1) (F9, D.2) z hd _ _ _ hW (lv_sub hl [1, 2, 3, 0] rfl) kx0
  refine lv_aload_n hx hb dX2_readNumber_0 rfl (lv_at hl 0 rfl) ?_
  refine lv_aload_n hx hb dX2_readNumber_1 rfl (lv_at hl 0 rfl) ?_
  refine g_ X hinX2 hW 0 rfl rfl 6 (by decide) 1 rfl rfl rfl dX2_readNumber_2 ?_
  obtain ⟨r11, h10, hd⟩ := bp_e hd
  refine cVi_ (rest := []) X (kX2_byteAt l Dd Y ad ar D (D.1 0 6) r11 h10) (cwV 1 X.1.2.2.2.2 gX2_readNumber_X2_byteAt rfl rfl rfl (by decide +kernel) ⟨Nat.le_of_ble_eq_true rfl, Nat.le_of_ble_eq_true rfl⟩) hW 0 2 rfl rfl rfl rfl hl.1 rfl (Nat.le_of_ble_eq_true rfl) dX2_readNumber_5 ⟨Nat.zero_le _, Nat.zero_le _⟩ (fun H locs hW => ?_)
  obtain ⟨r13, h12, hd⟩ := bp_e hd
  refine cSi_ (rest := []) X (kX2_isDigit l Dd Y r11 r13 h12) (va_cwS 1 X.1.2.2.2.2 gX2_readNumber_X2_isDigit rfl rfl rfl (by decide +kernel) ⟨Nat.le_of_ble_eq_true rfl, Nat.le_of_ble_eq_true rfl⟩) hW rfl hl.1 rfl (Nat.le_of_ble_eq_true rfl) dX2_readNumber_8 ⟨Nat.zero_le _, Nat.zero_le _⟩ (fun H locs hW => ?_)
  refine lv_if_ne (tgt := 25) hx hb dX2_readNumber_11 (by decide) (fun c14 => ?_) (fun c14 => ?_)
  · replace hd := if_f c14 hd
    refine lv_aload_n hx hb dX2_readNumber_25 rfl (lv_at hl 0 rfl) ?_
    refine lv_aload_n hx hb dX2_readNumber_26 rfl (lv_at hl 0 rfl) ?_
    refine g_ X hinX2 hW 0 rfl rfl 6 (by decide) 1 rfl rfl rfl dX2_readNumber_27 ?_
    obtain ⟨F15, eF15, hd⟩ := bw_e hd
    refine p_ (ty := .int) X hinX2 tyX2 tyX2_ok nmX2 hW 0 rfl rfl 8 (by decide) 2 rfl rfl rfl (by decide +kernel) rfl rfl (Nat.le_of_ble_eq_true rfl) dX2_readNumber_30 (ws' := (WD Y ad ar (F15, D.2))) (by rw [eF15]; rfl) (fun H locs hW => ?_)
    refine lv_aload_n hx hb dX2_readNumber_33 rfl (lv_at hl 0 rfl) ?_
    refine lv_iconst (v := 0) hx hb dX2_readNumber_34 (by decide) ?_
    obtain ⟨F16, eF16, hd⟩ := bw_e hd
    refine p_ (ty := .int) X hinX2 tyX2 tyX2_ok nmX2 hW 0 rfl rfl 7 (by decide) 3 rfl rfl rfl (by decide +kernel) rfl rfl (Nat.le_of_ble_eq_true rfl) dX2_readNumber_35 (ws' := (WD Y ad ar (F16, D.2))) (by rw [eF16]; rfl) (fun H locs hW => ?_)
    refine lv_aload_n hx hb dX2_readNumber_38 rfl (lv_at hl 0 rfl) ?_
    refine g_ X hinX2 hW 0 rfl rfl 6 (by decide) 1 rfl rfl rfl dX2_readNumber_39 ?_
    refine lv_istore_n (lv' := [(3, .int (F16 0 6)), (0, .ref (ad 0)), (1, .int x1), (2, .int x2)]) hx hb dX2_readNumber_42 rfl hl (by decide) rfl (fun ls hl => ?_)
    obtain ⟨z43_16, hz43_16, hd⟩ := bp_e hd
    refine K43 x1 x2 FU (F16 0 6) (F16, D.2) z43_16 hz43_16 _ _ _ hW (lv_sub hl [1, 2, 3, 0] rfl) (fun H locs ls e43 hW hl => ?_)
    refine lv_aload_n hx hb dX2_readNumber_94 rfl (lv_at hl 0 rfl) ?_
    refine lv_iload_n hx hb dX2_readNumber_95 rfl (lv_at hl 3 rfl) ?_
    obtain ⟨D19, h18, hd⟩ := bp_e hd
    refine cVv_ (rest := []) X (kX2_goTo l Dd Y ad ar z43_16.2.2 z43_16.2.1 D19 h18) (cwV 1 X.1.2.2.2.2 gX2_readNumber_X2_goTo rfl rfl rfl (by decide +kernel) ⟨Nat.le_of_ble_eq_true rfl, Nat.le_of_ble_eq_true rfl⟩) hW 0 2 rfl rfl rfl rfl hl.1 rfl (Nat.le_of_ble_eq_true rfl) dX2_readNumber_96 ⟨Nat.zero_le _, Nat.zero_le _⟩ (fun H locs hW => ?_)
    refine lv_aload_n hx hb dX2_readNumber_99 rfl (lv_at hl 0 rfl) ?_
    refine g_ X hinX2 hW 0 rfl rfl 7 (by decide) 3 rfl rfl rfl dX2_readNumber_100 ?_
    refine lv_iload_n hx hb dX2_readNumber_103 rfl (lv_at hl 1 rfl) ?_
    refine lv_icmp_lt (tgt := 115) hx hb dX2_readNumber_104 (by decide) (fun c20 => ?_) (fun c20 => ?_)
    · replace hd := if_t c20 hd
      refine lv_aload_n hx hb dX2_readNumber_115 rfl (lv_at hl 0 rfl) ?_
      refine lv_bipush (v := (-3)) hx hb dX2_readNumber_116 (by decide) ?_
      refine lv_aload_n hx hb dX2_readNumber_118 rfl (lv_at hl 0 rfl) ?_
      refine g_ X hinX2 hW 0 rfl rfl 8 (by decide) 2 rfl rfl rfl dX2_readNumber_119 ?_
      obtain ⟨r22, D23, h21, hd⟩ := bs_e hd
      refine cVi_ (rest := []) X (kX2_fail l Dd Y ad ar D19 (-3) (D19.1 0 8) r22 D23 h21) (cwV 2 X.1.2.2.2.2 gX2_readNumber_X2_fail rfl rfl rfl (by decide +kernel) ⟨Nat.le_of_ble_eq_true rfl, Nat.le_of_ble_eq_true rfl⟩) hW 0 2 rfl rfl rfl rfl hl.1 rfl (Nat.le_of_ble_eq_true rfl) dX2_readNumber_122 ⟨Nat.zero_le _, Nat.zero_le _⟩ (fun H locs hW => ?_)
      refine lv_if_eq (tgt := 132) hx hb dX2_readNumber_125 (by decide) (fun c24 => ?_) (fun c24 => ?_)
      · replace hd := if_t c24 hd
        refine lv_iconst (v := 0) hx hb dX2_readNumber_132 (by decide) ?_
        obtain ⟨rfl, rfl⟩ := Prod.mk.inj (Option.some.inj hd)
        exact hQ _ _ _ _ (nz_b (Or.inl rfl)) hW dX2_readNumber_133
      · replace hd := if_f c24 hd
        refine lv_iconst (v := 1) hx hb dX2_readNumber_128 (by decide) ?_
        refine lv_goto (tgt := 133) hx hb dX2_readNumber_129 (by decide) ?_
        obtain ⟨rfl, rfl⟩ := Prod.mk.inj (Option.some.inj hd)
        exact hQ _ _ _ _ (nz_b (Or.inr rfl)) hW dX2_readNumber_133
    · replace hd := if_f c20 hd
      refine lv_aload_n hx hb dX2_readNumber_107 rfl (lv_at hl 0 rfl) ?_
      refine g_ X hinX2 hW 0 rfl rfl 7 (by decide) 3 rfl rfl rfl dX2_readNumber_108 ?_
      refine lv_iload_n hx hb dX2_readNumber_111 rfl (lv_at hl 2 rfl) ?_
      refine lv_icmp_le (tgt := 128) hx hb dX2_readNumber_112 (by decide) (fun c25 => ?_) (fun c25 => ?_)
      · replace hd := if_t c25 hd
        refine lv_iconst (v := 1) hx hb dX2_readNumber_128 (by decide) ?_
        refine lv_goto (tgt := 133) hx hb dX2_readNumber_129 (by decide) ?_
        obtain ⟨rfl, rfl⟩ := Prod.mk.inj (Option.some.inj hd)
        exact hQ _ _ _ _ (nz_b (Or.inr rfl)) hW dX2_readNumber_133
      · replace hd := if_f c25 hd
        refine lv_aload_n hx hb dX2_readNumber_115 rfl (lv_at hl 0 rfl) ?_
        refine lv_bipush (v := (-3)) hx hb dX2_readNumber_116 (by decide) ?_
        refine lv_aload_n hx hb dX2_readNumber_118 rfl (lv_at hl 0 rfl) ?_
        refine g_ X hinX2 hW 0 rfl rfl 8 (by decide) 2 rfl rfl rfl dX2_readNumber_119 ?_
        obtain ⟨r27, D28, h26, hd⟩ := bs_e hd
        refine cVi_ (rest := []) X (kX2_fail l Dd Y ad ar D19 (-3) (D19.1 0 8) r27 D28 h26) (cwV 2 X.1.2.2.2.2 gX2_readNumber_X2_fail rfl rfl rfl (by decide +kernel) ⟨Nat.le_of_ble_eq_true rfl, Nat.le_of_ble_eq_true rfl⟩) hW 0 2 rfl rfl rfl rfl hl.1 rfl (Nat.le_of_ble_eq_true rfl) dX2_readNumber_122 ⟨Nat.zero_le _, Nat.zero_le _⟩ (fun H locs hW => ?_)
        refine lv_if_eq (tgt := 132) hx hb dX2_readNumber_125 (by decide) (fun c29 => ?_) (fun c29 => ?_)
        · replace hd := if_t c29 hd
          refine lv_iconst (v := 0) hx hb dX2_readNumber_132 (by decide) ?_
          obtain ⟨rfl, rfl⟩ := Prod.mk.inj (Option.some.inj hd)
          exact hQ _ _ _ _ (nz_b (Or.inl rfl)) hW dX2_readNumber_133
        · replace hd := if_f c29 hd
          refine lv_iconst (v := 1) hx hb dX2_readNumber_128 (by decide) ?_
          refine lv_goto (tgt := 133) hx hb dX2_readNumber_129 (by decide) ?_
          obtain ⟨rfl, rfl⟩ := Prod.mk.inj (Option.some.inj hd)
          exact hQ _ _ _ _ (nz_b (Or.inr rfl)) hW dX2_readNumber_133
  · replace hd := if_t c14 hd
    refine lv_aload_n hx hb dX2_readNumber_14 rfl (lv_at hl 0 rfl) ?_
    refine lv_bipush (v := (-2)) hx hb dX2_readNumber_15 (by decide) ?_
    refine lv_aload_n hx hb dX2_readNumber_17 rfl (lv_at hl 0 rfl) ?_
    refine g_ X hinX2 hW 0 rfl rfl 6 (by decide) 1 rfl rfl rfl dX2_readNumber_18 ?_
    obtain ⟨r31, D32, h30, hd⟩ := bs_e hd
    refine cVi_ (rest := []) X (kX2_fail l Dd Y ad ar D (-2) (D.1 0 6) r31 D32 h30) (cwV 2 X.1.2.2.2.2 gX2_readNumber_X2_fail rfl rfl rfl (by decide +kernel) ⟨Nat.le_of_ble_eq_true rfl, Nat.le_of_ble_eq_true rfl⟩) hW 0 2 rfl rfl rfl rfl hl.1 rfl (Nat.le_of_ble_eq_true rfl) dX2_readNumber_21 ⟨Nat.zero_le _, Nat.zero_le _⟩ (fun H locs hW => ?_)
    obtain ⟨hz33, hd⟩ := rzt_e hd
    obtain ⟨rfl, rfl⟩ := Prod.mk.inj hd
    exact hQ _ _ _ _ (nz_b hz33) hW dX2_readNumber_24
abbrev rmX2_readFirst : Room := { frames := 3, cells := 0, slots := 0, locals := 65 }
set_option maxRecDepth 100000 in
set_option maxHeartbeats 4000000 in
theorem kX2_readFirst (l : Launch) (Dd : va_G) (Y : yT) (ad ar : Nat → Nat) (D : gD) (x1 : Int32) (r : Int32) (D' : gD) (hd : dnX2_readFirst D x1 = some (r, D')) : MG l yX2_readFirst wsX2_readFirst rmX2_readFirst Dd Y [.ref (ad 0), .int x1] (WD Y ad ar D) (WD Y ad ar D') (some (.int r)) := by
  refine MGi (cc := cX2_readFirst) (maxL := 4) (ty := .boolean) (by decide) rfl (Nat.le_of_ble_eq_true rfl) (fun {p e s m args below meth c A} ls Q X hW hl hQ => ?_)
  have hx := X.x
  have hb := X.b
  have hl : lv_has ls 4 [(0, .ref (ad 0)), (1, .int x1)] := hl
  have hinX1 : ∀ w ∈ wsX10, w ∈ wsX2_readFirst := fun w h => List.mem_cons_of_mem _ (List.mem_append_left _ (List.mem_append_right _ h))
  have hinX2 : ∀ w ∈ wsX20, w ∈ wsX2_readFirst := fun w h => List.mem_cons_of_mem _ (List.mem_append_left _ (List.mem_append_left _ (List.mem_append_right _ h)))
  have hinX3 : ∀ w ∈ wsX30, w ∈ wsX2_readFirst := fun w h => List.mem_cons_of_mem _ (List.mem_append_right _ h)
  unfold dnX2_readFirst at hd
  refine lv_aload_n hx hb dX2_readFirst_0 rfl (lv_at hl 0 rfl) ?_
  refine lv_iconst (v := 0) hx hb dX2_readFirst_1 (by decide) ?_
  refine lv_iload_n hx hb dX2_readFirst_2 rfl (lv_at hl 1 rfl) ?_
  refine lv_iconst (v := 4) hx hb dX2_readFirst_3 (by decide) ?_
  refine lv_icmp_ne (tgt := 17) hx hb dX2_readFirst_4 (by decide) (fun c1 => ?_) (fun c1 => ?_)
  · replace hd := if_f c1 hd
    refine lv_aload_n hx hb dX2_readFirst_17 rfl (lv_at hl 0 rfl) ?_
    refine g_ X hinX2 hW 0 rfl rfl 2 (by decide) 1 rfl rfl rfl dX2_readFirst_18 ?_
    refine g_ X hinX1 hW 2 rfl rfl 3 (by decide) 2 rfl rfl rfl dX2_readFirst_21 ?_
    refine lv_iconst (v := 1) hx hb dX2_readFirst_24 (by decide) ?_
    refine lv_isub hx hb dX2_readFirst_25 ?_
    obtain ⟨r3, D4, h2, hd⟩ := bs_e hd
    refine cVi_ (rest := []) X (kX2_readNumber l Dd Y ad ar D 0 ((D.2.1 0 3) - 1) r3 D4 h2) (cwV 2 X.1.2.2.2.2 gX2_readFirst_X2_readNumber rfl rfl rfl (by decide +kernel) ⟨Nat.le_of_ble_eq_true rfl, Nat.le_of_ble_eq_true rfl⟩) hW 0 2 rfl rfl rfl rfl hl.1 rfl (Nat.le_of_ble_eq_true rfl) dX2_readFirst_26 ⟨Nat.zero_le _, Nat.zero_le _⟩ (fun H locs hW => ?_)
    refine lv_if_ne (tgt := 34) hx hb dX2_readFirst_29 (by decide) (fun c5 => ?_) (fun c5 => ?_)
    · replace hd := if_f c5 hd
      refine lv_aload_n hx hb dX2_readFirst_34 rfl (lv_at hl 0 rfl) ?_
      refine lv_aload_n hx hb dX2_readFirst_35 rfl (lv_at hl 0 rfl) ?_
      refine g_ X hinX2 hW 0 rfl rfl 7 (by decide) 3 rfl rfl rfl dX2_readFirst_36 ?_
      obtain ⟨F6, eF6, hd⟩ := bw_e hd
      refine p_ (ty := .int) X hinX2 tyX2 tyX2_ok nmX2 hW 0 rfl rfl 9 (by decide) 4 rfl rfl rfl (by decide +kernel) rfl rfl (Nat.le_of_ble_eq_true rfl) dX2_readFirst_39 (ws' := (WD Y ad ar (F6, D4.2))) (by rw [eF6]; rfl) (fun H locs hW => ?_)
      refine lv_iload_n hx hb dX2_readFirst_42 rfl (lv_at hl 1 rfl) ?_
      refine lv_iconst (v := 4) hx hb dX2_readFirst_43 (by decide) ?_
      refine lv_icmp_ne (tgt := 63) hx hb dX2_readFirst_44 (by decide) (fun _ => ?_) (fun h => absurd h c1)
      refine lv_iconst (v := 0) hx hb dX2_readFirst_63 (by decide) ?_
      refine lv_istore_n (lv' := [(2, .int 0), (0, .ref (ad 0)), (1, .int x1)]) hx hb dX2_readFirst_64 rfl hl (by decide) rfl (fun ls hl => ?_)
      refine lv_iload_n hx hb dX2_readFirst_65 rfl (lv_at hl 2 rfl) ?_
      refine lv_iconst (v := 3) hx hb dX2_readFirst_66 (by decide) ?_
      refine lv_icmp_ne (tgt := 89) hx hb dX2_readFirst_67 (by decide) (fun c7 => ?_) (fun c7 => ?_)
      · replace hd := if_f c7 hd
        refine lv_iconst (v := 0) hx hb dX2_readFirst_89 (by decide) ?_
        refine lv_istore_n (lv' := [(3, .int 0), (2, .int 0), (0, .ref (ad 0)), (1, .int x1)]) hx hb dX2_readFirst_90 rfl hl (by decide) rfl (fun ls hl => ?_)
        refine lv_iload_n hx hb dX2_readFirst_91 rfl (lv_at hl 1 rfl) ?_
        refine lv_if_ne (tgt := 99) hx hb dX2_readFirst_92 (by decide) (fun h => absurd (by decide) h) (fun _ => ?_)
        refine lv_iload_n hx hb dX2_readFirst_95 rfl (lv_at hl 0 rfl) ?_
        refine lv_if_eq (tgt := 110) hx hb dX2_readFirst_96 (by decide) (fun _ => ?_) (fun h => absurd (by decide) h)
        refine lv_iload_n hx hb dX2_readFirst_110 rfl (lv_at hl 3 rfl) ?_
        refine lv_iconst (v := 5) hx hb dX2_readFirst_111 (by decide) ?_
        refine lv_icmp_ne (tgt := 137) hx hb dX2_readFirst_112 (by decide) (fun c8 => ?_) (fun c8 => ?_)
        · replace hd := if_f c8 hd
          refine lv_iconst (v := 1) hx hb dX2_readFirst_137 (by decide) ?_
          obtain ⟨rfl, rfl⟩ := Prod.mk.inj (Option.some.inj hd)
          exact hQ _ _ _ _ (nz_b (Or.inr rfl)) hW dX2_readFirst_138
        · replace hd := if_t c8 hd
          refine lv_aload_n hx hb dX2_readFirst_115 rfl (lv_at hl 2 rfl) ?_
          refine g_ X hinX2 hW 0 rfl rfl 2 (by decide) 1 rfl rfl rfl dX2_readFirst_116 ?_
          refine g_ X hinX1 hW 2 rfl rfl 3 (by decide) 2 rfl rfl rfl dX2_readFirst_119 ?_
          refine lv_iconst (v := 1) hx hb dX2_readFirst_122 (by decide) ?_
          refine lv_icmp_ne (tgt := 137) hx hb dX2_readFirst_123 (by decide) (fun c9 => ?_) (fun c9 => ?_)
          · replace hd := if_f c9 hd
            refine lv_iconst (v := 1) hx hb dX2_readFirst_137 (by decide) ?_
            obtain ⟨rfl, rfl⟩ := Prod.mk.inj (Option.some.inj hd)
            exact hQ _ _ _ _ (nz_b (Or.inr rfl)) hW dX2_readFirst_138
          · replace hd := if_t c9 hd
            refine lv_aload_n hx hb dX2_readFirst_126 rfl (lv_at hl 2 rfl) ?_
            refine lv_bipush (v := (-5)) hx hb dX2_readFirst_127 (by decide) ?_
            refine lv_aload_n hx hb dX2_readFirst_129 rfl (lv_at hl 2 rfl) ?_
            refine g_ X hinX2 hW 0 rfl rfl 8 (by decide) 7 rfl rfl rfl dX2_readFirst_130 ?_
            obtain ⟨r11, D12, h10, hd⟩ := bs_e hd
            refine cVi_ (rest := []) X (kX2_fail l Dd Y ad ar (F6, D4.2) (-5) (F6 0 8) r11 D12 h10) (cwV 2 X.1.2.2.2.2 gX2_readFirst_X2_fail rfl rfl rfl (by decide +kernel) ⟨Nat.le_of_ble_eq_true rfl, Nat.le_of_ble_eq_true rfl⟩) hW 0 2 rfl rfl rfl rfl hl.1 rfl (Nat.le_of_ble_eq_true rfl) dX2_readFirst_133 ⟨Nat.zero_le _, Nat.zero_le _⟩ (fun H locs hW => ?_)
            obtain ⟨hz13, hd⟩ := rzt_e hd
            obtain ⟨rfl, rfl⟩ := Prod.mk.inj hd
            exact hQ _ _ _ _ (nz_b hz13) hW dX2_readFirst_136
      · replace hd := if_t c7 hd
        refine lv_aload_n hx hb dX2_readFirst_70 rfl (lv_at hl 1 rfl) ?_
        refine g_ X hinX2 hW 0 rfl rfl 2 (by decide) 1 rfl rfl rfl dX2_readFirst_71 ?_
        refine g_ X hinX1 hW 2 rfl rfl 2 (by decide) 5 rfl rfl rfl dX2_readFirst_74 ?_
        refine g_ X hinX3 hW 5 rfl rfl 2 (by decide) 6 rfl rfl rfl dX2_readFirst_77 ?_
        refine lv_bipush (v := 8) hx hb dX2_readFirst_80 (by decide) ?_
        refine lv_icmp_lt (tgt := 89) hx hb dX2_readFirst_82 (by decide) (fun c14 => ?_) (fun c14 => ?_)
        · replace hd := if_t c14 hd
          refine lv_iconst (v := 0) hx hb dX2_readFirst_89 (by decide) ?_
          refine lv_istore_n (lv' := [(3, .int 0), (2, .int 0), (0, .ref (ad 0)), (1, .int x1)]) hx hb dX2_readFirst_90 rfl hl (by decide) rfl (fun ls hl => ?_)
          refine lv_iload_n hx hb dX2_readFirst_91 rfl (lv_at hl 1 rfl) ?_
          refine lv_if_ne (tgt := 99) hx hb dX2_readFirst_92 (by decide) (fun h => absurd (by decide) h) (fun _ => ?_)
          refine lv_iload_n hx hb dX2_readFirst_95 rfl (lv_at hl 0 rfl) ?_
          refine lv_if_eq (tgt := 110) hx hb dX2_readFirst_96 (by decide) (fun _ => ?_) (fun h => absurd (by decide) h)
          refine lv_iload_n hx hb dX2_readFirst_110 rfl (lv_at hl 3 rfl) ?_
          refine lv_iconst (v := 5) hx hb dX2_readFirst_111 (by decide) ?_
          refine lv_icmp_ne (tgt := 137) hx hb dX2_readFirst_112 (by decide) (fun c15 => ?_) (fun c15 => ?_)
          · replace hd := if_f c15 hd
            refine lv_iconst (v := 1) hx hb dX2_readFirst_137 (by decide) ?_
            obtain ⟨rfl, rfl⟩ := Prod.mk.inj (Option.some.inj hd)
            exact hQ _ _ _ _ (nz_b (Or.inr rfl)) hW dX2_readFirst_138
          · replace hd := if_t c15 hd
            refine lv_aload_n hx hb dX2_readFirst_115 rfl (lv_at hl 2 rfl) ?_
            refine g_ X hinX2 hW 0 rfl rfl 2 (by decide) 1 rfl rfl rfl dX2_readFirst_116 ?_
            refine g_ X hinX1 hW 2 rfl rfl 3 (by decide) 2 rfl rfl rfl dX2_readFirst_119 ?_
            refine lv_iconst (v := 1) hx hb dX2_readFirst_122 (by decide) ?_
            refine lv_icmp_ne (tgt := 137) hx hb dX2_readFirst_123 (by decide) (fun c16 => ?_) (fun c16 => ?_)
            · replace hd := if_f c16 hd
              refine lv_iconst (v := 1) hx hb dX2_readFirst_137 (by decide) ?_
              obtain ⟨rfl, rfl⟩ := Prod.mk.inj (Option.some.inj hd)
              exact hQ _ _ _ _ (nz_b (Or.inr rfl)) hW dX2_readFirst_138
            · replace hd := if_t c16 hd
              refine lv_aload_n hx hb dX2_readFirst_126 rfl (lv_at hl 2 rfl) ?_
              refine lv_bipush (v := (-5)) hx hb dX2_readFirst_127 (by decide) ?_
              refine lv_aload_n hx hb dX2_readFirst_129 rfl (lv_at hl 2 rfl) ?_
              refine g_ X hinX2 hW 0 rfl rfl 8 (by decide) 7 rfl rfl rfl dX2_readFirst_130 ?_
              obtain ⟨r18, D19, h17, hd⟩ := bs_e hd
              refine cVi_ (rest := []) X (kX2_fail l Dd Y ad ar (F6, D4.2) (-5) (F6 0 8) r18 D19 h17) (cwV 2 X.1.2.2.2.2 gX2_readFirst_X2_fail rfl rfl rfl (by decide +kernel) ⟨Nat.le_of_ble_eq_true rfl, Nat.le_of_ble_eq_true rfl⟩) hW 0 2 rfl rfl rfl rfl hl.1 rfl (Nat.le_of_ble_eq_true rfl) dX2_readFirst_133 ⟨Nat.zero_le _, Nat.zero_le _⟩ (fun H locs hW => ?_)
              obtain ⟨hz20, hd⟩ := rzt_e hd
              obtain ⟨rfl, rfl⟩ := Prod.mk.inj hd
              exact hQ _ _ _ _ (nz_b hz20) hW dX2_readFirst_136
        · replace hd := if_f c14 hd
          refine lv_iconst (v := 1) hx hb dX2_readFirst_85 (by decide) ?_
          refine lv_goto (tgt := 90) hx hb dX2_readFirst_86 (by decide) ?_
          refine lv_istore_n (lv' := [(3, .int 1), (2, .int 0), (0, .ref (ad 0)), (1, .int x1)]) hx hb dX2_readFirst_90 rfl hl (by decide) rfl (fun ls hl => ?_)
          refine lv_iload_n hx hb dX2_readFirst_91 rfl (lv_at hl 1 rfl) ?_
          refine lv_if_ne (tgt := 99) hx hb dX2_readFirst_92 (by decide) (fun h => absurd (by decide) h) (fun _ => ?_)
          refine lv_iload_n hx hb dX2_readFirst_95 rfl (lv_at hl 0 rfl) ?_
          refine lv_if_eq (tgt := 110) hx hb dX2_readFirst_96 (by decide) (fun h => absurd h (by decide)) (fun _ => ?_)
          refine lv_aload_n hx hb dX2_readFirst_99 rfl (lv_at hl 2 rfl) ?_
          refine lv_bipush (v := (-4)) hx hb dX2_readFirst_100 (by decide) ?_
          refine lv_aload_n hx hb dX2_readFirst_102 rfl (lv_at hl 2 rfl) ?_
          refine g_ X hinX2 hW 0 rfl rfl 8 (by decide) 7 rfl rfl rfl dX2_readFirst_103 ?_
          obtain ⟨r22, D23, h21, hd⟩ := bs_e hd
          refine cVi_ (rest := []) X (kX2_fail l Dd Y ad ar (F6, D4.2) (-4) (F6 0 8) r22 D23 h21) (cwV 2 X.1.2.2.2.2 gX2_readFirst_X2_fail rfl rfl rfl (by decide +kernel) ⟨Nat.le_of_ble_eq_true rfl, Nat.le_of_ble_eq_true rfl⟩) hW 0 2 rfl rfl rfl rfl hl.1 rfl (Nat.le_of_ble_eq_true rfl) dX2_readFirst_106 ⟨Nat.zero_le _, Nat.zero_le _⟩ (fun H locs hW => ?_)
          obtain ⟨hz24, hd⟩ := rzt_e hd
          obtain ⟨rfl, rfl⟩ := Prod.mk.inj hd
          exact hQ _ _ _ _ (nz_b hz24) hW dX2_readFirst_109
    · replace hd := if_t c5 hd
      refine lv_iconst (v := 0) hx hb dX2_readFirst_32 (by decide) ?_
      obtain ⟨rfl, rfl⟩ := Prod.mk.inj (Option.some.inj hd)
      exact hQ _ _ _ _ (nz_b (Or.inl rfl)) hW dX2_readFirst_33
  · replace hd := if_t c1 hd
    refine lv_aload_n hx hb dX2_readFirst_7 rfl (lv_at hl 0 rfl) ?_
    refine g_ X hinX2 hW 0 rfl rfl 2 (by decide) 1 rfl rfl rfl dX2_readFirst_8 ?_
    refine g_ X hinX1 hW 2 rfl rfl 3 (by decide) 2 rfl rfl rfl dX2_readFirst_11 ?_
    refine lv_goto (tgt := 26) hx hb dX2_readFirst_14 (by decide) ?_
    obtain ⟨r26, D27, h25, hd⟩ := bs_e hd
    refine cVi_ (rest := []) X (kX2_readNumber l Dd Y ad ar D 0 (D.2.1 0 3) r26 D27 h25) (cwV 2 X.1.2.2.2.2 gX2_readFirst_X2_readNumber rfl rfl rfl (by decide +kernel) ⟨Nat.le_of_ble_eq_true rfl, Nat.le_of_ble_eq_true rfl⟩) hW 0 2 rfl rfl rfl rfl hl.1 rfl (Nat.le_of_ble_eq_true rfl) dX2_readFirst_26 ⟨Nat.zero_le _, Nat.zero_le _⟩ (fun H locs hW => ?_)
    refine lv_if_ne (tgt := 34) hx hb dX2_readFirst_29 (by decide) (fun c28 => ?_) (fun c28 => ?_)
    · replace hd := if_f c28 hd
      refine lv_aload_n hx hb dX2_readFirst_34 rfl (lv_at hl 0 rfl) ?_
      refine lv_aload_n hx hb dX2_readFirst_35 rfl (lv_at hl 0 rfl) ?_
      refine g_ X hinX2 hW 0 rfl rfl 7 (by decide) 3 rfl rfl rfl dX2_readFirst_36 ?_
      obtain ⟨F29, eF29, hd⟩ := bw_e hd
      refine p_ (ty := .int) X hinX2 tyX2 tyX2_ok nmX2 hW 0 rfl rfl 9 (by decide) 4 rfl rfl rfl (by decide +kernel) rfl rfl (Nat.le_of_ble_eq_true rfl) dX2_readFirst_39 (ws' := (WD Y ad ar (F29, D27.2))) (by rw [eF29]; rfl) (fun H locs hW => ?_)
      refine lv_iload_n hx hb dX2_readFirst_42 rfl (lv_at hl 1 rfl) ?_
      refine lv_iconst (v := 4) hx hb dX2_readFirst_43 (by decide) ?_
      refine lv_icmp_ne (tgt := 63) hx hb dX2_readFirst_44 (by decide) (fun h => absurd c1 h) (fun _ => ?_)
      refine lv_aload_n hx hb dX2_readFirst_47 rfl (lv_at hl 0 rfl) ?_
      refine g_ X hinX2 hW 0 rfl rfl 2 (by decide) 1 rfl rfl rfl dX2_readFirst_48 ?_
      refine g_ X hinX1 hW 2 rfl rfl 3 (by decide) 2 rfl rfl rfl dX2_readFirst_51 ?_
      refine lv_bipush (v := 40) hx hb dX2_readFirst_54 (by decide) ?_
      refine lv_icmp_lt (tgt := 63) hx hb dX2_readFirst_56 (by decide) (fun c30 => ?_) (fun c30 => ?_)
      · replace hd := if_t c30 hd
        refine lv_iconst (v := 0) hx hb dX2_readFirst_63 (by decide) ?_
        refine lv_istore_n (lv' := [(2, .int 0), (0, .ref (ad 0)), (1, .int x1)]) hx hb dX2_readFirst_64 rfl hl (by decide) rfl (fun ls hl => ?_)
        refine lv_iload_n hx hb dX2_readFirst_65 rfl (lv_at hl 2 rfl) ?_
        refine lv_iconst (v := 3) hx hb dX2_readFirst_66 (by decide) ?_
        refine lv_icmp_ne (tgt := 89) hx hb dX2_readFirst_67 (by decide) (fun c31 => ?_) (fun c31 => ?_)
        · replace hd := if_f c31 hd
          refine lv_iconst (v := 0) hx hb dX2_readFirst_89 (by decide) ?_
          refine lv_istore_n (lv' := [(3, .int 0), (2, .int 0), (0, .ref (ad 0)), (1, .int x1)]) hx hb dX2_readFirst_90 rfl hl (by decide) rfl (fun ls hl => ?_)
          refine lv_iload_n hx hb dX2_readFirst_91 rfl (lv_at hl 1 rfl) ?_
          refine lv_if_ne (tgt := 99) hx hb dX2_readFirst_92 (by decide) (fun h => absurd (by decide) h) (fun _ => ?_)
          refine lv_iload_n hx hb dX2_readFirst_95 rfl (lv_at hl 0 rfl) ?_
          refine lv_if_eq (tgt := 110) hx hb dX2_readFirst_96 (by decide) (fun _ => ?_) (fun h => absurd (by decide) h)
          refine lv_iload_n hx hb dX2_readFirst_110 rfl (lv_at hl 3 rfl) ?_
          refine lv_iconst (v := 5) hx hb dX2_readFirst_111 (by decide) ?_
          refine lv_icmp_ne (tgt := 137) hx hb dX2_readFirst_112 (by decide) (fun c32 => ?_) (fun c32 => ?_)
          · replace hd := if_f c32 hd
            refine lv_iconst (v := 1) hx hb dX2_readFirst_137 (by decide) ?_
            obtain ⟨rfl, rfl⟩ := Prod.mk.inj (Option.some.inj hd)
            exact hQ _ _ _ _ (nz_b (Or.inr rfl)) hW dX2_readFirst_138
          · replace hd := if_t c32 hd
            refine lv_aload_n hx hb dX2_readFirst_115 rfl (lv_at hl 2 rfl) ?_
            refine g_ X hinX2 hW 0 rfl rfl 2 (by decide) 1 rfl rfl rfl dX2_readFirst_116 ?_
            refine g_ X hinX1 hW 2 rfl rfl 3 (by decide) 2 rfl rfl rfl dX2_readFirst_119 ?_
            refine lv_iconst (v := 1) hx hb dX2_readFirst_122 (by decide) ?_
            refine lv_icmp_ne (tgt := 137) hx hb dX2_readFirst_123 (by decide) (fun c33 => ?_) (fun c33 => ?_)
            · replace hd := if_f c33 hd
              refine lv_iconst (v := 1) hx hb dX2_readFirst_137 (by decide) ?_
              obtain ⟨rfl, rfl⟩ := Prod.mk.inj (Option.some.inj hd)
              exact hQ _ _ _ _ (nz_b (Or.inr rfl)) hW dX2_readFirst_138
            · replace hd := if_t c33 hd
              refine lv_aload_n hx hb dX2_readFirst_126 rfl (lv_at hl 2 rfl) ?_
              refine lv_bipush (v := (-5)) hx hb dX2_readFirst_127 (by decide) ?_
              refine lv_aload_n hx hb dX2_readFirst_129 rfl (lv_at hl 2 rfl) ?_
              refine g_ X hinX2 hW 0 rfl rfl 8 (by decide) 7 rfl rfl rfl dX2_readFirst_130 ?_
              obtain ⟨r35, D36, h34, hd⟩ := bs_e hd
              refine cVi_ (rest := []) X (kX2_fail l Dd Y ad ar (F29, D27.2) (-5) (F29 0 8) r35 D36 h34) (cwV 2 X.1.2.2.2.2 gX2_readFirst_X2_fail rfl rfl rfl (by decide +kernel) ⟨Nat.le_of_ble_eq_true rfl, Nat.le_of_ble_eq_true rfl⟩) hW 0 2 rfl rfl rfl rfl hl.1 rfl (Nat.le_of_ble_eq_true rfl) dX2_readFirst_133 ⟨Nat.zero_le _, Nat.zero_le _⟩ (fun H locs hW => ?_)
              obtain ⟨hz37, hd⟩ := rzt_e hd
              obtain ⟨rfl, rfl⟩ := Prod.mk.inj hd
              exact hQ _ _ _ _ (nz_b hz37) hW dX2_readFirst_136
        · replace hd := if_t c31 hd
          refine lv_aload_n hx hb dX2_readFirst_70 rfl (lv_at hl 1 rfl) ?_
          refine g_ X hinX2 hW 0 rfl rfl 2 (by decide) 1 rfl rfl rfl dX2_readFirst_71 ?_
          refine g_ X hinX1 hW 2 rfl rfl 2 (by decide) 5 rfl rfl rfl dX2_readFirst_74 ?_
          refine g_ X hinX3 hW 5 rfl rfl 2 (by decide) 6 rfl rfl rfl dX2_readFirst_77 ?_
          refine lv_bipush (v := 8) hx hb dX2_readFirst_80 (by decide) ?_
          refine lv_icmp_lt (tgt := 89) hx hb dX2_readFirst_82 (by decide) (fun c38 => ?_) (fun c38 => ?_)
          · replace hd := if_t c38 hd
            refine lv_iconst (v := 0) hx hb dX2_readFirst_89 (by decide) ?_
            refine lv_istore_n (lv' := [(3, .int 0), (2, .int 0), (0, .ref (ad 0)), (1, .int x1)]) hx hb dX2_readFirst_90 rfl hl (by decide) rfl (fun ls hl => ?_)
            refine lv_iload_n hx hb dX2_readFirst_91 rfl (lv_at hl 1 rfl) ?_
            refine lv_if_ne (tgt := 99) hx hb dX2_readFirst_92 (by decide) (fun h => absurd (by decide) h) (fun _ => ?_)
            refine lv_iload_n hx hb dX2_readFirst_95 rfl (lv_at hl 0 rfl) ?_
            refine lv_if_eq (tgt := 110) hx hb dX2_readFirst_96 (by decide) (fun _ => ?_) (fun h => absurd (by decide) h)
            refine lv_iload_n hx hb dX2_readFirst_110 rfl (lv_at hl 3 rfl) ?_
            refine lv_iconst (v := 5) hx hb dX2_readFirst_111 (by decide) ?_
            refine lv_icmp_ne (tgt := 137) hx hb dX2_readFirst_112 (by decide) (fun c39 => ?_) (fun c39 => ?_)
            · replace hd := if_f c39 hd
              refine lv_iconst (v := 1) hx hb dX2_readFirst_137 (by decide) ?_
              obtain ⟨rfl, rfl⟩ := Prod.mk.inj (Option.some.inj hd)
              exact hQ _ _ _ _ (nz_b (Or.inr rfl)) hW dX2_readFirst_138
            · replace hd := if_t c39 hd
              refine lv_aload_n hx hb dX2_readFirst_115 rfl (lv_at hl 2 rfl) ?_
              refine g_ X hinX2 hW 0 rfl rfl 2 (by decide) 1 rfl rfl rfl dX2_readFirst_116 ?_
              refine g_ X hinX1 hW 2 rfl rfl 3 (by decide) 2 rfl rfl rfl dX2_readFirst_119 ?_
              refine lv_iconst (v := 1) hx hb dX2_readFirst_122 (by decide) ?_
              refine lv_icmp_ne (tgt := 137) hx hb dX2_readFirst_123 (by decide) (fun c40 => ?_) (fun c40 => ?_)
              · replace hd := if_f c40 hd
                refine lv_iconst (v := 1) hx hb dX2_readFirst_137 (by decide) ?_
                obtain ⟨rfl, rfl⟩ := Prod.mk.inj (Option.some.inj hd)
                exact hQ _ _ _ _ (nz_b (Or.inr rfl)) hW dX2_readFirst_138
              · replace hd := if_t c40 hd
                refine lv_aload_n hx hb dX2_readFirst_126 rfl (lv_at hl 2 rfl) ?_
                refine lv_bipush (v := (-5)) hx hb dX2_readFirst_127 (by decide) ?_
                refine lv_aload_n hx hb dX2_readFirst_129 rfl (lv_at hl 2 rfl) ?_
                refine g_ X hinX2 hW 0 rfl rfl 8 (by decide) 7 rfl rfl rfl dX2_readFirst_130 ?_
                obtain ⟨r42, D43, h41, hd⟩ := bs_e hd
                refine cVi_ (rest := []) X (kX2_fail l Dd Y ad ar (F29, D27.2) (-5) (F29 0 8) r42 D43 h41) (cwV 2 X.1.2.2.2.2 gX2_readFirst_X2_fail rfl rfl rfl (by decide +kernel) ⟨Nat.le_of_ble_eq_true rfl, Nat.le_of_ble_eq_true rfl⟩) hW 0 2 rfl rfl rfl rfl hl.1 rfl (Nat.le_of_ble_eq_true rfl) dX2_readFirst_133 ⟨Nat.zero_le _, Nat.zero_le _⟩ (fun H locs hW => ?_)
                obtain ⟨hz44, hd⟩ := rzt_e hd
                obtain ⟨rfl, rfl⟩ := Prod.mk.inj hd
                exact hQ _ _ _ _ (nz_b hz44) hW dX2_readFirst_136
          · replace hd := if_f c38 hd
            refine lv_iconst (v := 1) hx hb dX2_readFirst_85 (by decide) ?_
            refine lv_goto (tgt := 90) hx hb dX2_readFirst_86 (by decide) ?_
            refine lv_istore_n (lv' := [(3, .int 1), (2, .int 0), (0, .ref (ad 0)), (1, .int x1)]) hx hb dX2_readFirst_90 rfl hl (by decide) rfl (fun ls hl => ?_)
            refine lv_iload_n hx hb dX2_readFirst_91 rfl (lv_at hl 1 rfl) ?_
            refine lv_if_ne (tgt := 99) hx hb dX2_readFirst_92 (by decide) (fun h => absurd (by decide) h) (fun _ => ?_)
            refine lv_iload_n hx hb dX2_readFirst_95 rfl (lv_at hl 0 rfl) ?_
            refine lv_if_eq (tgt := 110) hx hb dX2_readFirst_96 (by decide) (fun h => absurd h (by decide)) (fun _ => ?_)
            refine lv_aload_n hx hb dX2_readFirst_99 rfl (lv_at hl 2 rfl) ?_
            refine lv_bipush (v := (-4)) hx hb dX2_readFirst_100 (by decide) ?_
            refine lv_aload_n hx hb dX2_readFirst_102 rfl (lv_at hl 2 rfl) ?_
            refine g_ X hinX2 hW 0 rfl rfl 8 (by decide) 7 rfl rfl rfl dX2_readFirst_103 ?_
            obtain ⟨r46, D47, h45, hd⟩ := bs_e hd
            refine cVi_ (rest := []) X (kX2_fail l Dd Y ad ar (F29, D27.2) (-4) (F29 0 8) r46 D47 h45) (cwV 2 X.1.2.2.2.2 gX2_readFirst_X2_fail rfl rfl rfl (by decide +kernel) ⟨Nat.le_of_ble_eq_true rfl, Nat.le_of_ble_eq_true rfl⟩) hW 0 2 rfl rfl rfl rfl hl.1 rfl (Nat.le_of_ble_eq_true rfl) dX2_readFirst_106 ⟨Nat.zero_le _, Nat.zero_le _⟩ (fun H locs hW => ?_)
            obtain ⟨hz48, hd⟩ := rzt_e hd
            obtain ⟨rfl, rfl⟩ := Prod.mk.inj hd
            exact hQ _ _ _ _ (nz_b hz48) hW dX2_readFirst_109
      · replace hd := if_f c30 hd
        refine lv_iconst (v := 1) hx hb dX2_readFirst_59 (by decide) ?_
        refine lv_goto (tgt := 64) hx hb dX2_readFirst_60 (by decide) ?_
        refine lv_istore_n (lv' := [(2, .int 1), (0, .ref (ad 0)), (1, .int x1)]) hx hb dX2_readFirst_64 rfl hl (by decide) rfl (fun ls hl => ?_)
        refine lv_iload_n hx hb dX2_readFirst_65 rfl (lv_at hl 2 rfl) ?_
        refine lv_iconst (v := 3) hx hb dX2_readFirst_66 (by decide) ?_
        refine lv_icmp_ne (tgt := 89) hx hb dX2_readFirst_67 (by decide) (fun c49 => ?_) (fun c49 => ?_)
        · replace hd := if_f c49 hd
          refine lv_iconst (v := 0) hx hb dX2_readFirst_89 (by decide) ?_
          refine lv_istore_n (lv' := [(3, .int 0), (2, .int 1), (0, .ref (ad 0)), (1, .int x1)]) hx hb dX2_readFirst_90 rfl hl (by decide) rfl (fun ls hl => ?_)
          refine lv_iload_n hx hb dX2_readFirst_91 rfl (lv_at hl 1 rfl) ?_
          refine lv_if_ne (tgt := 99) hx hb dX2_readFirst_92 (by decide) (fun _ => ?_) (fun h => absurd h (by decide))
          refine lv_aload_n hx hb dX2_readFirst_99 rfl (lv_at hl 2 rfl) ?_
          refine lv_bipush (v := (-4)) hx hb dX2_readFirst_100 (by decide) ?_
          refine lv_aload_n hx hb dX2_readFirst_102 rfl (lv_at hl 2 rfl) ?_
          refine g_ X hinX2 hW 0 rfl rfl 8 (by decide) 7 rfl rfl rfl dX2_readFirst_103 ?_
          obtain ⟨r51, D52, h50, hd⟩ := bs_e hd
          refine cVi_ (rest := []) X (kX2_fail l Dd Y ad ar (F29, D27.2) (-4) (F29 0 8) r51 D52 h50) (cwV 2 X.1.2.2.2.2 gX2_readFirst_X2_fail rfl rfl rfl (by decide +kernel) ⟨Nat.le_of_ble_eq_true rfl, Nat.le_of_ble_eq_true rfl⟩) hW 0 2 rfl rfl rfl rfl hl.1 rfl (Nat.le_of_ble_eq_true rfl) dX2_readFirst_106 ⟨Nat.zero_le _, Nat.zero_le _⟩ (fun H locs hW => ?_)
          obtain ⟨hz53, hd⟩ := rzt_e hd
          obtain ⟨rfl, rfl⟩ := Prod.mk.inj hd
          exact hQ _ _ _ _ (nz_b hz53) hW dX2_readFirst_109
        · replace hd := if_t c49 hd
          refine lv_aload_n hx hb dX2_readFirst_70 rfl (lv_at hl 1 rfl) ?_
          refine g_ X hinX2 hW 0 rfl rfl 2 (by decide) 1 rfl rfl rfl dX2_readFirst_71 ?_
          refine g_ X hinX1 hW 2 rfl rfl 2 (by decide) 5 rfl rfl rfl dX2_readFirst_74 ?_
          refine g_ X hinX3 hW 5 rfl rfl 2 (by decide) 6 rfl rfl rfl dX2_readFirst_77 ?_
          refine lv_bipush (v := 8) hx hb dX2_readFirst_80 (by decide) ?_
          refine lv_icmp_lt (tgt := 89) hx hb dX2_readFirst_82 (by decide) (fun c54 => ?_) (fun c54 => ?_)
          · replace hd := if_t c54 hd
            refine lv_iconst (v := 0) hx hb dX2_readFirst_89 (by decide) ?_
            refine lv_istore_n (lv' := [(3, .int 0), (2, .int 1), (0, .ref (ad 0)), (1, .int x1)]) hx hb dX2_readFirst_90 rfl hl (by decide) rfl (fun ls hl => ?_)
            refine lv_iload_n hx hb dX2_readFirst_91 rfl (lv_at hl 1 rfl) ?_
            refine lv_if_ne (tgt := 99) hx hb dX2_readFirst_92 (by decide) (fun _ => ?_) (fun h => absurd h (by decide))
            refine lv_aload_n hx hb dX2_readFirst_99 rfl (lv_at hl 2 rfl) ?_
            refine lv_bipush (v := (-4)) hx hb dX2_readFirst_100 (by decide) ?_
            refine lv_aload_n hx hb dX2_readFirst_102 rfl (lv_at hl 2 rfl) ?_
            refine g_ X hinX2 hW 0 rfl rfl 8 (by decide) 7 rfl rfl rfl dX2_readFirst_103 ?_
            obtain ⟨r56, D57, h55, hd⟩ := bs_e hd
            refine cVi_ (rest := []) X (kX2_fail l Dd Y ad ar (F29, D27.2) (-4) (F29 0 8) r56 D57 h55) (cwV 2 X.1.2.2.2.2 gX2_readFirst_X2_fail rfl rfl rfl (by decide +kernel) ⟨Nat.le_of_ble_eq_true rfl, Nat.le_of_ble_eq_true rfl⟩) hW 0 2 rfl rfl rfl rfl hl.1 rfl (Nat.le_of_ble_eq_true rfl) dX2_readFirst_106 ⟨Nat.zero_le _, Nat.zero_le _⟩ (fun H locs hW => ?_)
            obtain ⟨hz58, hd⟩ := rzt_e hd
            obtain ⟨rfl, rfl⟩ := Prod.mk.inj hd
            exact hQ _ _ _ _ (nz_b hz58) hW dX2_readFirst_109
          · replace hd := if_f c54 hd
            refine lv_iconst (v := 1) hx hb dX2_readFirst_85 (by decide) ?_
            refine lv_goto (tgt := 90) hx hb dX2_readFirst_86 (by decide) ?_
            refine lv_istore_n (lv' := [(3, .int 1), (2, .int 1), (0, .ref (ad 0)), (1, .int x1)]) hx hb dX2_readFirst_90 rfl hl (by decide) rfl (fun ls hl => ?_)
            refine lv_iload_n hx hb dX2_readFirst_91 rfl (lv_at hl 1 rfl) ?_
            refine lv_if_ne (tgt := 99) hx hb dX2_readFirst_92 (by decide) (fun _ => ?_) (fun h => absurd h (by decide))
            refine lv_aload_n hx hb dX2_readFirst_99 rfl (lv_at hl 2 rfl) ?_
            refine lv_bipush (v := (-4)) hx hb dX2_readFirst_100 (by decide) ?_
            refine lv_aload_n hx hb dX2_readFirst_102 rfl (lv_at hl 2 rfl) ?_
            refine g_ X hinX2 hW 0 rfl rfl 8 (by decide) 7 rfl rfl rfl dX2_readFirst_103 ?_
            obtain ⟨r60, D61, h59, hd⟩ := bs_e hd
            refine cVi_ (rest := []) X (kX2_fail l Dd Y ad ar (F29, D27.2) (-4) (F29 0 8) r60 D61 h59) (cwV 2 X.1.2.2.2.2 gX2_readFirst_X2_fail rfl rfl rfl (by decide +kernel) ⟨Nat.le_of_ble_eq_true rfl, Nat.le_of_ble_eq_true rfl⟩) hW 0 2 rfl rfl rfl rfl hl.1 rfl (Nat.le_of_ble_eq_true rfl) dX2_readFirst_106 ⟨Nat.zero_le _, Nat.zero_le _⟩ (fun H locs hW => ?_)
            obtain ⟨hz62, hd⟩ := rzt_e hd
            obtain ⟨rfl, rfl⟩ := Prod.mk.inj hd
            exact hQ _ _ _ _ (nz_b hz62) hW dX2_readFirst_109
    · replace hd := if_t c28 hd
      refine lv_iconst (v := 0) hx hb dX2_readFirst_32 (by decide) ?_
      obtain ⟨rfl, rfl⟩ := Prod.mk.inj (Option.some.inj hd)
      exact hQ _ _ _ _ (nz_b (Or.inl rfl)) hW dX2_readFirst_33
abbrev rmX2_isNext : Room := { frames := 1, cells := 0, slots := 0, locals := 21 }
set_option maxRecDepth 100000 in
set_option maxHeartbeats 4000000 in
theorem kX2_isNext (l : Launch) (Dd : va_G) (Y : yT) (ad ar : Nat → Nat) (D : gD) (x1 : Int32) (r : Int32) (hd : dnX2_isNext D x1 = some r) : MG l yX2_isNext wsX2_isNext rmX2_isNext Dd Y [.ref (ad 0), .int x1] (WD Y ad ar D) (WD Y ad ar D) (some (.int r)) := by
  refine MGi (cc := cX2_isNext) (maxL := 2) (ty := .boolean) (by decide) rfl (Nat.le_of_ble_eq_true rfl) (fun {p e s m args below meth c A} ls Q X hW hl hQ => ?_)
  have hx := X.x
  have hb := X.b
  have hl : lv_has ls 2 [(0, .ref (ad 0)), (1, .int x1)] := hl
  have hinX2 : ∀ w ∈ wsX20, w ∈ wsX2_isNext := fun w h => List.mem_cons_of_mem _ (List.mem_append_right _ h)
  unfold dnX2_isNext at hd
  refine lv_aload_n hx hb dX2_isNext_0 rfl (lv_at hl 0 rfl) ?_
  refine lv_aload_n hx hb dX2_isNext_1 rfl (lv_at hl 0 rfl) ?_
  refine g_ X hinX2 hW 0 rfl rfl 6 (by decide) 1 rfl rfl rfl dX2_isNext_2 ?_
  obtain ⟨r2, h1, hd⟩ := bp_e hd
  refine cVi_ (rest := []) X (kX2_byteAt l Dd Y ad ar D (D.1 0 6) r2 h1) (cwV 1 X.1.2.2.2.2 gX2_isNext_X2_byteAt rfl rfl rfl (by decide +kernel) ⟨Nat.le_of_ble_eq_true rfl, Nat.le_of_ble_eq_true rfl⟩) hW 0 2 rfl rfl rfl rfl hl.1 rfl (Nat.le_of_ble_eq_true rfl) dX2_isNext_5 ⟨Nat.zero_le _, Nat.zero_le _⟩ (fun H locs hW => ?_)
  refine lv_iload_n hx hb dX2_isNext_8 rfl (lv_at hl 1 rfl) ?_
  refine lv_icmp_ne (tgt := 16) hx hb dX2_isNext_9 (by decide) (fun c3 => ?_) (fun c3 => ?_)
  · replace hd := if_f c3 hd
    refine lv_iconst (v := 0) hx hb dX2_isNext_16 (by decide) ?_
    have hd := Option.some.inj hd
    subst hd
    exact hQ _ _ _ _ (nz_b (Or.inl rfl)) hW dX2_isNext_17
  · replace hd := if_t c3 hd
    refine lv_iconst (v := 1) hx hb dX2_isNext_12 (by decide) ?_
    refine lv_goto (tgt := 17) hx hb dX2_isNext_13 (by decide) ?_
    have hd := Option.some.inj hd
    subst hd
    exact hQ _ _ _ _ (nz_b (Or.inr rfl)) hW dX2_isNext_17
abbrev rmX2_hasSign : Room := { frames := 2, cells := 0, slots := 0, locals := 42 }
set_option maxRecDepth 100000 in
set_option maxHeartbeats 4000000 in
theorem kX2_hasSign (l : Launch) (Dd : va_G) (Y : yT) (ad ar : Nat → Nat) (D : gD) (x1 : Int32) (r : Int32) (D' : gD) (hd : dnX2_hasSign D x1 = some (r, D')) : MG l yX2_hasSign wsX2_hasSign rmX2_hasSign Dd Y [.ref (ad 0), .int x1] (WD Y ad ar D) (WD Y ad ar D') (some (.int r)) := by
  refine MGi (cc := cX2_hasSign) (maxL := 2) (ty := .boolean) (by decide) rfl (Nat.le_of_ble_eq_true rfl) (fun {p e s m args below meth c A} ls Q X hW hl hQ => ?_)
  have hx := X.x
  have hb := X.b
  have hl : lv_has ls 2 [(0, .ref (ad 0)), (1, .int x1)] := hl
  have hinX2 : ∀ w ∈ wsX20, w ∈ wsX2_hasSign := fun w h => List.mem_cons_of_mem _ (List.mem_append_right _ h)
  unfold dnX2_hasSign at hd
  refine lv_aload_n hx hb dX2_hasSign_0 rfl (lv_at hl 0 rfl) ?_
  refine lv_iload_n hx hb dX2_hasSign_1 rfl (lv_at hl 1 rfl) ?_
  obtain ⟨r2, h1, hd⟩ := bp_e hd
  refine cVi_ (rest := []) X (kX2_isNext l Dd Y ad ar D x1 r2 h1) (cwV 1 X.1.2.2.2.2 gX2_hasSign_X2_isNext rfl rfl rfl (by decide +kernel) ⟨Nat.le_of_ble_eq_true rfl, Nat.le_of_ble_eq_true rfl⟩) hW 0 2 rfl rfl rfl rfl hl.1 rfl (Nat.le_of_ble_eq_true rfl) dX2_hasSign_2 ⟨Nat.zero_le _, Nat.zero_le _⟩ (fun H locs hW => ?_)
  refine lv_if_ne (tgt := 10) hx hb dX2_hasSign_5 (by decide) (fun c3 => ?_) (fun c3 => ?_)
  · replace hd := if_f c3 hd
    refine lv_aload_n hx hb dX2_hasSign_10 rfl (lv_at hl 0 rfl) ?_
    refine lv_aload_n hx hb dX2_hasSign_11 rfl (lv_at hl 0 rfl) ?_
    refine g_ X hinX2 hW 0 rfl rfl 6 (by decide) 1 rfl rfl rfl dX2_hasSign_12 ?_
    refine lv_iconst (v := 1) hx hb dX2_hasSign_15 (by decide) ?_
    refine lv_iadd hx hb dX2_hasSign_16 ?_
    obtain ⟨D5, h4, hd⟩ := bp_e hd
    refine cVv_ (rest := []) X (kX2_goTo l Dd Y ad ar D ((D.1 0 6) + 1) D5 h4) (cwV 1 X.1.2.2.2.2 gX2_hasSign_X2_goTo rfl rfl rfl (by decide +kernel) ⟨Nat.le_of_ble_eq_true rfl, Nat.le_of_ble_eq_true rfl⟩) hW 0 2 rfl rfl rfl rfl hl.1 rfl (Nat.le_of_ble_eq_true rfl) dX2_hasSign_17 ⟨Nat.zero_le _, Nat.zero_le _⟩ (fun H locs hW => ?_)
    refine lv_iconst (v := 1) hx hb dX2_hasSign_20 (by decide) ?_
    obtain ⟨rfl, rfl⟩ := Prod.mk.inj (Option.some.inj hd)
    exact hQ _ _ _ _ (nz_b (Or.inr rfl)) hW dX2_hasSign_21
  · replace hd := if_t c3 hd
    refine lv_iconst (v := 0) hx hb dX2_hasSign_8 (by decide) ?_
    obtain ⟨rfl, rfl⟩ := Prod.mk.inj (Option.some.inj hd)
    exact hQ _ _ _ _ (nz_b (Or.inl rfl)) hW dX2_hasSign_9
abbrev rmX2_readValue : Room := { frames := 3, cells := 0, slots := 0, locals := 65 }
set_option maxRecDepth 100000 in
set_option maxHeartbeats 4000000 in
theorem kX2_readValue (l : Launch) (Dd : va_G) (Y : yT) (ad ar : Nat → Nat) (D : gD) (r : Int32) (D' : gD) (hd : dnX2_readValue D = some (r, D')) : MG l yX2_readValue wsX2_readValue rmX2_readValue Dd Y [.ref (ad 0)] (WD Y ad ar D) (WD Y ad ar D') (some (.int r)) := by
  refine MGi (cc := cX2_readValue) (maxL := 2) (ty := .boolean) (by decide) rfl (Nat.le_of_ble_eq_true rfl) (fun {p e s m args below meth c A} ls Q X hW hl hQ => ?_)
  have hx := X.x
  have hb := X.b
  have hl : lv_has ls 2 [(0, .ref (ad 0))] := hl
  have hinX2 : ∀ w ∈ wsX20, w ∈ wsX2_readValue := fun w h => List.mem_cons_of_mem _ (List.mem_append_right _ h)
  unfold dnX2_readValue at hd
  refine lv_aload_n hx hb dX2_readValue_0 rfl (lv_at hl 0 rfl) ?_
  refine lv_bipush (v := 45) hx hb dX2_readValue_1 (by decide) ?_
  obtain ⟨r2, D3, h1, hd⟩ := bs_e hd
  refine cVi_ (rest := []) X (kX2_hasSign l Dd Y ad ar D 45 r2 D3 h1) (cwV 1 X.1.2.2.2.2 gX2_readValue_X2_hasSign rfl rfl rfl (by decide +kernel) ⟨Nat.le_of_ble_eq_true rfl, Nat.le_of_ble_eq_true rfl⟩) hW 0 2 rfl rfl rfl rfl hl.1 rfl (Nat.le_of_ble_eq_true rfl) dX2_readValue_3 ⟨Nat.zero_le _, Nat.zero_le _⟩ (fun H locs hW => ?_)
  refine lv_istore_n (lv' := [(1, .int r2), (0, .ref (ad 0))]) hx hb dX2_readValue_6 rfl hl (by decide) rfl (fun ls hl => ?_)
  refine lv_aload_n hx hb dX2_readValue_7 rfl (lv_at hl 1 rfl) ?_
  refine lv_iconst (v := 0) hx hb dX2_readValue_8 (by decide) ?_
  refine lv_sipush (v := 999) hx hb dX2_readValue_9 (by decide) ?_
  obtain ⟨r5, D6, h4, hd⟩ := bs_e hd
  refine cVi_ (rest := []) X (kX2_readNumber l Dd Y ad ar D3 0 999 r5 D6 h4) (cwV 2 X.1.2.2.2.2 gX2_readValue_X2_readNumber rfl rfl rfl (by decide +kernel) ⟨Nat.le_of_ble_eq_true rfl, Nat.le_of_ble_eq_true rfl⟩) hW 0 2 rfl rfl rfl rfl hl.1 rfl (Nat.le_of_ble_eq_true rfl) dX2_readValue_12 ⟨Nat.zero_le _, Nat.zero_le _⟩ (fun H locs hW => ?_)
  refine lv_if_ne (tgt := 20) hx hb dX2_readValue_15 (by decide) (fun c7 => ?_) (fun c7 => ?_)
  · replace hd := if_f c7 hd
    refine lv_aload_n hx hb dX2_readValue_20 rfl (lv_at hl 1 rfl) ?_
    refine lv_iload_n hx hb dX2_readValue_21 rfl (lv_at hl 0 rfl) ?_
    refine lv_if_eq (tgt := 33) hx hb dX2_readValue_22 (by decide) (fun c8 => ?_) (fun c8 => ?_)
    · replace hd := if_t c8 hd
      refine lv_aload_n hx hb dX2_readValue_33 rfl (lv_at hl 1 rfl) ?_
      refine g_ X hinX2 hW 0 rfl rfl 7 (by decide) 1 rfl rfl rfl dX2_readValue_34 ?_
      obtain ⟨F9, eF9, hd⟩ := bw_e hd
      refine p_ (ty := .int) X hinX2 tyX2 tyX2_ok nmX2 hW 0 rfl rfl 7 (by decide) 1 rfl rfl rfl (by decide +kernel) rfl rfl (Nat.le_of_ble_eq_true rfl) dX2_readValue_37 (ws' := (WD Y ad ar (F9, D6.2))) (by rw [eF9]; rfl) (fun H locs hW => ?_)
      refine lv_iconst (v := 1) hx hb dX2_readValue_40 (by decide) ?_
      obtain ⟨rfl, rfl⟩ := Prod.mk.inj (Option.some.inj hd)
      exact hQ _ _ _ _ (nz_b (Or.inr rfl)) hW dX2_readValue_41
    · replace hd := if_f c8 hd
      refine lv_aload_n hx hb dX2_readValue_25 rfl (lv_at hl 1 rfl) ?_
      refine g_ X hinX2 hW 0 rfl rfl 7 (by decide) 1 rfl rfl rfl dX2_readValue_26 ?_
      refine lv_ineg hx hb dX2_readValue_29 ?_
      refine lv_goto (tgt := 37) hx hb dX2_readValue_30 (by decide) ?_
      obtain ⟨F10, eF10, hd⟩ := bw_e hd
      refine p_ (ty := .int) X hinX2 tyX2 tyX2_ok nmX2 hW 0 rfl rfl 7 (by decide) 1 rfl rfl rfl (by decide +kernel) rfl rfl (Nat.le_of_ble_eq_true rfl) dX2_readValue_37 (ws' := (WD Y ad ar (F10, D6.2))) (by rw [eF10]; rfl) (fun H locs hW => ?_)
      refine lv_iconst (v := 1) hx hb dX2_readValue_40 (by decide) ?_
      obtain ⟨rfl, rfl⟩ := Prod.mk.inj (Option.some.inj hd)
      exact hQ _ _ _ _ (nz_b (Or.inr rfl)) hW dX2_readValue_41
  · replace hd := if_t c7 hd
    refine lv_iconst (v := 0) hx hb dX2_readValue_18 (by decide) ?_
    obtain ⟨rfl, rfl⟩ := Prod.mk.inj (Option.some.inj hd)
    exact hQ _ _ _ _ (nz_b (Or.inl rfl)) hW dX2_readValue_19
abbrev rmX2_readArguments : Room := { frames := 4, cells := 0, slots := 0, locals := 88 }
set_option maxRecDepth 100000 in
set_option maxHeartbeats 4000000 in
theorem kX2_readArguments (l : Launch) (Dd : va_G) (Y : yT) (ad ar : Nat → Nat) (D : gD) (x1 : Int32) (r : Int32) (D' : gD) (hd : dnX2_readArguments D x1 = some (r, D')) : MG l yX2_readArguments wsX2_readArguments rmX2_readArguments Dd Y [.ref (ad 0), .int x1] (WD Y ad ar D) (WD Y ad ar D') (some (.int r)) := by
  refine MGi (cc := cX2_readArguments) (maxL := 3) (ty := .boolean) (by decide) rfl (Nat.le_of_ble_eq_true rfl) (fun {p e s m args below meth c A} ls Q X hW hl hQ => ?_)
  have hx := X.x
  have hb := X.b
  have hl : lv_has ls 3 [(0, .ref (ad 0)), (1, .int x1)] := hl
  have hinX1 : ∀ w ∈ wsX10, w ∈ wsX2_readArguments := fun w h => List.mem_cons_of_mem _ (List.mem_append_left _ (List.mem_append_right _ h))
  have hinX2 : ∀ w ∈ wsX20, w ∈ wsX2_readArguments := fun w h => List.mem_cons_of_mem _ (List.mem_append_left _ (List.mem_append_left _ (List.mem_append_right _ h)))
  unfold dnX2_readArguments at hd
  refine lv_iload_n hx hb dX2_readArguments_0 rfl (lv_at hl 1 rfl) ?_
  refine lv_if_eq (tgt := 12) hx hb dX2_readArguments_1 (by decide) (fun c1 => ?_) (fun c1 => ?_)
  · replace hd := if_t c1 hd
    refine lv_iconst (v := 0) hx hb dX2_readArguments_12 (by decide) ?_
    obtain ⟨rfl, rfl⟩ := Prod.mk.inj (Option.some.inj hd)
    exact hQ _ _ _ _ (nz_b (Or.inl rfl)) hW dX2_readArguments_13
  · replace hd := if_f c1 hd
    refine lv_aload_n hx hb dX2_readArguments_4 rfl (lv_at hl 0 rfl) ?_
    refine lv_iload_n hx hb dX2_readArguments_5 rfl (lv_at hl 1 rfl) ?_
    obtain ⟨r3, D4, h2, hd⟩ := bs_e hd
    refine cVi_ (rest := []) X (kX2_readFirst l Dd Y ad ar D x1 r3 D4 h2) (cwV 1 X.1.2.2.2.2 gX2_readArguments_X2_readFirst rfl rfl rfl (by decide +kernel) ⟨Nat.le_of_ble_eq_true rfl, Nat.le_of_ble_eq_true rfl⟩) hW 0 2 rfl rfl rfl rfl hl.1 rfl (Nat.le_of_ble_eq_true rfl) dX2_readArguments_6 ⟨Nat.zero_le _, Nat.zero_le _⟩ (fun H locs hW => ?_)
    refine lv_if_ne (tgt := 14) hx hb dX2_readArguments_9 (by decide) (fun c5 => ?_) (fun c5 => ?_)
    · replace hd := if_f c5 hd
      refine lv_iload_n hx hb dX2_readArguments_14 rfl (lv_at hl 1 rfl) ?_
      refine lv_iconst (v := 5) hx hb dX2_readArguments_15 (by decide) ?_
      refine lv_icmp_ne (tgt := 21) hx hb dX2_readArguments_16 (by decide) (fun c6 => ?_) (fun c6 => ?_)
      · replace hd := if_f c6 hd
        refine lv_iload_n hx hb dX2_readArguments_21 rfl (lv_at hl 1 rfl) ?_
        refine lv_iconst (v := 2) hx hb dX2_readArguments_22 (by decide) ?_
        refine lv_icmp_eq (tgt := 31) hx hb dX2_readArguments_23 (by decide) (fun c7 => ?_) (fun c7 => ?_)
        · replace hd := if_t c7 hd
          refine lv_iconst (v := 1) hx hb dX2_readArguments_31 (by decide) ?_
          refine lv_goto (tgt := 36) hx hb dX2_readArguments_32 (by decide) ?_
          refine lv_istore_n (lv' := [(2, .int 1), (0, .ref (ad 0)), (1, .int x1)]) hx hb dX2_readArguments_36 rfl hl (by decide) rfl (fun ls hl => ?_)
          refine lv_iload_n hx hb dX2_readArguments_37 rfl (lv_at hl 0 rfl) ?_
          refine lv_if_eq (tgt := 64) hx hb dX2_readArguments_38 (by decide) (fun h => absurd h (by decide)) (fun _ => ?_)
          refine lv_aload_n hx hb dX2_readArguments_41 rfl (lv_at hl 1 rfl) ?_
          refine lv_aload_n hx hb dX2_readArguments_42 rfl (lv_at hl 1 rfl) ?_
          refine g_ X hinX2 hW 0 rfl rfl 9 (by decide) 1 rfl rfl rfl dX2_readArguments_43 ?_
          refine lv_aload_n hx hb dX2_readArguments_46 rfl (lv_at hl 1 rfl) ?_
          refine g_ X hinX2 hW 0 rfl rfl 2 (by decide) 2 rfl rfl rfl dX2_readArguments_47 ?_
          refine g_ X hinX1 hW 2 rfl rfl 3 (by decide) 3 rfl rfl rfl dX2_readArguments_50 ?_
          refine lv_iconst (v := 1) hx hb dX2_readArguments_53 (by decide) ?_
          refine lv_isub hx hb dX2_readArguments_54 ?_
          obtain ⟨r9, D10, h8, hd⟩ := bs_e hd
          refine cVi_ (rest := []) X (kX2_readNumber l Dd Y ad ar D4 (D4.1 0 9) ((D4.2.1 0 3) - 1) r9 D10 h8) (cwV 2 X.1.2.2.2.2 gX2_readArguments_X2_readNumber rfl rfl rfl (by decide +kernel) ⟨Nat.le_of_ble_eq_true rfl, Nat.le_of_ble_eq_true rfl⟩) hW 0 2 rfl rfl rfl rfl hl.1 rfl (Nat.le_of_ble_eq_true rfl) dX2_readArguments_55 ⟨Nat.zero_le _, Nat.zero_le _⟩ (fun H locs hW => ?_)
          refine lv_if_eq (tgt := 71) hx hb dX2_readArguments_58 (by decide) (fun c11 => ?_) (fun c11 => ?_)
          · replace hd := if_t c11 hd
            refine lv_iconst (v := 0) hx hb dX2_readArguments_71 (by decide) ?_
            obtain ⟨rfl, rfl⟩ := Prod.mk.inj (Option.some.inj hd)
            exact hQ _ _ _ _ (nz_b (Or.inl rfl)) hW dX2_readArguments_72
          · replace hd := if_f c11 hd
            refine lv_goto (tgt := 73) hx hb dX2_readArguments_61 (by decide) ?_
            refine lv_aload_n hx hb dX2_readArguments_73 rfl (lv_at hl 1 rfl) ?_
            refine lv_aload_n hx hb dX2_readArguments_74 rfl (lv_at hl 1 rfl) ?_
            refine g_ X hinX2 hW 0 rfl rfl 7 (by decide) 4 rfl rfl rfl dX2_readArguments_75 ?_
            obtain ⟨F12, eF12, hd⟩ := bw_e hd
            refine p_ (ty := .int) X hinX2 tyX2 tyX2_ok nmX2 hW 0 rfl rfl 10 (by decide) 5 rfl rfl rfl (by decide +kernel) rfl rfl (Nat.le_of_ble_eq_true rfl) dX2_readArguments_78 (ws' := (WD Y ad ar (F12, D10.2))) (by rw [eF12]; rfl) (fun H locs hW => ?_)
            refine lv_iconst (v := 1) hx hb dX2_readArguments_81 (by decide) ?_
            obtain ⟨rfl, rfl⟩ := Prod.mk.inj (Option.some.inj hd)
            exact hQ _ _ _ _ (nz_b (Or.inr rfl)) hW dX2_readArguments_82
        · replace hd := if_f c7 hd
          refine lv_iload_n hx hb dX2_readArguments_26 rfl (lv_at hl 1 rfl) ?_
          refine lv_iconst (v := 3) hx hb dX2_readArguments_27 (by decide) ?_
          refine lv_icmp_ne (tgt := 35) hx hb dX2_readArguments_28 (by decide) (fun c13 => ?_) (fun c13 => ?_)
          · replace hd := if_f c13 hd
            refine lv_iconst (v := 0) hx hb dX2_readArguments_35 (by decide) ?_
            refine lv_istore_n (lv' := [(2, .int 0), (0, .ref (ad 0)), (1, .int x1)]) hx hb dX2_readArguments_36 rfl hl (by decide) rfl (fun ls hl => ?_)
            refine lv_iload_n hx hb dX2_readArguments_37 rfl (lv_at hl 0 rfl) ?_
            refine lv_if_eq (tgt := 64) hx hb dX2_readArguments_38 (by decide) (fun _ => ?_) (fun h => absurd (by decide) h)
            refine lv_aload_n hx hb dX2_readArguments_64 rfl (lv_at hl 1 rfl) ?_
            obtain ⟨r15, D16, h14, hd⟩ := bs_e hd
            refine cVi_ (rest := []) X (kX2_readValue l Dd Y ad ar D4 r15 D16 h14) (cwV 0 X.1.2.2.2.2 gX2_readArguments_X2_readValue rfl rfl rfl (by decide +kernel) ⟨Nat.le_of_ble_eq_true rfl, Nat.le_of_ble_eq_true rfl⟩) hW 0 2 rfl rfl rfl rfl hl.1 rfl (Nat.le_of_ble_eq_true rfl) dX2_readArguments_65 ⟨Nat.zero_le _, Nat.zero_le _⟩ (fun H locs hW => ?_)
            refine lv_if_ne (tgt := 73) hx hb dX2_readArguments_68 (by decide) (fun c17 => ?_) (fun c17 => ?_)
            · replace hd := if_f c17 hd
              refine lv_aload_n hx hb dX2_readArguments_73 rfl (lv_at hl 1 rfl) ?_
              refine lv_aload_n hx hb dX2_readArguments_74 rfl (lv_at hl 1 rfl) ?_
              refine g_ X hinX2 hW 0 rfl rfl 7 (by decide) 4 rfl rfl rfl dX2_readArguments_75 ?_
              obtain ⟨F18, eF18, hd⟩ := bw_e hd
              refine p_ (ty := .int) X hinX2 tyX2 tyX2_ok nmX2 hW 0 rfl rfl 10 (by decide) 5 rfl rfl rfl (by decide +kernel) rfl rfl (Nat.le_of_ble_eq_true rfl) dX2_readArguments_78 (ws' := (WD Y ad ar (F18, D16.2))) (by rw [eF18]; rfl) (fun H locs hW => ?_)
              refine lv_iconst (v := 1) hx hb dX2_readArguments_81 (by decide) ?_
              obtain ⟨rfl, rfl⟩ := Prod.mk.inj (Option.some.inj hd)
              exact hQ _ _ _ _ (nz_b (Or.inr rfl)) hW dX2_readArguments_82
            · replace hd := if_t c17 hd
              refine lv_iconst (v := 0) hx hb dX2_readArguments_71 (by decide) ?_
              obtain ⟨rfl, rfl⟩ := Prod.mk.inj (Option.some.inj hd)
              exact hQ _ _ _ _ (nz_b (Or.inl rfl)) hW dX2_readArguments_72
          · replace hd := if_t c13 hd
            refine lv_iconst (v := 1) hx hb dX2_readArguments_31 (by decide) ?_
            refine lv_goto (tgt := 36) hx hb dX2_readArguments_32 (by decide) ?_
            refine lv_istore_n (lv' := [(2, .int 1), (0, .ref (ad 0)), (1, .int x1)]) hx hb dX2_readArguments_36 rfl hl (by decide) rfl (fun ls hl => ?_)
            refine lv_iload_n hx hb dX2_readArguments_37 rfl (lv_at hl 0 rfl) ?_
            refine lv_if_eq (tgt := 64) hx hb dX2_readArguments_38 (by decide) (fun h => absurd h (by decide)) (fun _ => ?_)
            refine lv_aload_n hx hb dX2_readArguments_41 rfl (lv_at hl 1 rfl) ?_
            refine lv_aload_n hx hb dX2_readArguments_42 rfl (lv_at hl 1 rfl) ?_
            refine g_ X hinX2 hW 0 rfl rfl 9 (by decide) 1 rfl rfl rfl dX2_readArguments_43 ?_
            refine lv_aload_n hx hb dX2_readArguments_46 rfl (lv_at hl 1 rfl) ?_
            refine g_ X hinX2 hW 0 rfl rfl 2 (by decide) 2 rfl rfl rfl dX2_readArguments_47 ?_
            refine g_ X hinX1 hW 2 rfl rfl 3 (by decide) 3 rfl rfl rfl dX2_readArguments_50 ?_
            refine lv_iconst (v := 1) hx hb dX2_readArguments_53 (by decide) ?_
            refine lv_isub hx hb dX2_readArguments_54 ?_
            obtain ⟨r20, D21, h19, hd⟩ := bs_e hd
            refine cVi_ (rest := []) X (kX2_readNumber l Dd Y ad ar D4 (D4.1 0 9) ((D4.2.1 0 3) - 1) r20 D21 h19) (cwV 2 X.1.2.2.2.2 gX2_readArguments_X2_readNumber rfl rfl rfl (by decide +kernel) ⟨Nat.le_of_ble_eq_true rfl, Nat.le_of_ble_eq_true rfl⟩) hW 0 2 rfl rfl rfl rfl hl.1 rfl (Nat.le_of_ble_eq_true rfl) dX2_readArguments_55 ⟨Nat.zero_le _, Nat.zero_le _⟩ (fun H locs hW => ?_)
            refine lv_if_eq (tgt := 71) hx hb dX2_readArguments_58 (by decide) (fun c22 => ?_) (fun c22 => ?_)
            · replace hd := if_t c22 hd
              refine lv_iconst (v := 0) hx hb dX2_readArguments_71 (by decide) ?_
              obtain ⟨rfl, rfl⟩ := Prod.mk.inj (Option.some.inj hd)
              exact hQ _ _ _ _ (nz_b (Or.inl rfl)) hW dX2_readArguments_72
            · replace hd := if_f c22 hd
              refine lv_goto (tgt := 73) hx hb dX2_readArguments_61 (by decide) ?_
              refine lv_aload_n hx hb dX2_readArguments_73 rfl (lv_at hl 1 rfl) ?_
              refine lv_aload_n hx hb dX2_readArguments_74 rfl (lv_at hl 1 rfl) ?_
              refine g_ X hinX2 hW 0 rfl rfl 7 (by decide) 4 rfl rfl rfl dX2_readArguments_75 ?_
              obtain ⟨F23, eF23, hd⟩ := bw_e hd
              refine p_ (ty := .int) X hinX2 tyX2 tyX2_ok nmX2 hW 0 rfl rfl 10 (by decide) 5 rfl rfl rfl (by decide +kernel) rfl rfl (Nat.le_of_ble_eq_true rfl) dX2_readArguments_78 (ws' := (WD Y ad ar (F23, D21.2))) (by rw [eF23]; rfl) (fun H locs hW => ?_)
              refine lv_iconst (v := 1) hx hb dX2_readArguments_81 (by decide) ?_
              obtain ⟨rfl, rfl⟩ := Prod.mk.inj (Option.some.inj hd)
              exact hQ _ _ _ _ (nz_b (Or.inr rfl)) hW dX2_readArguments_82
      · replace hd := if_t c6 hd
        refine lv_iconst (v := 1) hx hb dX2_readArguments_19 (by decide) ?_
        obtain ⟨rfl, rfl⟩ := Prod.mk.inj (Option.some.inj hd)
        exact hQ _ _ _ _ (nz_b (Or.inr rfl)) hW dX2_readArguments_20
    · replace hd := if_t c5 hd
      refine lv_iconst (v := 0) hx hb dX2_readArguments_12 (by decide) ?_
      obtain ⟨rfl, rfl⟩ := Prod.mk.inj (Option.some.inj hd)
      exact hQ _ _ _ _ (nz_b (Or.inl rfl)) hW dX2_readArguments_13
abbrev rmX2_isLetter : Room := { frames := 0, cells := 0, slots := 0, locals := 0 }
set_option maxRecDepth 100000 in
set_option maxHeartbeats 4000000 in
theorem kX2_isLetter (l : Launch) (Dd : va_G) (Y : yT) (x0 : Int32) (r : Int32) (hd : dnX2_isLetter x0 = some r) : MG l yX2_isLetter wsX2_isLetter rmX2_isLetter Dd Y [.int x0] [] [] (some (.int r)) := by
  refine MGi (cc := cX2_isLetter) (maxL := 1) (ty := .boolean) (by decide) rfl (Nat.le_of_ble_eq_true rfl) (fun {p e s m args below meth c A} ls Q X hW hl hQ => ?_)
  have hx := X.x
  have hb := X.b
  have hl : lv_has ls 1 [(0, .int x0)] := hl
  unfold dnX2_isLetter at hd
  refine lv_iload_n hx hb dX2_isLetter_0 rfl (lv_at hl 0 rfl) ?_
  refine lv_bipush (v := 97) hx hb dX2_isLetter_1 (by decide) ?_
  refine lv_icmp_lt (tgt := 16) hx hb dX2_isLetter_3 (by decide) (fun c1 => ?_) (fun c1 => ?_)
  · replace hd := if_t c1 hd
    refine lv_iconst (v := 0) hx hb dX2_isLetter_16 (by decide) ?_
    have hd := Option.some.inj hd
    subst hd
    exact hQ _ _ _ _ (nz_b (Or.inl rfl)) hW dX2_isLetter_17
  · replace hd := if_f c1 hd
    refine lv_iload_n hx hb dX2_isLetter_6 rfl (lv_at hl 0 rfl) ?_
    refine lv_bipush (v := 122) hx hb dX2_isLetter_7 (by decide) ?_
    refine lv_icmp_gt (tgt := 16) hx hb dX2_isLetter_9 (by decide) (fun c2 => ?_) (fun c2 => ?_)
    · replace hd := if_t c2 hd
      refine lv_iconst (v := 0) hx hb dX2_isLetter_16 (by decide) ?_
      have hd := Option.some.inj hd
      subst hd
      exact hQ _ _ _ _ (nz_b (Or.inl rfl)) hW dX2_isLetter_17
    · replace hd := if_f c2 hd
      refine lv_iconst (v := 1) hx hb dX2_isLetter_12 (by decide) ?_
      refine lv_goto (tgt := 17) hx hb dX2_isLetter_13 (by decide) ?_
      have hd := Option.some.inj hd
      subst hd
      exact hQ _ _ _ _ (nz_b (Or.inr rfl)) hW dX2_isLetter_17
abbrev rmX2_hasWord : Room := { frames := 4, cells := 0, slots := 0, locals := 85 }
set_option maxRecDepth 100000 in
set_option maxHeartbeats 4000000 in
theorem kX2_hasWord (l : Launch) (Dd : va_G) (Y : yT) (ad ar : Nat → Nat) (D : gD) (x1 : Nat) (hw : x1 < 10) (r : Int32) (D' : gD) (hd : dnX2_hasWord D x1 = some (r, D')) : MG l yX2_hasWord wsX2_hasWord rmX2_hasWord Dd Y [.ref (ad 0), .ref (Y.2.2.2.1 x1)] (WD Y ad ar D) (WD Y ad ar D') (some (.int r)) := by
  refine MGi (cc := cX2_hasWord) (maxL := 4) (ty := .boolean) (by decide) rfl (Nat.le_of_ble_eq_true rfl) (fun {p e s m args below meth c A} ls Q X hW hl hQ => ?_)
  have hx := X.x
  have hb := X.b
  have hl : lv_has ls 4 [(0, .ref (ad 0)), (1, .ref (Y.2.2.2.1 x1))] := hl
  have hinX2 : ∀ w ∈ wsX20, w ∈ wsX2_hasWord := fun w h => List.mem_cons_of_mem _ (List.mem_append_left _ (List.mem_append_right _ h))
  unfold dnX2_hasWord at hd
  have K7 : ∀ (D : gD) (x2 : Int32) (n : Nat) (x3 : Int32) (z : Nat), lpX2_hasWord_7 D x1 x2 n x3 = some z → ∀ (H : Heap) (locs : List Loc) (ls : Array Slot), Wd Dd A s.heap (WD Y ad ar D) H locs → lv_has ls 4 [(0, .ref (ad 0)), (1, .ref (Y.2.2.2.1 x1)), (2, .int x2), (3, .int x3)] → (∀ (H : Heap) (locs : List Loc) (ls : Array Slot), z = 0 → Wd Dd A s.heap (WD Y ad ar D) H locs → lv_has ls 4 [] → W p l e rmX2_hasWord s m args below meth c H locs 0 0 Q (F0 m 30 ls [])) → (∀ (H : Heap) (locs : List Loc) (ls : Array Slot), z = 1 → Wd Dd A s.heap (WD Y ad ar D) H locs → lv_has ls 4 [(0, .ref (ad 0)), (2, .int x2)] → W p l e rmX2_hasWord s m args below meth c H locs 0 0 Q (F0 m 38 ls [])) → W p l e rmX2_hasWord s m args below meth c H locs 0 0 Q (F0 m 7 ls []) := by
    intro D x2 n
    induction n with
    | zero => intro x3 z hd; cases hd
    | succ n ih =>
      intro x3 z hd H locs ls hW hl kx0 kx1
      unfold lpX2_hasWord_7 at hd
      refine lv_iload_n hx hb dX2_hasWord_7 rfl (lv_at hl 3 rfl) ?_
      refine lv_iload_n hx hb dX2_hasWord_8 rfl (lv_at hl 2 rfl) ?_
      refine lv_icmp_ge (tgt := 38) hx hb dX2_hasWord_9 (by decide) (fun c1 => ?_) (fun c1 => ?_)
      · replace hd := if_t c1 hd
        cases hd
        exact kx1 _ _ _ rfl hW (lv_sub hl [0, 2] rfl)
      · replace hd := if_f c1 hd
        refine lv_aload_n hx hb dX2_hasWord_12 rfl (lv_at hl 0 rfl) ?_
        refine lv_aload_n hx hb dX2_hasWord_13 rfl (lv_at hl 0 rfl) ?_
        refine g_ X hinX2 hW 0 rfl rfl 6 (by decide) 1 rfl rfl rfl dX2_hasWord_14 ?_
        refine lv_iload_n hx hb dX2_hasWord_17 rfl (lv_at hl 3 rfl) ?_
        refine lv_iadd hx hb dX2_hasWord_18 ?_
        obtain ⟨r3, h2, hd⟩ := bp_e hd
        refine cVi_ (rest := []) X (kX2_byteAt l Dd Y ad ar D ((D.1 0 6) + x3) r3 h2) (cwV 1 X.1.2.2.2.2 gX2_hasWord_X2_byteAt rfl rfl rfl (by decide +kernel) ⟨Nat.le_of_ble_eq_true rfl, Nat.le_of_ble_eq_true rfl⟩) hW 0 2 rfl rfl rfl rfl hl.1 rfl (Nat.le_of_ble_eq_true rfl) dX2_hasWord_19 ⟨Nat.zero_le _, Nat.zero_le _⟩ (fun H locs hW => ?_)
        refine lv_aload_n hx hb dX2_hasWord_22 rfl (lv_at hl 1 rfl) ?_
        refine lv_iload_n hx hb dX2_hasWord_23 rfl (lv_at hl 3 rfl) ?_
        obtain ⟨hi4, hd⟩ := sc_e hd
        refine cK_ (rest := [.int r3]) X (kJ0_charAt_5068e l Dd Y x1 hw x3 hi4) (cwV 1 X.1.2.2.2.2 gX2_hasWord_J0_charAt_5068e rfl rfl rfl (by decide +kernel) ⟨Nat.le_of_ble_eq_true rfl, Nat.le_of_ble_eq_true rfl⟩) hW hw rfl hl.1 rfl (Nat.le_of_ble_eq_true rfl) dX2_hasWord_24 ⟨Nat.zero_le _, Nat.zero_le _⟩ (fun H locs hW => ?_)
        generalize sCh x1 x3 = v5 at hd ⊢
        refine lv_icmp_eq (tgt := 32) hx hb dX2_hasWord_27 (by decide) (fun c6 => ?_) (fun c6 => ?_)
        · replace hd := if_t c6 hd
          refine lv_iinc (v := x3 + 1) (lv' := [(3, .int (x3 + 1)), (0, .ref (ad 0)), (1, .ref (Y.2.2.2.1 x1)), (2, .int x2)]) hx hb dX2_hasWord_32 hl (k := 3) rfl rfl (by decide) rfl (fun ls hl => ?_)
          refine lv_goto (tgt := 7) hx hb dX2_hasWord_35 (by decide) ?_
          exact ih (x3 + 1) z hd _ _ _ hW (lv_sub hl [1, 2, 3, 0] rfl) kx0 kx1
        · replace hd := if_f c6 hd
          cases hd
          exact kx0 _ _ _ rfl hW (lv_sub hl [] rfl)
  refine lv_aload_n hx hb dX2_hasWord_0 rfl (lv_at hl 1 rfl) ?_
  refine cK_ (rest := []) X (kJ0_length_8abf5 l Dd Y x1 hw) (cwV 0 X.1.2.2.2.2 gX2_hasWord_J0_length_8abf5 rfl rfl rfl (by decide +kernel) ⟨Nat.le_of_ble_eq_true rfl, Nat.le_of_ble_eq_true rfl⟩) hW hw rfl hl.1 rfl (Nat.le_of_ble_eq_true rfl) dX2_hasWord_1 ⟨Nat.zero_le _, Nat.zero_le _⟩ (fun H locs hW => ?_)
  refine lv_istore_n (lv' := [(2, .int (nI (sLen.getD x1 0))), (0, .ref (ad 0)), (1, .ref (Y.2.2.2.1 x1))]) hx hb dX2_hasWord_4 rfl hl (by decide) rfl (fun ls hl => ?_)
  refine lv_iconst (v := 0) hx hb dX2_hasWord_5 (by decide) ?_
  refine lv_istore_n (lv' := [(3, .int 0), (2, .int (nI (sLen.getD x1 0))), (0, .ref (ad 0)), (1, .ref (Y.2.2.2.1 x1))]) hx hb dX2_hasWord_6 rfl hl (by decide) rfl (fun ls hl => ?_)
  obtain ⟨z7_6, hz7_6, hd⟩ := bp_e hd
  refine K7 D (nI (sLen.getD x1 0)) FU 0 z7_6 hz7_6 _ _ _ hW (lv_sub hl [2, 3, 1, 0] rfl) (fun H locs ls e7 hW hl => ?_) (fun H locs ls e7 hW hl => ?_)
  · replace hd := if_t e7 (hd)
    refine lv_iconst (v := 0) hx hb dX2_hasWord_30 (by decide) ?_
    obtain ⟨rfl, rfl⟩ := Prod.mk.inj (Option.some.inj hd)
    exact hQ _ _ _ _ (nz_b (Or.inl rfl)) hW dX2_hasWord_31
  · replace hd := if_f (by rw [e7]; decide) hd
    refine lv_aload_n hx hb dX2_hasWord_38 rfl (lv_at hl 0 rfl) ?_
    refine lv_aload_n hx hb dX2_hasWord_39 rfl (lv_at hl 0 rfl) ?_
    refine g_ X hinX2 hW 0 rfl rfl 6 (by decide) 1 rfl rfl rfl dX2_hasWord_40 ?_
    refine lv_iload_n hx hb dX2_hasWord_43 rfl (lv_at hl 1 rfl) ?_
    refine lv_iadd hx hb dX2_hasWord_44 ?_
    obtain ⟨r9, h8, hd⟩ := bp_e hd
    refine cVi_ (rest := []) X (kX2_byteAt l Dd Y ad ar D ((D.1 0 6) + (nI (sLen.getD x1 0))) r9 h8) (cwV 1 X.1.2.2.2.2 gX2_hasWord_X2_byteAt rfl rfl rfl (by decide +kernel) ⟨Nat.le_of_ble_eq_true rfl, Nat.le_of_ble_eq_true rfl⟩) hW 0 2 rfl rfl rfl rfl hl.1 rfl (Nat.le_of_ble_eq_true rfl) dX2_hasWord_45 ⟨Nat.zero_le _, Nat.zero_le _⟩ (fun H locs hW => ?_)
    obtain ⟨r11, h10, hd⟩ := bp_e hd
    refine cSi_ (rest := []) X (kX2_isLetter l Dd Y r9 r11 h10) (va_cwS 1 X.1.2.2.2.2 gX2_hasWord_X2_isLetter rfl rfl rfl (by decide +kernel) ⟨Nat.le_of_ble_eq_true rfl, Nat.le_of_ble_eq_true rfl⟩) hW rfl hl.1 rfl (Nat.le_of_ble_eq_true rfl) dX2_hasWord_48 ⟨Nat.zero_le _, Nat.zero_le _⟩ (fun H locs hW => ?_)
    refine lv_if_eq (tgt := 56) hx hb dX2_hasWord_51 (by decide) (fun c12 => ?_) (fun c12 => ?_)
    · replace hd := if_t c12 hd
      refine lv_aload_n hx hb dX2_hasWord_56 rfl (lv_at hl 0 rfl) ?_
      refine lv_aload_n hx hb dX2_hasWord_57 rfl (lv_at hl 0 rfl) ?_
      refine g_ X hinX2 hW 0 rfl rfl 6 (by decide) 1 rfl rfl rfl dX2_hasWord_58 ?_
      refine lv_iload_n hx hb dX2_hasWord_61 rfl (lv_at hl 1 rfl) ?_
      refine lv_iadd hx hb dX2_hasWord_62 ?_
      obtain ⟨D14, h13, hd⟩ := bp_e hd
      refine cVv_ (rest := []) X (kX2_goTo l Dd Y ad ar D ((D.1 0 6) + (nI (sLen.getD x1 0))) D14 h13) (cwV 1 X.1.2.2.2.2 gX2_hasWord_X2_goTo rfl rfl rfl (by decide +kernel) ⟨Nat.le_of_ble_eq_true rfl, Nat.le_of_ble_eq_true rfl⟩) hW 0 2 rfl rfl rfl rfl hl.1 rfl (Nat.le_of_ble_eq_true rfl) dX2_hasWord_63 ⟨Nat.zero_le _, Nat.zero_le _⟩ (fun H locs hW => ?_)
      refine lv_iconst (v := 1) hx hb dX2_hasWord_66 (by decide) ?_
      obtain ⟨rfl, rfl⟩ := Prod.mk.inj (Option.some.inj hd)
      exact hQ _ _ _ _ (nz_b (Or.inr rfl)) hW dX2_hasWord_67
    · replace hd := if_f c12 hd
      refine lv_iconst (v := 0) hx hb dX2_hasWord_54 (by decide) ?_
      obtain ⟨rfl, rfl⟩ := Prod.mk.inj (Option.some.inj hd)
      exact hQ _ _ _ _ (nz_b (Or.inl rfl)) hW dX2_hasWord_55
abbrev rmX2_readKind : Room := { frames := 5, cells := 0, slots := 0, locals := 108 }
set_option maxRecDepth 100000 in
set_option maxHeartbeats 4000000 in
theorem kX2_readKind (l : Launch) (Dd : va_G) (Y : yT) (ad ar : Nat → Nat) (D : gD) (r : Int32) (D' : gD) (hd : dnX2_readKind D = some (r, D')) : MG l yX2_readKind wsX2_readKind rmX2_readKind Dd Y [.ref (ad 0)] (WD Y ad ar D) (WD Y ad ar D') (some (.int r)) := by
  refine MGi (cc := cX2_readKind) (maxL := 1) (ty := .int) (by decide) rfl (Nat.le_of_ble_eq_true rfl) (fun {p e s m args below meth c A} ls Q X hW hl hQ => ?_)
  have hx := X.x
  have hb := X.b
  have hl : lv_has ls 1 [(0, .ref (ad 0))] := hl
  have hinX2 : ∀ w ∈ wsX20, w ∈ wsX2_readKind := fun w h => List.mem_cons_of_mem _ (List.mem_append_left _ (List.mem_append_right _ h))
  unfold dnX2_readKind at hd
  refine lv_aload_n hx hb dX2_readKind_0 rfl (lv_at hl 0 rfl) ?_
  refine va_ldcS hx hb X.1.2.2.2.1 (X.2.2.2.1.2.1 _ (List.mem_of_getElem? (i := 1) rfl)) dX2_readKind_1 ?_
  obtain ⟨r2, D3, h1, hd⟩ := bs_e hd
  refine cVi_ (rest := []) X (kX2_hasWord l Dd Y ad ar D 1 (by decide) r2 D3 h1) (cwV 1 X.1.2.2.2.2 gX2_readKind_X2_hasWord rfl rfl rfl (by decide +kernel) ⟨Nat.le_of_ble_eq_true rfl, Nat.le_of_ble_eq_true rfl⟩) hW 0 2 rfl rfl rfl rfl hl.1 rfl (Nat.le_of_ble_eq_true rfl) dX2_readKind_3 ⟨Nat.zero_le _, Nat.zero_le _⟩ (fun H locs hW => ?_)
  refine lv_if_eq (tgt := 11) hx hb dX2_readKind_6 (by decide) (fun c4 => ?_) (fun c4 => ?_)
  · replace hd := if_t c4 hd
    refine lv_aload_n hx hb dX2_readKind_11 rfl (lv_at hl 0 rfl) ?_
    refine va_ldcS hx hb X.1.2.2.2.1 (X.2.2.2.1.2.1 _ (List.mem_of_getElem? (i := 2) rfl)) dX2_readKind_12 ?_
    obtain ⟨r6, D7, h5, hd⟩ := bs_e hd
    refine cVi_ (rest := []) X (kX2_hasWord l Dd Y ad ar D3 2 (by decide) r6 D7 h5) (cwV 1 X.1.2.2.2.2 gX2_readKind_X2_hasWord rfl rfl rfl (by decide +kernel) ⟨Nat.le_of_ble_eq_true rfl, Nat.le_of_ble_eq_true rfl⟩) hW 0 2 rfl rfl rfl rfl hl.1 rfl (Nat.le_of_ble_eq_true rfl) dX2_readKind_14 ⟨Nat.zero_le _, Nat.zero_le _⟩ (fun H locs hW => ?_)
    refine lv_if_eq (tgt := 22) hx hb dX2_readKind_17 (by decide) (fun c8 => ?_) (fun c8 => ?_)
    · replace hd := if_t c8 hd
      refine lv_aload_n hx hb dX2_readKind_22 rfl (lv_at hl 0 rfl) ?_
      refine va_ldcS hx hb X.1.2.2.2.1 (X.2.2.2.1.2.1 _ (List.mem_of_getElem? (i := 3) rfl)) dX2_readKind_23 ?_
      obtain ⟨r10, D11, h9, hd⟩ := bs_e hd
      refine cVi_ (rest := []) X (kX2_hasWord l Dd Y ad ar D7 3 (by decide) r10 D11 h9) (cwV 1 X.1.2.2.2.2 gX2_readKind_X2_hasWord rfl rfl rfl (by decide +kernel) ⟨Nat.le_of_ble_eq_true rfl, Nat.le_of_ble_eq_true rfl⟩) hW 0 2 rfl rfl rfl rfl hl.1 rfl (Nat.le_of_ble_eq_true rfl) dX2_readKind_25 ⟨Nat.zero_le _, Nat.zero_le _⟩ (fun H locs hW => ?_)
      refine lv_if_eq (tgt := 33) hx hb dX2_readKind_28 (by decide) (fun c12 => ?_) (fun c12 => ?_)
      · replace hd := if_t c12 hd
        refine lv_aload_n hx hb dX2_readKind_33 rfl (lv_at hl 0 rfl) ?_
        refine va_ldcS hx hb X.1.2.2.2.1 (X.2.2.2.1.2.1 _ (List.mem_of_getElem? (i := 4) rfl)) dX2_readKind_34 ?_
        obtain ⟨r14, D15, h13, hd⟩ := bs_e hd
        refine cVi_ (rest := []) X (kX2_hasWord l Dd Y ad ar D11 4 (by decide) r14 D15 h13) (cwV 1 X.1.2.2.2.2 gX2_readKind_X2_hasWord rfl rfl rfl (by decide +kernel) ⟨Nat.le_of_ble_eq_true rfl, Nat.le_of_ble_eq_true rfl⟩) hW 0 2 rfl rfl rfl rfl hl.1 rfl (Nat.le_of_ble_eq_true rfl) dX2_readKind_36 ⟨Nat.zero_le _, Nat.zero_le _⟩ (fun H locs hW => ?_)
        refine lv_if_eq (tgt := 44) hx hb dX2_readKind_39 (by decide) (fun c16 => ?_) (fun c16 => ?_)
        · replace hd := if_t c16 hd
          refine lv_aload_n hx hb dX2_readKind_44 rfl (lv_at hl 0 rfl) ?_
          refine va_ldcS hx hb X.1.2.2.2.1 (X.2.2.2.1.2.1 _ (List.mem_of_getElem? (i := 5) rfl)) dX2_readKind_45 ?_
          obtain ⟨r18, D19, h17, hd⟩ := bs_e hd
          refine cVi_ (rest := []) X (kX2_hasWord l Dd Y ad ar D15 5 (by decide) r18 D19 h17) (cwV 1 X.1.2.2.2.2 gX2_readKind_X2_hasWord rfl rfl rfl (by decide +kernel) ⟨Nat.le_of_ble_eq_true rfl, Nat.le_of_ble_eq_true rfl⟩) hW 0 2 rfl rfl rfl rfl hl.1 rfl (Nat.le_of_ble_eq_true rfl) dX2_readKind_47 ⟨Nat.zero_le _, Nat.zero_le _⟩ (fun H locs hW => ?_)
          refine lv_if_eq (tgt := 55) hx hb dX2_readKind_50 (by decide) (fun c20 => ?_) (fun c20 => ?_)
          · replace hd := if_t c20 hd
            refine lv_aload_n hx hb dX2_readKind_55 rfl (lv_at hl 0 rfl) ?_
            refine lv_bipush (v := (-2)) hx hb dX2_readKind_56 (by decide) ?_
            refine lv_aload_n hx hb dX2_readKind_58 rfl (lv_at hl 0 rfl) ?_
            refine g_ X hinX2 hW 0 rfl rfl 6 (by decide) 1 rfl rfl rfl dX2_readKind_59 ?_
            obtain ⟨r22, D23, h21, hd⟩ := bs_e hd
            refine cVi_ (rest := []) X (kX2_fail l Dd Y ad ar D19 (-2) (D19.1 0 6) r22 D23 h21) (cwV 2 X.1.2.2.2.2 gX2_readKind_X2_fail rfl rfl rfl (by decide +kernel) ⟨Nat.le_of_ble_eq_true rfl, Nat.le_of_ble_eq_true rfl⟩) hW 0 2 rfl rfl rfl rfl hl.1 rfl (Nat.le_of_ble_eq_true rfl) dX2_readKind_62 ⟨Nat.zero_le _, Nat.zero_le _⟩ (fun H locs hW => ?_)
            refine lv_pop hx hb dX2_readKind_65 rfl ?_
            refine lv_iconst (v := 0) hx hb dX2_readKind_66 (by decide) ?_
            obtain ⟨rfl, rfl⟩ := Prod.mk.inj (Option.some.inj hd)
            exact hQ _ _ _ _ rfl hW dX2_readKind_67
          · replace hd := if_f c20 hd
            refine lv_iconst (v := 5) hx hb dX2_readKind_53 (by decide) ?_
            obtain ⟨rfl, rfl⟩ := Prod.mk.inj (Option.some.inj hd)
            exact hQ _ _ _ _ rfl hW dX2_readKind_54
        · replace hd := if_f c16 hd
          refine lv_iconst (v := 4) hx hb dX2_readKind_42 (by decide) ?_
          obtain ⟨rfl, rfl⟩ := Prod.mk.inj (Option.some.inj hd)
          exact hQ _ _ _ _ rfl hW dX2_readKind_43
      · replace hd := if_f c12 hd
        refine lv_iconst (v := 3) hx hb dX2_readKind_31 (by decide) ?_
        obtain ⟨rfl, rfl⟩ := Prod.mk.inj (Option.some.inj hd)
        exact hQ _ _ _ _ rfl hW dX2_readKind_32
    · replace hd := if_f c8 hd
      refine lv_iconst (v := 2) hx hb dX2_readKind_20 (by decide) ?_
      obtain ⟨rfl, rfl⟩ := Prod.mk.inj (Option.some.inj hd)
      exact hQ _ _ _ _ rfl hW dX2_readKind_21
  · replace hd := if_f c4 hd
    refine lv_iconst (v := 1) hx hb dX2_readKind_9 (by decide) ?_
    obtain ⟨rfl, rfl⟩ := Prod.mk.inj (Option.some.inj hd)
    exact hQ _ _ _ _ rfl hW dX2_readKind_10
abbrev rmX2_readSign : Room := { frames := 3, cells := 0, slots := 0, locals := 63 }
set_option maxRecDepth 100000 in
set_option maxHeartbeats 4000000 in
theorem kX2_readSign (l : Launch) (Dd : va_G) (Y : yT) (ad ar : Nat → Nat) (D : gD) (x1 : Int32) (r : Int32) (D' : gD) (hd : dnX2_readSign D x1 = some (r, D')) : MG l yX2_readSign wsX2_readSign rmX2_readSign Dd Y [.ref (ad 0), .int x1] (WD Y ad ar D) (WD Y ad ar D') (some (.int r)) := by
  refine MGi (cc := cX2_readSign) (maxL := 2) (ty := .boolean) (by decide) rfl (Nat.le_of_ble_eq_true rfl) (fun {p e s m args below meth c A} ls Q X hW hl hQ => ?_)
  have hx := X.x
  have hb := X.b
  have hl : lv_has ls 2 [(0, .ref (ad 0)), (1, .int x1)] := hl
  have hinX2 : ∀ w ∈ wsX20, w ∈ wsX2_readSign := fun w h => List.mem_cons_of_mem _ (List.mem_append_right _ h)
  unfold dnX2_readSign at hd
  refine lv_aload_n hx hb dX2_readSign_0 rfl (lv_at hl 0 rfl) ?_
  refine lv_iload_n hx hb dX2_readSign_1 rfl (lv_at hl 1 rfl) ?_
  obtain ⟨r2, D3, h1, hd⟩ := bs_e hd
  refine cVi_ (rest := []) X (kX2_hasSign l Dd Y ad ar D x1 r2 D3 h1) (cwV 1 X.1.2.2.2.2 gX2_readSign_X2_hasSign rfl rfl rfl (by decide +kernel) ⟨Nat.le_of_ble_eq_true rfl, Nat.le_of_ble_eq_true rfl⟩) hW 0 2 rfl rfl rfl rfl hl.1 rfl (Nat.le_of_ble_eq_true rfl) dX2_readSign_2 ⟨Nat.zero_le _, Nat.zero_le _⟩ (fun H locs hW => ?_)
  refine lv_if_ne (tgt := 21) hx hb dX2_readSign_5 (by decide) (fun c4 => ?_) (fun c4 => ?_)
  · replace hd := if_f c4 hd
    refine lv_iconst (v := 1) hx hb dX2_readSign_21 (by decide) ?_
    refine lv_goto (tgt := 26) hx hb dX2_readSign_22 (by decide) ?_
    obtain ⟨rfl, rfl⟩ := Prod.mk.inj (Option.some.inj hd)
    exact hQ _ _ _ _ (nz_b (Or.inr rfl)) hW dX2_readSign_26
  · replace hd := if_t c4 hd
    refine lv_aload_n hx hb dX2_readSign_8 rfl (lv_at hl 0 rfl) ?_
    refine lv_bipush (v := (-2)) hx hb dX2_readSign_9 (by decide) ?_
    refine lv_aload_n hx hb dX2_readSign_11 rfl (lv_at hl 0 rfl) ?_
    refine g_ X hinX2 hW 0 rfl rfl 6 (by decide) 1 rfl rfl rfl dX2_readSign_12 ?_
    obtain ⟨r6, D7, h5, hd⟩ := bs_e hd
    refine cVi_ (rest := []) X (kX2_fail l Dd Y ad ar D3 (-2) (D3.1 0 6) r6 D7 h5) (cwV 2 X.1.2.2.2.2 gX2_readSign_X2_fail rfl rfl rfl (by decide +kernel) ⟨Nat.le_of_ble_eq_true rfl, Nat.le_of_ble_eq_true rfl⟩) hW 0 2 rfl rfl rfl rfl hl.1 rfl (Nat.le_of_ble_eq_true rfl) dX2_readSign_15 ⟨Nat.zero_le _, Nat.zero_le _⟩ (fun H locs hW => ?_)
    refine lv_if_eq (tgt := 25) hx hb dX2_readSign_18 (by decide) (fun c8 => ?_) (fun c8 => ?_)
    · replace hd := if_t c8 hd
      refine lv_iconst (v := 0) hx hb dX2_readSign_25 (by decide) ?_
      obtain ⟨rfl, rfl⟩ := Prod.mk.inj (Option.some.inj hd)
      exact hQ _ _ _ _ (nz_b (Or.inl rfl)) hW dX2_readSign_26
    · replace hd := if_f c8 hd
      refine lv_iconst (v := 1) hx hb dX2_readSign_21 (by decide) ?_
      refine lv_goto (tgt := 26) hx hb dX2_readSign_22 (by decide) ?_
      obtain ⟨rfl, rfl⟩ := Prod.mk.inj (Option.some.inj hd)
      exact hQ _ _ _ _ (nz_b (Or.inr rfl)) hW dX2_readSign_26
abbrev rmX2_readRule : Room := { frames := 5, cells := 0, slots := 0, locals := 108 }
set_option maxRecDepth 100000 in
set_option maxHeartbeats 4000000 in
theorem kX2_readRule (l : Launch) (Dd : va_G) (Y : yT) (ad ar : Nat → Nat) (D : gD) (r : Int32) (D' : gD) (hd : dnX2_readRule D = some (r, D')) : MG l yX2_readRule wsX2_readRule rmX2_readRule Dd Y [.ref (ad 0)] (WD Y ad ar D) (WD Y ad ar D') (some (.int r)) := by
  refine MGi (cc := cX2_readRule) (maxL := 1) (ty := .boolean) (by decide) rfl (Nat.le_of_ble_eq_true rfl) (fun {p e s m args below meth c A} ls Q X hW hl hQ => ?_)
  have hx := X.x
  have hb := X.b
  have hl : lv_has ls 1 [(0, .ref (ad 0))] := hl
  have hinX2 : ∀ w ∈ wsX20, w ∈ wsX2_readRule := fun w h => List.mem_cons_of_mem _ (List.mem_append_left _ (List.mem_append_left _ (List.mem_append_left _ (List.mem_append_right _ h))))
  unfold dnX2_readRule at hd
  refine lv_aload_n hx hb dX2_readRule_0 rfl (lv_at hl 0 rfl) ?_
  refine va_ldcS hx hb X.1.2.2.2.1 (X.2.2.2.1.2.1 _ (List.mem_of_getElem? (i := 0) rfl)) dX2_readRule_1 ?_
  obtain ⟨r2, D3, h1, hd⟩ := bs_e hd
  refine cVi_ (rest := []) X (kX2_hasWord l Dd Y ad ar D 0 (by decide) r2 D3 h1) (cwV 1 X.1.2.2.2.2 gX2_readRule_X2_hasWord rfl rfl rfl (by decide +kernel) ⟨Nat.le_of_ble_eq_true rfl, Nat.le_of_ble_eq_true rfl⟩) hW 0 2 rfl rfl rfl rfl hl.1 rfl (Nat.le_of_ble_eq_true rfl) dX2_readRule_3 ⟨Nat.zero_le _, Nat.zero_le _⟩ (fun H locs hW => ?_)
  refine lv_if_ne (tgt := 20) hx hb dX2_readRule_6 (by decide) (fun c4 => ?_) (fun c4 => ?_)
  · replace hd := if_f c4 hd
    refine lv_aload_n hx hb dX2_readRule_20 rfl (lv_at hl 0 rfl) ?_
    refine lv_iconst (v := 0) hx hb dX2_readRule_21 (by decide) ?_
    refine lv_iconst (v := 2) hx hb dX2_readRule_22 (by decide) ?_
    obtain ⟨r6, D7, h5, hd⟩ := bs_e hd
    refine cVi_ (rest := []) X (kX2_readNumber l Dd Y ad ar D3 0 2 r6 D7 h5) (cwV 2 X.1.2.2.2.2 gX2_readRule_X2_readNumber rfl rfl rfl (by decide +kernel) ⟨Nat.le_of_ble_eq_true rfl, Nat.le_of_ble_eq_true rfl⟩) hW 0 2 rfl rfl rfl rfl hl.1 rfl (Nat.le_of_ble_eq_true rfl) dX2_readRule_23 ⟨Nat.zero_le _, Nat.zero_le _⟩ (fun H locs hW => ?_)
    refine lv_if_ne (tgt := 31) hx hb dX2_readRule_26 (by decide) (fun c8 => ?_) (fun c8 => ?_)
    · replace hd := if_f c8 hd
      refine lv_aload_n hx hb dX2_readRule_31 rfl (lv_at hl 0 rfl) ?_
      refine lv_aload_n hx hb dX2_readRule_32 rfl (lv_at hl 0 rfl) ?_
      refine g_ X hinX2 hW 0 rfl rfl 7 (by decide) 2 rfl rfl rfl dX2_readRule_33 ?_
      obtain ⟨F9, eF9, hd⟩ := bw_e hd
      refine p_ (ty := .int) X hinX2 tyX2 tyX2_ok nmX2 hW 0 rfl rfl 9 (by decide) 3 rfl rfl rfl (by decide +kernel) rfl rfl (Nat.le_of_ble_eq_true rfl) dX2_readRule_36 (ws' := (WD Y ad ar (F9, D7.2))) (by rw [eF9]; rfl) (fun H locs hW => ?_)
      refine lv_aload_n hx hb dX2_readRule_39 rfl (lv_at hl 0 rfl) ?_
      refine lv_iconst (v := 1) hx hb dX2_readRule_40 (by decide) ?_
      refine lv_bipush (v := 8) hx hb dX2_readRule_41 (by decide) ?_
      obtain ⟨r11, D12, h10, hd⟩ := bs_e hd
      refine cVi_ (rest := []) X (kX2_readNumber l Dd Y ad ar (F9, D7.2) 1 8 r11 D12 h10) (cwV 2 X.1.2.2.2.2 gX2_readRule_X2_readNumber rfl rfl rfl (by decide +kernel) ⟨Nat.le_of_ble_eq_true rfl, Nat.le_of_ble_eq_true rfl⟩) hW 0 2 rfl rfl rfl rfl hl.1 rfl (Nat.le_of_ble_eq_true rfl) dX2_readRule_43 ⟨Nat.zero_le _, Nat.zero_le _⟩ (fun H locs hW => ?_)
      refine lv_if_ne (tgt := 51) hx hb dX2_readRule_46 (by decide) (fun c13 => ?_) (fun c13 => ?_)
      · replace hd := if_f c13 hd
        refine lv_aload_n hx hb dX2_readRule_51 rfl (lv_at hl 0 rfl) ?_
        refine g_ X hinX2 hW 0 rfl rfl 2 (by decide) 4 rfl rfl rfl dX2_readRule_52 ?_
        refine lv_aload_n hx hb dX2_readRule_55 rfl (lv_at hl 0 rfl) ?_
        refine g_ X hinX2 hW 0 rfl rfl 9 (by decide) 3 rfl rfl rfl dX2_readRule_56 ?_
        refine lv_aload_n hx hb dX2_readRule_59 rfl (lv_at hl 0 rfl) ?_
        refine g_ X hinX2 hW 0 rfl rfl 7 (by decide) 2 rfl rfl rfl dX2_readRule_60 ?_
        obtain ⟨G15, h14, hd⟩ := bp_e hd
        refine cVpv_ (wc := (WR Y ar D12.2)) (w1 := (WR Y ar G15)) (ws' := (WD Y ad ar (D12.1, G15))) (rest := []) X (kX1_start l Dd Y ar D12.2 (D12.1 0 9) (D12.1 0 7) G15 h14) (cwV 2 X.1.2.2.2.2 gX2_readRule_X1_start rfl rfl rfl (by decide +kernel) ⟨Nat.le_of_ble_eq_true rfl, Nat.le_of_ble_eq_true rfl⟩) hW rfl rfl 0 1 rfl rfl rfl rfl hl.1 rfl (Nat.le_of_ble_eq_true rfl) dX2_readRule_63 ⟨Nat.zero_le _, Nat.zero_le _⟩ (fun H locs hW => ?_)
        refine lv_aload_n hx hb dX2_readRule_66 rfl (lv_at hl 0 rfl) ?_
        refine lv_bipush (v := 58) hx hb dX2_readRule_67 (by decide) ?_
        obtain ⟨r17, D18, h16, hd⟩ := bs_e hd
        refine cVi_ (rest := []) X (kX2_readSign l Dd Y ad ar (D12.1, G15) 58 r17 D18 h16) (cwV 1 X.1.2.2.2.2 gX2_readRule_X2_readSign rfl rfl rfl (by decide +kernel) ⟨Nat.le_of_ble_eq_true rfl, Nat.le_of_ble_eq_true rfl⟩) hW 0 2 rfl rfl rfl rfl hl.1 rfl (Nat.le_of_ble_eq_true rfl) dX2_readRule_69 ⟨Nat.zero_le _, Nat.zero_le _⟩ (fun H locs hW => ?_)
        obtain ⟨hz19, hd⟩ := rzt_e hd
        obtain ⟨rfl, rfl⟩ := Prod.mk.inj hd
        exact hQ _ _ _ _ (nz_b hz19) hW dX2_readRule_72
      · replace hd := if_t c13 hd
        refine lv_iconst (v := 0) hx hb dX2_readRule_49 (by decide) ?_
        obtain ⟨rfl, rfl⟩ := Prod.mk.inj (Option.some.inj hd)
        exact hQ _ _ _ _ (nz_b (Or.inl rfl)) hW dX2_readRule_50
    · replace hd := if_t c8 hd
      refine lv_iconst (v := 0) hx hb dX2_readRule_29 (by decide) ?_
      obtain ⟨rfl, rfl⟩ := Prod.mk.inj (Option.some.inj hd)
      exact hQ _ _ _ _ (nz_b (Or.inl rfl)) hW dX2_readRule_30
  · replace hd := if_t c4 hd
    refine lv_aload_n hx hb dX2_readRule_9 rfl (lv_at hl 0 rfl) ?_
    refine lv_bipush (v := (-2)) hx hb dX2_readRule_10 (by decide) ?_
    refine lv_aload_n hx hb dX2_readRule_12 rfl (lv_at hl 0 rfl) ?_
    refine g_ X hinX2 hW 0 rfl rfl 6 (by decide) 1 rfl rfl rfl dX2_readRule_13 ?_
    obtain ⟨r21, D22, h20, hd⟩ := bs_e hd
    refine cVi_ (rest := []) X (kX2_fail l Dd Y ad ar D3 (-2) (D3.1 0 6) r21 D22 h20) (cwV 2 X.1.2.2.2.2 gX2_readRule_X2_fail rfl rfl rfl (by decide +kernel) ⟨Nat.le_of_ble_eq_true rfl, Nat.le_of_ble_eq_true rfl⟩) hW 0 2 rfl rfl rfl rfl hl.1 rfl (Nat.le_of_ble_eq_true rfl) dX2_readRule_16 ⟨Nat.zero_le _, Nat.zero_le _⟩ (fun H locs hW => ?_)
    obtain ⟨hz23, hd⟩ := rzt_e hd
    obtain ⟨rfl, rfl⟩ := Prod.mk.inj hd
    exact hQ _ _ _ _ (nz_b hz23) hW dX2_readRule_19
abbrev rmX2_refuseSurplusValue : Room := { frames := 3, cells := 0, slots := 0, locals := 65 }
set_option maxRecDepth 100000 in
set_option maxHeartbeats 4000000 in
theorem kX2_refuseSurplusValue (l : Launch) (Dd : va_G) (Y : yT) (ad ar : Nat → Nat) (D : gD) (r : Int32) (D' : gD) (hd : dnX2_refuseSurplusValue D = some (r, D')) : MG l yX2_refuseSurplusValue wsX2_refuseSurplusValue rmX2_refuseSurplusValue Dd Y [.ref (ad 0)] (WD Y ad ar D) (WD Y ad ar D') (some (.int r)) := by
  refine MGi (cc := cX2_refuseSurplusValue) (maxL := 2) (ty := .boolean) (by decide) rfl (Nat.le_of_ble_eq_true rfl) (fun {p e s m args below meth c A} ls Q X hW hl hQ => ?_)
  have hx := X.x
  have hb := X.b
  have hl : lv_has ls 2 [(0, .ref (ad 0))] := hl
  have hinX2 : ∀ w ∈ wsX20, w ∈ wsX2_refuseSurplusValue := fun w h => List.mem_cons_of_mem _ (List.mem_append_right _ h)
  unfold dnX2_refuseSurplusValue at hd
  refine lv_aload_n hx hb dX2_refuseSurplusValue_0 rfl (lv_at hl 0 rfl) ?_
  refine g_ X hinX2 hW 0 rfl rfl 6 (by decide) 1 rfl rfl rfl dX2_refuseSurplusValue_1 ?_
  refine lv_istore_n (lv' := [(1, .int (D.1 0 6)), (0, .ref (ad 0))]) hx hb dX2_refuseSurplusValue_4 rfl hl (by decide) rfl (fun ls hl => ?_)
  refine lv_aload_n hx hb dX2_refuseSurplusValue_5 rfl (lv_at hl 1 rfl) ?_
  refine lv_bipush (v := 45) hx hb dX2_refuseSurplusValue_6 (by decide) ?_
  obtain ⟨r2, h1, hd⟩ := bp_e hd
  refine cVi_ (rest := []) X (kX2_isNext l Dd Y ad ar D 45 r2 h1) (cwV 1 X.1.2.2.2.2 gX2_refuseSurplusValue_X2_isNext rfl rfl rfl (by decide +kernel) ⟨Nat.le_of_ble_eq_true rfl, Nat.le_of_ble_eq_true rfl⟩) hW 0 2 rfl rfl rfl rfl hl.1 rfl (Nat.le_of_ble_eq_true rfl) dX2_refuseSurplusValue_8 ⟨Nat.zero_le _, Nat.zero_le _⟩ (fun H locs hW => ?_)
  refine lv_if_eq (tgt := 22) hx hb dX2_refuseSurplusValue_11 (by decide) (fun c3 => ?_) (fun c3 => ?_)
  · replace hd := if_t c3 hd
    refine lv_aload_n hx hb dX2_refuseSurplusValue_22 rfl (lv_at hl 1 rfl) ?_
    refine lv_iconst (v := 0) hx hb dX2_refuseSurplusValue_23 (by decide) ?_
    refine lv_sipush (v := 999) hx hb dX2_refuseSurplusValue_24 (by decide) ?_
    obtain ⟨r5, D6, h4, hd⟩ := bs_e hd
    refine cVi_ (rest := []) X (kX2_readNumber l Dd Y ad ar D 0 999 r5 D6 h4) (cwV 2 X.1.2.2.2.2 gX2_refuseSurplusValue_X2_readNumber rfl rfl rfl (by decide +kernel) ⟨Nat.le_of_ble_eq_true rfl, Nat.le_of_ble_eq_true rfl⟩) hW 0 2 rfl rfl rfl rfl hl.1 rfl (Nat.le_of_ble_eq_true rfl) dX2_refuseSurplusValue_27 ⟨Nat.zero_le _, Nat.zero_le _⟩ (fun H locs hW => ?_)
    refine lv_if_eq (tgt := 47) hx hb dX2_refuseSurplusValue_30 (by decide) (fun c7 => ?_) (fun c7 => ?_)
    · replace hd := if_t c7 hd
      refine lv_iconst (v := 0) hx hb dX2_refuseSurplusValue_47 (by decide) ?_
      obtain ⟨rfl, rfl⟩ := Prod.mk.inj (Option.some.inj hd)
      exact hQ _ _ _ _ (nz_b (Or.inl rfl)) hW dX2_refuseSurplusValue_48
    · replace hd := if_f c7 hd
      refine lv_aload_n hx hb dX2_refuseSurplusValue_33 rfl (lv_at hl 1 rfl) ?_
      refine lv_bipush (v := (-4)) hx hb dX2_refuseSurplusValue_34 (by decide) ?_
      refine lv_iload_n hx hb dX2_refuseSurplusValue_36 rfl (lv_at hl 0 rfl) ?_
      obtain ⟨r9, D10, h8, hd⟩ := bs_e hd
      refine cVi_ (rest := []) X (kX2_fail l Dd Y ad ar D6 (-4) (D.1 0 6) r9 D10 h8) (cwV 2 X.1.2.2.2.2 gX2_refuseSurplusValue_X2_fail rfl rfl rfl (by decide +kernel) ⟨Nat.le_of_ble_eq_true rfl, Nat.le_of_ble_eq_true rfl⟩) hW 0 2 rfl rfl rfl rfl hl.1 rfl (Nat.le_of_ble_eq_true rfl) dX2_refuseSurplusValue_37 ⟨Nat.zero_le _, Nat.zero_le _⟩ (fun H locs hW => ?_)
      refine lv_if_eq (tgt := 47) hx hb dX2_refuseSurplusValue_40 (by decide) (fun c11 => ?_) (fun c11 => ?_)
      · replace hd := if_t c11 hd
        refine lv_iconst (v := 0) hx hb dX2_refuseSurplusValue_47 (by decide) ?_
        obtain ⟨rfl, rfl⟩ := Prod.mk.inj (Option.some.inj hd)
        exact hQ _ _ _ _ (nz_b (Or.inl rfl)) hW dX2_refuseSurplusValue_48
      · replace hd := if_f c11 hd
        refine lv_iconst (v := 1) hx hb dX2_refuseSurplusValue_43 (by decide) ?_
        refine lv_goto (tgt := 48) hx hb dX2_refuseSurplusValue_44 (by decide) ?_
        obtain ⟨rfl, rfl⟩ := Prod.mk.inj (Option.some.inj hd)
        exact hQ _ _ _ _ (nz_b (Or.inr rfl)) hW dX2_refuseSurplusValue_48
  · replace hd := if_f c3 hd
    refine lv_aload_n hx hb dX2_refuseSurplusValue_14 rfl (lv_at hl 1 rfl) ?_
    refine lv_bipush (v := (-4)) hx hb dX2_refuseSurplusValue_15 (by decide) ?_
    refine lv_iload_n hx hb dX2_refuseSurplusValue_17 rfl (lv_at hl 0 rfl) ?_
    obtain ⟨r13, D14, h12, hd⟩ := bs_e hd
    refine cVi_ (rest := []) X (kX2_fail l Dd Y ad ar D (-4) (D.1 0 6) r13 D14 h12) (cwV 2 X.1.2.2.2.2 gX2_refuseSurplusValue_X2_fail rfl rfl rfl (by decide +kernel) ⟨Nat.le_of_ble_eq_true rfl, Nat.le_of_ble_eq_true rfl⟩) hW 0 2 rfl rfl rfl rfl hl.1 rfl (Nat.le_of_ble_eq_true rfl) dX2_refuseSurplusValue_18 ⟨Nat.zero_le _, Nat.zero_le _⟩ (fun H locs hW => ?_)
    obtain ⟨hz15, hd⟩ := rzt_e hd
    obtain ⟨rfl, rfl⟩ := Prod.mk.inj hd
    exact hQ _ _ _ _ (nz_b hz15) hW dX2_refuseSurplusValue_21
abbrev rmX2_readValues : Room := { frames := 4, cells := 0, slots := 0, locals := 90 }
set_option maxRecDepth 100000 in
set_option maxHeartbeats 4000000 in
theorem kX2_readValues (l : Launch) (Dd : va_G) (Y : yT) (ad ar : Nat → Nat) (D : gD) (r : Int32) (D' : gD) (hd : dnX2_readValues D = some (r, D')) : MG l yX2_readValues wsX2_readValues rmX2_readValues Dd Y [.ref (ad 0)] (WD Y ad ar D) (WD Y ad ar D') (some (.int r)) := by
  refine MGi (cc := cX2_readValues) (maxL := 2) (ty := .boolean) (by decide) rfl (Nat.le_of_ble_eq_true rfl) (fun {p e s m args below meth c A} ls Q X hW hl hQ => ?_)
  have hx := X.x
  have hb := X.b
  have hl : lv_has ls 2 [(0, .ref (ad 0))] := hl
  have hinX2 : ∀ w ∈ wsX20, w ∈ wsX2_readValues := fun w h => List.mem_cons_of_mem _ (List.mem_append_left _ (List.mem_append_right _ h))
  unfold dnX2_readValues at hd
  have K2 : ∀ (n : Nat) (x1 : Int32) (D : gD) (z : Nat × gD), lpX2_readValues_2 n x1 D = some z → ∀ (H : Heap) (locs : List Loc) (ls : Array Slot), Wd Dd A s.heap (WD Y ad ar D) H locs → lv_has ls 2 [(0, .ref (ad 0)), (1, .int x1)] → (∀ (H : Heap) (locs : List Loc) (ls : Array Slot), z.1 = 0 → Wd Dd A s.heap (WD Y ad ar z.2) H locs → lv_has ls 2 [] → W p l e rmX2_readValues s m args below meth c H locs 0 0 Q (F0 m 28 ls [])) → (∀ (H : Heap) (locs : List Loc) (ls : Array Slot), z.1 = 1 → Wd Dd A s.heap (WD Y ad ar z.2) H locs → lv_has ls 2 [(0, .ref (ad 0))] → W p l e rmX2_readValues s m args below meth c H locs 0 0 Q (F0 m 47 ls [])) → W p l e rmX2_readValues s m args below meth c H locs 0 0 Q (F0 m 2 ls []) := by
    intro n
    induction n with
    | zero => intro x1 D z hd; cases hd
    | succ n ih =>
      intro x1 D z hd H locs ls hW hl kx0 kx1
      unfold lpX2_readValues_2 at hd
      refine lv_iload_n hx hb dX2_readValues_2 rfl (lv_at hl 1 rfl) ?_
      refine lv_bipush (v := 40) hx hb dX2_readValues_3 (by decide) ?_
      refine lv_icmp_ge (tgt := 47) hx hb dX2_readValues_5 (by decide) (fun c1 => ?_) (fun c1 => ?_)
      · replace hd := if_t c1 hd
        cases hd
        exact kx1 _ _ _ rfl hW (lv_sub hl [0] rfl)
      · replace hd := if_f c1 hd
        refine lv_iload_n hx hb dX2_readValues_8 rfl (lv_at hl 1 rfl) ?_
        refine lv_if_eq (tgt := 21) hx hb dX2_readValues_9 (by decide) (fun c2 => ?_) (fun c2 => ?_)
        · replace hd := if_t c2 hd
          refine lv_aload_n hx hb dX2_readValues_21 rfl (lv_at hl 0 rfl) ?_
          obtain ⟨r4, D5, h3, hd⟩ := bs_e hd
          refine cVi_ (rest := []) X (kX2_readValue l Dd Y ad ar D r4 D5 h3) (cwV 0 X.1.2.2.2.2 gX2_readValues_X2_readValue rfl rfl rfl (by decide +kernel) ⟨Nat.le_of_ble_eq_true rfl, Nat.le_of_ble_eq_true rfl⟩) hW 0 2 rfl rfl rfl rfl hl.1 rfl (Nat.le_of_ble_eq_true rfl) dX2_readValues_22 ⟨Nat.zero_le _, Nat.zero_le _⟩ (fun H locs hW => ?_)
          refine lv_if_ne (tgt := 30) hx hb dX2_readValues_25 (by decide) (fun c6 => ?_) (fun c6 => ?_)
          · replace hd := if_f c6 hd
            refine lv_aload_n hx hb dX2_readValues_30 rfl (lv_at hl 0 rfl) ?_
            refine g_ X hinX2 hW 0 rfl rfl 2 (by decide) 1 rfl rfl rfl dX2_readValues_31 ?_
            refine lv_aload_n hx hb dX2_readValues_34 rfl (lv_at hl 0 rfl) ?_
            refine g_ X hinX2 hW 0 rfl rfl 7 (by decide) 2 rfl rfl rfl dX2_readValues_35 ?_
            obtain ⟨G8, h7, hd⟩ := bp_e hd
            refine cVpv_ (wc := (WR Y ar D5.2)) (w1 := (WR Y ar G8)) (ws' := (WD Y ad ar (D5.1, G8))) (rest := []) X (kX1_addAtEnd l Dd Y ar D5.2 (D5.1 0 7) G8 h7) (cwV 1 X.1.2.2.2.2 gX2_readValues_X1_addAtEnd rfl rfl rfl (by decide +kernel) ⟨Nat.le_of_ble_eq_true rfl, Nat.le_of_ble_eq_true rfl⟩) hW rfl rfl 0 1 rfl rfl rfl rfl hl.1 rfl (Nat.le_of_ble_eq_true rfl) dX2_readValues_38 ⟨Nat.zero_le _, Nat.zero_le _⟩ (fun H locs hW => ?_)
            refine lv_iinc (v := x1 + 1) (lv' := [(1, .int (x1 + 1)), (0, .ref (ad 0))]) hx hb dX2_readValues_41 hl (k := 1) rfl rfl (by decide) rfl (fun ls hl => ?_)
            refine lv_goto (tgt := 2) hx hb dX2_readValues_44 (by decide) ?_
            exact ih (x1 + 1) (D5.1, G8) z hd _ _ _ hW (lv_sub hl [1, 0] rfl) kx0 kx1
          · replace hd := if_t c6 hd
            cases hd
            exact kx0 _ _ _ rfl hW (lv_sub hl [] rfl)
        · replace hd := if_f c2 hd
          refine lv_aload_n hx hb dX2_readValues_12 rfl (lv_at hl 0 rfl) ?_
          refine lv_bipush (v := 59) hx hb dX2_readValues_13 (by decide) ?_
          obtain ⟨r10, h9, hd⟩ := bp_e hd
          refine cVi_ (rest := []) X (kX2_isNext l Dd Y ad ar D 59 r10 h9) (cwV 1 X.1.2.2.2.2 gX2_readValues_X2_isNext rfl rfl rfl (by decide +kernel) ⟨Nat.le_of_ble_eq_true rfl, Nat.le_of_ble_eq_true rfl⟩) hW 0 2 rfl rfl rfl rfl hl.1 rfl (Nat.le_of_ble_eq_true rfl) dX2_readValues_15 ⟨Nat.zero_le _, Nat.zero_le _⟩ (fun H locs hW => ?_)
          refine lv_if_ne (tgt := 47) hx hb dX2_readValues_18 (by decide) (fun c11 => ?_) (fun c11 => ?_)
          · replace hd := if_f c11 hd
            cases hd
            exact kx1 _ _ _ rfl hW (lv_sub hl [0] rfl)
          · replace hd := if_t c11 hd
            refine lv_aload_n hx hb dX2_readValues_21 rfl (lv_at hl 0 rfl) ?_
            obtain ⟨r13, D14, h12, hd⟩ := bs_e hd
            refine cVi_ (rest := []) X (kX2_readValue l Dd Y ad ar D r13 D14 h12) (cwV 0 X.1.2.2.2.2 gX2_readValues_X2_readValue rfl rfl rfl (by decide +kernel) ⟨Nat.le_of_ble_eq_true rfl, Nat.le_of_ble_eq_true rfl⟩) hW 0 2 rfl rfl rfl rfl hl.1 rfl (Nat.le_of_ble_eq_true rfl) dX2_readValues_22 ⟨Nat.zero_le _, Nat.zero_le _⟩ (fun H locs hW => ?_)
            refine lv_if_ne (tgt := 30) hx hb dX2_readValues_25 (by decide) (fun c15 => ?_) (fun c15 => ?_)
            · replace hd := if_f c15 hd
              refine lv_aload_n hx hb dX2_readValues_30 rfl (lv_at hl 0 rfl) ?_
              refine g_ X hinX2 hW 0 rfl rfl 2 (by decide) 1 rfl rfl rfl dX2_readValues_31 ?_
              refine lv_aload_n hx hb dX2_readValues_34 rfl (lv_at hl 0 rfl) ?_
              refine g_ X hinX2 hW 0 rfl rfl 7 (by decide) 2 rfl rfl rfl dX2_readValues_35 ?_
              obtain ⟨G17, h16, hd⟩ := bp_e hd
              refine cVpv_ (wc := (WR Y ar D14.2)) (w1 := (WR Y ar G17)) (ws' := (WD Y ad ar (D14.1, G17))) (rest := []) X (kX1_addAtEnd l Dd Y ar D14.2 (D14.1 0 7) G17 h16) (cwV 1 X.1.2.2.2.2 gX2_readValues_X1_addAtEnd rfl rfl rfl (by decide +kernel) ⟨Nat.le_of_ble_eq_true rfl, Nat.le_of_ble_eq_true rfl⟩) hW rfl rfl 0 1 rfl rfl rfl rfl hl.1 rfl (Nat.le_of_ble_eq_true rfl) dX2_readValues_38 ⟨Nat.zero_le _, Nat.zero_le _⟩ (fun H locs hW => ?_)
              refine lv_iinc (v := x1 + 1) (lv' := [(1, .int (x1 + 1)), (0, .ref (ad 0))]) hx hb dX2_readValues_41 hl (k := 1) rfl rfl (by decide) rfl (fun ls hl => ?_)
              refine lv_goto (tgt := 2) hx hb dX2_readValues_44 (by decide) ?_
              exact ih (x1 + 1) (D14.1, G17) z hd _ _ _ hW (lv_sub hl [1, 0] rfl) kx0 kx1
            · replace hd := if_t c15 hd
              cases hd
              exact kx0 _ _ _ rfl hW (lv_sub hl [] rfl)
  refine lv_iconst (v := 0) hx hb dX2_readValues_0 (by decide) ?_
  refine lv_istore_n (lv' := [(1, .int 0), (0, .ref (ad 0))]) hx hb dX2_readValues_1 rfl hl (by decide) rfl (fun ls hl => ?_)
  obtain ⟨z2_17, hz2_17, hd⟩ := bp_e hd
  refine K2 FU 0 D z2_17 hz2_17 _ _ _ hW (lv_sub hl [1, 0] rfl) (fun H locs ls e2 hW hl => ?_) (fun H locs ls e2 hW hl => ?_)
  · replace hd := if_t e2 (hd)
    refine lv_iconst (v := 0) hx hb dX2_readValues_28 (by decide) ?_
    obtain ⟨rfl, rfl⟩ := Prod.mk.inj (Option.some.inj hd)
    exact hQ _ _ _ _ (nz_b (Or.inl rfl)) hW dX2_readValues_29
  · replace hd := if_f (by rw [e2]; decide) hd
    refine lv_aload_n hx hb dX2_readValues_47 rfl (lv_at hl 0 rfl) ?_
    refine lv_bipush (v := 59) hx hb dX2_readValues_48 (by decide) ?_
    obtain ⟨r20, D21, h19, hd⟩ := bs_e hd
    refine cVi_ (rest := []) X (kX2_hasSign l Dd Y ad ar z2_17.2 59 r20 D21 h19) (cwV 1 X.1.2.2.2.2 gX2_readValues_X2_hasSign rfl rfl rfl (by decide +kernel) ⟨Nat.le_of_ble_eq_true rfl, Nat.le_of_ble_eq_true rfl⟩) hW 0 2 rfl rfl rfl rfl hl.1 rfl (Nat.le_of_ble_eq_true rfl) dX2_readValues_50 ⟨Nat.zero_le _, Nat.zero_le _⟩ (fun H locs hW => ?_)
    refine lv_if_ne (tgt := 61) hx hb dX2_readValues_53 (by decide) (fun c22 => ?_) (fun c22 => ?_)
    · replace hd := if_f c22 hd
      refine lv_aload_n hx hb dX2_readValues_61 rfl (lv_at hl 0 rfl) ?_
      refine g_ X hinX2 hW 0 rfl rfl 2 (by decide) 1 rfl rfl rfl dX2_readValues_62 ?_
      obtain ⟨G24, h23, hd⟩ := bp_e hd
      refine cVpv_ (wc := (WR Y ar D21.2)) (w1 := (WR Y ar G24)) (ws' := (WD Y ad ar (D21.1, G24))) (rest := []) X (kX1_buildAll l Dd Y ar D21.2 G24 h23) (cwV 0 X.1.2.2.2.2 gX2_readValues_X1_buildAll rfl rfl rfl (by decide +kernel) ⟨Nat.le_of_ble_eq_true rfl, Nat.le_of_ble_eq_true rfl⟩) hW rfl rfl 0 1 rfl rfl rfl rfl hl.1 rfl (Nat.le_of_ble_eq_true rfl) dX2_readValues_65 ⟨Nat.zero_le _, Nat.zero_le _⟩ (fun H locs hW => ?_)
      refine lv_iconst (v := 1) hx hb dX2_readValues_68 (by decide) ?_
      obtain ⟨rfl, rfl⟩ := Prod.mk.inj (Option.some.inj hd)
      exact hQ _ _ _ _ (nz_b (Or.inr rfl)) hW dX2_readValues_69
    · replace hd := if_t c22 hd
      refine lv_aload_n hx hb dX2_readValues_56 rfl (lv_at hl 0 rfl) ?_
      obtain ⟨r26, D27, h25, hd⟩ := bs_e hd
      refine cVi_ (rest := []) X (kX2_refuseSurplusValue l Dd Y ad ar D21 r26 D27 h25) (cwV 0 X.1.2.2.2.2 gX2_readValues_X2_refuseSurplusValue rfl rfl rfl (by decide +kernel) ⟨Nat.le_of_ble_eq_true rfl, Nat.le_of_ble_eq_true rfl⟩) hW 0 2 rfl rfl rfl rfl hl.1 rfl (Nat.le_of_ble_eq_true rfl) dX2_readValues_57 ⟨Nat.zero_le _, Nat.zero_le _⟩ (fun H locs hW => ?_)
      obtain ⟨hz28, hd⟩ := rzt_e hd
      obtain ⟨rfl, rfl⟩ := Prod.mk.inj hd
      exact hQ _ _ _ _ (nz_b hz28) hW dX2_readValues_60
abbrev rmX2_read : Room := { frames := 6, cells := 0, slots := 0, locals := 134 }
set_option maxRecDepth 100000 in
set_option maxHeartbeats 4000000 in
theorem kX2_read (l : Launch) (Dd : va_G) (Y : yT) (ad ar : Nat → Nat) (D : gD) (x1 : Int32) (r : Int32) (D' : gD) (hd : dnX2_read D x1 = some (r, D')) : MG l yX2_read wsX2_read rmX2_read Dd Y [.ref (ad 0), .int x1] (WD Y ad ar D) (WD Y ad ar D') (some (.int r)) := by
  refine MGi (cc := cX2_read) (maxL := 4) (ty := .int) (by decide) rfl (Nat.le_of_ble_eq_true rfl) (fun {p e s m args below meth c A} ls Q X hW hl hQ => ?_)
  have hx := X.x
  have hb := X.b
  have hl : lv_has ls 4 [(0, .ref (ad 0)), (1, .int x1)] := hl
  have hinX1 : ∀ w ∈ wsX10, w ∈ wsX2_read := fun w h => List.mem_cons_of_mem _ (List.mem_append_left _ (List.mem_append_left _ (List.mem_append_right _ h)))
  have hinX2 : ∀ w ∈ wsX20, w ∈ wsX2_read := fun w h => List.mem_cons_of_mem _ (List.mem_append_left _ (List.mem_append_left _ (List.mem_append_left _ (List.mem_append_right _ h))))
  unfold dnX2_read at hd
  have K41 : ∀ (n : Nat) (x2 : Int32) (D : gD) (z : Nat × gD), lpX2_read_41 n x2 D = some z → ∀ (H : Heap) (locs : List Loc) (ls : Array Slot), Wd Dd A s.heap (WD Y ad ar D) H locs → lv_has ls 4 [(0, .ref (ad 0)), (2, .int x2)] → (∀ (H : Heap) (locs : List Loc) (ls : Array Slot), z.1 = 0 → Wd Dd A s.heap (WD Y ad ar z.2) H locs → lv_has ls 4 [(0, .ref (ad 0))] → W p l e rmX2_read s m args below meth c H locs 0 0 Q (F0 m 81 ls [])) → (∀ (H : Heap) (locs : List Loc) (ls : Array Slot), z.1 = 1 → Wd Dd A s.heap (WD Y ad ar z.2) H locs → lv_has ls 4 [(0, .ref (ad 0))] → W p l e rmX2_read s m args below meth c H locs 0 0 Q (F0 m 97 ls [])) → W p l e rmX2_read s m args below meth c H locs 0 0 Q (F0 m 41 ls []) := by
    intro n
    induction n with
    | zero => intro x2 D z hd; cases hd
    | succ n ih =>
      intro x2 D z hd H locs ls hW hl kx0 kx1
      unfold lpX2_read_41 at hd
      refine lv_iload_n hx hb dX2_read_41 rfl (lv_at hl 1 rfl) ?_
      refine lv_sipush (v := 500) hx hb dX2_read_42 (by decide) ?_
      refine lv_icmp_ge (tgt := 97) hx hb dX2_read_45 (by decide) (fun c1 => ?_) (fun c1 => ?_)
      · replace hd := if_t c1 hd
        cases hd
        exact kx1 _ _ _ rfl hW (lv_sub hl [0] rfl)
      · replace hd := if_f c1 hd
        refine lv_aload_n hx hb dX2_read_48 rfl (lv_at hl 0 rfl) ?_
        refine g_ X hinX2 hW 0 rfl rfl 6 (by decide) 4 rfl rfl rfl dX2_read_49 ?_
        refine lv_aload_n hx hb dX2_read_52 rfl (lv_at hl 0 rfl) ?_
        refine g_ X hinX2 hW 0 rfl rfl 5 (by decide) 1 rfl rfl rfl dX2_read_53 ?_
        refine lv_icmp_ge (tgt := 97) hx hb dX2_read_56 (by decide) (fun c2 => ?_) (fun c2 => ?_)
        · replace hd := if_t c2 hd
          cases hd
          exact kx1 _ _ _ rfl hW (lv_sub hl [0] rfl)
        · replace hd := if_f c2 hd
          refine lv_aload_n hx hb dX2_read_59 rfl (lv_at hl 0 rfl) ?_
          obtain ⟨r4, D5, h3, hd⟩ := bs_e hd
          refine cVi_ (rest := []) X (kX2_readKind l Dd Y ad ar D r4 D5 h3) (cwV 0 X.1.2.2.2.2 gX2_read_X2_readKind rfl rfl rfl (by decide +kernel) ⟨Nat.le_of_ble_eq_true rfl, Nat.le_of_ble_eq_true rfl⟩) hW 0 2 rfl rfl rfl rfl hl.1 rfl (Nat.le_of_ble_eq_true rfl) dX2_read_60 ⟨Nat.zero_le _, Nat.zero_le _⟩ (fun H locs hW => ?_)
          refine lv_istore_n (lv' := [(3, .int r4), (0, .ref (ad 0)), (2, .int x2)]) hx hb dX2_read_63 rfl hl (by decide) rfl (fun ls hl => ?_)
          refine lv_aload_n hx hb dX2_read_64 rfl (lv_at hl 1 rfl) ?_
          refine lv_iload_n hx hb dX2_read_65 rfl (lv_at hl 0 rfl) ?_
          obtain ⟨r7, D8, h6, hd⟩ := bs_e hd
          refine cVi_ (rest := []) X (kX2_readArguments l Dd Y ad ar D5 r4 r7 D8 h6) (cwV 1 X.1.2.2.2.2 gX2_read_X2_readArguments rfl rfl rfl (by decide +kernel) ⟨Nat.le_of_ble_eq_true rfl, Nat.le_of_ble_eq_true rfl⟩) hW 0 2 rfl rfl rfl rfl hl.1 rfl (Nat.le_of_ble_eq_true rfl) dX2_read_66 ⟨Nat.zero_le _, Nat.zero_le _⟩ (fun H locs hW => ?_)
          refine lv_if_eq (tgt := 81) hx hb dX2_read_69 (by decide) (fun c9 => ?_) (fun c9 => ?_)
          · replace hd := if_t c9 hd
            cases hd
            exact kx0 _ _ _ rfl hW (lv_sub hl [1] rfl)
          · replace hd := if_f c9 hd
            refine lv_aload_n hx hb dX2_read_72 rfl (lv_at hl 1 rfl) ?_
            refine lv_bipush (v := 59) hx hb dX2_read_73 (by decide) ?_
            obtain ⟨r11, D12, h10, hd⟩ := bs_e hd
            refine cVi_ (rest := []) X (kX2_readSign l Dd Y ad ar D8 59 r11 D12 h10) (cwV 1 X.1.2.2.2.2 gX2_read_X2_readSign rfl rfl rfl (by decide +kernel) ⟨Nat.le_of_ble_eq_true rfl, Nat.le_of_ble_eq_true rfl⟩) hW 0 2 rfl rfl rfl rfl hl.1 rfl (Nat.le_of_ble_eq_true rfl) dX2_read_75 ⟨Nat.zero_le _, Nat.zero_le _⟩ (fun H locs hW => ?_)
            refine lv_if_ne (tgt := 86) hx hb dX2_read_78 (by decide) (fun c13 => ?_) (fun c13 => ?_)
            · replace hd := if_f c13 hd
              refine lv_aload_n hx hb dX2_read_86 rfl (lv_at hl 1 rfl) ?_
              refine lv_iload_n hx hb dX2_read_87 rfl (lv_at hl 0 rfl) ?_
              obtain ⟨D15, h14, hd⟩ := bp_e hd
              refine cVv_ (rest := []) X (kX2_carryOut l Dd Y ad ar D12 r4 D15 h14) (cwV 1 X.1.2.2.2.2 gX2_read_X2_carryOut rfl rfl rfl (by decide +kernel) ⟨Nat.le_of_ble_eq_true rfl, Nat.le_of_ble_eq_true rfl⟩) hW 0 2 rfl rfl rfl rfl hl.1 rfl (Nat.le_of_ble_eq_true rfl) dX2_read_88 ⟨Nat.zero_le _, Nat.zero_le _⟩ (fun H locs hW => ?_)
              refine lv_iinc (v := x2 + 1) (lv' := [(2, .int (x2 + 1)), (3, .int r4), (0, .ref (ad 0))]) hx hb dX2_read_91 hl (k := 2) rfl rfl (by decide) rfl (fun ls hl => ?_)
              refine lv_goto (tgt := 41) hx hb dX2_read_94 (by decide) ?_
              exact ih (x2 + 1) D15 z hd _ _ _ hW (lv_sub hl [2, 0] rfl) kx0 kx1
            · replace hd := if_t c13 hd
              cases hd
              exact kx0 _ _ _ rfl hW (lv_sub hl [1] rfl)
  refine lv_aload_n hx hb dX2_read_0 rfl (lv_at hl 0 rfl) ?_
  refine lv_iload_n hx hb dX2_read_1 rfl (lv_at hl 1 rfl) ?_
  obtain ⟨F16, eF16, hd⟩ := bw_e hd
  refine p_ (ty := .int) X hinX2 tyX2 tyX2_ok nmX2 hW 0 rfl rfl 5 (by decide) 1 rfl rfl rfl (by decide +kernel) rfl rfl (Nat.le_of_ble_eq_true rfl) dX2_read_2 (ws' := (WD Y ad ar (F16, D.2))) (by rw [eF16]; rfl) (fun H locs hW => ?_)
  refine lv_aload_n hx hb dX2_read_5 rfl (lv_at hl 0 rfl) ?_
  refine lv_iconst (v := 0) hx hb dX2_read_6 (by decide) ?_
  obtain ⟨F17, eF17, hd⟩ := bw_e hd
  refine p_ (ty := .int) X hinX2 tyX2 tyX2_ok nmX2 hW 0 rfl rfl 3 (by decide) 2 rfl rfl rfl (by decide +kernel) rfl rfl (Nat.le_of_ble_eq_true rfl) dX2_read_7 (ws' := (WD Y ad ar (F17, D.2))) (by rw [eF17]; rfl) (fun H locs hW => ?_)
  refine lv_aload_n hx hb dX2_read_10 rfl (lv_at hl 0 rfl) ?_
  refine lv_iconst (v := (-1)) hx hb dX2_read_11 (by decide) ?_
  obtain ⟨F18, eF18, hd⟩ := bw_e hd
  refine p_ (ty := .int) X hinX2 tyX2 tyX2_ok nmX2 hW 0 rfl rfl 4 (by decide) 3 rfl rfl rfl (by decide +kernel) rfl rfl (Nat.le_of_ble_eq_true rfl) dX2_read_12 (ws' := (WD Y ad ar (F18, D.2))) (by rw [eF18]; rfl) (fun H locs hW => ?_)
  refine lv_aload_n hx hb dX2_read_15 rfl (lv_at hl 0 rfl) ?_
  refine lv_iconst (v := 0) hx hb dX2_read_16 (by decide) ?_
  obtain ⟨D20, h19, hd⟩ := bp_e hd
  refine cVv_ (rest := []) X (kX2_goTo l Dd Y ad ar (F18, D.2) 0 D20 h19) (cwV 1 X.1.2.2.2.2 gX2_read_X2_goTo rfl rfl rfl (by decide +kernel) ⟨Nat.le_of_ble_eq_true rfl, Nat.le_of_ble_eq_true rfl⟩) hW 0 2 rfl rfl rfl rfl hl.1 rfl (Nat.le_of_ble_eq_true rfl) dX2_read_17 ⟨Nat.zero_le _, Nat.zero_le _⟩ (fun H locs hW => ?_)
  refine lv_aload_n hx hb dX2_read_20 rfl (lv_at hl 0 rfl) ?_
  obtain ⟨r22, D23, h21, hd⟩ := bs_e hd
  refine cVi_ (rest := []) X (kX2_readRule l Dd Y ad ar D20 r22 D23 h21) (cwV 0 X.1.2.2.2.2 gX2_read_X2_readRule rfl rfl rfl (by decide +kernel) ⟨Nat.le_of_ble_eq_true rfl, Nat.le_of_ble_eq_true rfl⟩) hW 0 2 rfl rfl rfl rfl hl.1 rfl (Nat.le_of_ble_eq_true rfl) dX2_read_21 ⟨Nat.zero_le _, Nat.zero_le _⟩ (fun H locs hW => ?_)
  refine lv_if_eq (tgt := 34) hx hb dX2_read_24 (by decide) (fun c24 => ?_) (fun c24 => ?_)
  · replace hd := if_t c24 hd
    refine lv_aload_n hx hb dX2_read_34 rfl (lv_at hl 0 rfl) ?_
    refine g_ X hinX2 hW 0 rfl rfl 3 (by decide) 2 rfl rfl rfl dX2_read_35 ?_
    obtain ⟨rfl, rfl⟩ := Prod.mk.inj (Option.some.inj hd)
    exact hQ _ _ _ _ rfl hW dX2_read_38
  · replace hd := if_f c24 hd
    refine lv_aload_n hx hb dX2_read_27 rfl (lv_at hl 0 rfl) ?_
    obtain ⟨r26, D27, h25, hd⟩ := bs_e hd
    refine cVi_ (rest := []) X (kX2_readValues l Dd Y ad ar D23 r26 D27 h25) (cwV 0 X.1.2.2.2.2 gX2_read_X2_readValues rfl rfl rfl (by decide +kernel) ⟨Nat.le_of_ble_eq_true rfl, Nat.le_of_ble_eq_true rfl⟩) hW 0 2 rfl rfl rfl rfl hl.1 rfl (Nat.le_of_ble_eq_true rfl) dX2_read_28 ⟨Nat.zero_le _, Nat.zero_le _⟩ (fun H locs hW => ?_)
    refine lv_if_ne (tgt := 39) hx hb dX2_read_31 (by decide) (fun c28 => ?_) (fun c28 => ?_)
    · replace hd := if_f c28 hd
      refine lv_iconst (v := 0) hx hb dX2_read_39 (by decide) ?_
      refine lv_istore_n (lv' := [(2, .int 0), (0, .ref (ad 0)), (1, .int x1)]) hx hb dX2_read_40 rfl hl (by decide) rfl (fun ls hl => ?_)
      obtain ⟨z41_28, hz41_28, hd⟩ := bp_e hd
      refine K41 FU 0 D27 z41_28 hz41_28 _ _ _ hW (lv_sub hl [1, 0] rfl) (fun H locs ls e41 hW hl => ?_) (fun H locs ls e41 hW hl => ?_)
      · replace hd := if_t e41 (hd)
        refine lv_aload_n hx hb dX2_read_81 rfl (lv_at hl 0 rfl) ?_
        refine g_ X hinX2 hW 0 rfl rfl 3 (by decide) 2 rfl rfl rfl dX2_read_82 ?_
        obtain ⟨rfl, rfl⟩ := Prod.mk.inj (Option.some.inj hd)
        exact hQ _ _ _ _ rfl hW dX2_read_85
      · replace hd := if_f (by rw [e41]; decide) hd
        refine lv_aload_n hx hb dX2_read_97 rfl (lv_at hl 0 rfl) ?_
        refine g_ X hinX2 hW 0 rfl rfl 2 (by decide) 5 rfl rfl rfl dX2_read_98 ?_
        refine g_ X hinX1 hW 2 rfl rfl 3 (by decide) 6 rfl rfl rfl dX2_read_101 ?_
        obtain ⟨rfl, rfl⟩ := Prod.mk.inj (Option.some.inj hd)
        exact hQ _ _ _ _ rfl hW dX2_read_104
    · replace hd := if_t c28 hd
      refine lv_aload_n hx hb dX2_read_34 rfl (lv_at hl 0 rfl) ?_
      refine g_ X hinX2 hW 0 rfl rfl 3 (by decide) 2 rfl rfl rfl dX2_read_35 ?_
      obtain ⟨rfl, rfl⟩ := Prod.mk.inj (Option.some.inj hd)
      exact hQ _ _ _ _ rfl hW dX2_read_38
