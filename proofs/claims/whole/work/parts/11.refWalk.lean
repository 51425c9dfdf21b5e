abbrev rmX5_get : Room := { frames := 0, cells := 0, slots := 0, locals := 0 }
set_option maxRecDepth 100000 in
set_option maxHeartbeats 4000000 in
theorem kX5_get (l : Launch) (Dd : va_G) (Y : yT) (ad : Nat → Nat) (F : gF) (x1 : Int32) (r : Int32) (hd : dnX5_get F x1 = some r) : MG l yX5_get wsX5_get rmX5_get Dd Y [.ref (ad 0), .int x1] (WM Y ad F) (WM Y ad F) (some (.int r)) := by
  refine MGi (cc := cX5_get) (maxL := 2) (ty := .int) (by decide) rfl (Nat.le_of_ble_eq_true rfl) (fun {p e s m args below meth c A} ls Q X hW hl hQ => ?_)
  have hx := X.x
  have hb := X.b
  have hl : lv_has ls 2 [(0, .ref (ad 0)), (1, .int x1)] := hl
  have hinX5 : ∀ w ∈ wsX50, w ∈ wsX5_get := fun w h => List.mem_cons_of_mem _ (List.mem_append_right _ h)
  unfold dnX5_get at hd
  refine lv_aload_n hx hb dX5_get_0 rfl (lv_at hl 0 rfl) ?_
  refine g_ X hinX5 hW 0 rfl rfl 1 (by decide) 1 rfl rfl rfl dX5_get_1 ?_
  refine lv_sipush (v := 310) hx hb dX5_get_4 (by decide) ?_
  refine lv_aload_n hx hb dX5_get_7 rfl (lv_at hl 0 rfl) ?_
  refine g_ X hinX5 hW 0 rfl rfl 4 (by decide) 2 rfl rfl rfl dX5_get_8 ?_
  refine lv_imul hx hb dX5_get_11 ?_
  refine lv_iload_n hx hb dX5_get_12 rfl (lv_at hl 1 rfl) ?_
  refine lv_iadd hx hb dX5_get_13 ?_
  obtain ⟨hi1, hd⟩ := ra_e hd
  refine a_ X hW 1 rfl rfl hi1 dX5_get_14 ?_
  generalize (F 1) ((310 * (F 0 4)) + x1).toNatClampNeg = v2 at hd ⊢
  have hd := Option.some.inj hd
  subst hd
  exact hQ _ _ _ _ rfl hW dX5_get_15
abbrev rmX5_put0 : Room := { frames := 0, cells := 0, slots := 0, locals := 0 }
set_option maxRecDepth 100000 in
set_option maxHeartbeats 4000000 in
theorem kX5_put0 (l : Launch) (Dd : va_G) (Y : yT) (ad : Nat → Nat) (F : gF) (x1 : Int32) (x2 : Int32) (F' : gF) (hd : dnX5_put0 F x1 x2 = some F') : MG l yX5_put0 wsX5_put0 rmX5_put0 Dd Y [.ref (ad 0), .int x1, .int x2] (WM Y ad F) (WM Y ad F') none := by
  refine MGv (cc := cX5_put0) (maxL := 3) (by decide) rfl (Nat.le_of_ble_eq_true rfl) (fun {p e s m args below meth c A} ls Q X hW hl hQ => ?_)
  have hx := X.x
  have hb := X.b
  have hl : lv_has ls 3 [(0, .ref (ad 0)), (1, .int x1), (2, .int x2)] := hl
  have hinX5 : ∀ w ∈ wsX50, w ∈ wsX5_put0 := fun w h => List.mem_cons_of_mem _ (List.mem_append_right _ h)
  unfold dnX5_put0 at hd
  refine lv_aload_n hx hb dX5_put0_0 rfl (lv_at hl 0 rfl) ?_
  refine g_ X hinX5 hW 0 rfl rfl 1 (by decide) 1 rfl rfl rfl dX5_put0_1 ?_
  refine lv_sipush (v := 310) hx hb dX5_put0_4 (by decide) ?_
  refine lv_aload_n hx hb dX5_put0_7 rfl (lv_at hl 0 rfl) ?_
  refine g_ X hinX5 hW 0 rfl rfl 4 (by decide) 2 rfl rfl rfl dX5_put0_8 ?_
  refine lv_imul hx hb dX5_put0_11 ?_
  refine lv_iload_n hx hb dX5_put0_12 rfl (lv_at hl 1 rfl) ?_
  refine lv_iadd hx hb dX5_put0_13 ?_
  refine lv_iload_n hx hb dX5_put0_14 rfl (lv_at hl 2 rfl) ?_
  obtain ⟨hi1, hd⟩ := wi_e hd
  obtain ⟨F2, eF2, hd⟩ := bw_e hd
  refine s_ X hW 1 rfl rfl hi1 dX5_put0_15 (ws' := (WM Y ad F2)) (by rw [eF2]; rfl) (fun H locs hW => ?_)
  obtain rfl := Option.some.inj hd
  exact hQ _ _ _ _ hW dX5_put0_16
abbrev rmX5_adds : Room := { frames := 1, cells := 0, slots := 0, locals := 22 }
set_option maxRecDepth 100000 in
set_option maxHeartbeats 4000000 in
theorem kX5_adds (l : Launch) (Dd : va_G) (Y : yT) (ad : Nat → Nat) (F : gF) (x1 : Int32) (x2 : Int32) (F' : gF) (hd : dnX5_adds F x1 x2 = some F') : MG l yX5_adds wsX5_adds rmX5_adds Dd Y [.ref (ad 0), .int x1, .int x2] (WM Y ad F) (WM Y ad F') none := by
  refine MGv (cc := cX5_adds) (maxL := 3) (by decide) rfl (Nat.le_of_ble_eq_true rfl) (fun {p e s m args below meth c A} ls Q X hW hl hQ => ?_)
  have hx := X.x
  have hb := X.b
  have hl : lv_has ls 3 [(0, .ref (ad 0)), (1, .int x1), (2, .int x2)] := hl
  unfold dnX5_adds at hd
  refine lv_aload_n hx hb dX5_adds_0 rfl (lv_at hl 0 rfl) ?_
  refine lv_iload_n hx hb dX5_adds_1 rfl (lv_at hl 1 rfl) ?_
  refine lv_aload_n hx hb dX5_adds_2 rfl (lv_at hl 0 rfl) ?_
  refine lv_iload_n hx hb dX5_adds_3 rfl (lv_at hl 1 rfl) ?_
  obtain ⟨r2, h1, hd⟩ := bp_e hd
  refine cVi_ (rest := [.int x1, .ref (ad 0)]) X (kX5_get l Dd Y ad F x1 r2 h1) (cwV 1 X.1.2.2.2.2 gX5_adds_X5_get rfl rfl rfl (by decide +kernel) ⟨Nat.le_of_ble_eq_true rfl, Nat.le_of_ble_eq_true rfl⟩) hW 0 5 rfl rfl rfl rfl hl.1 rfl (Nat.le_of_ble_eq_true rfl) dX5_adds_4 ⟨Nat.zero_le _, Nat.zero_le _⟩ (fun H locs hW => ?_)
  refine lv_iload_n hx hb dX5_adds_7 rfl (lv_at hl 2 rfl) ?_
  refine lv_iadd hx hb dX5_adds_8 ?_
  obtain ⟨F4, h3, hd⟩ := bp_e hd
  refine cVv_ (rest := []) X (kX5_put0 l Dd Y ad F x1 (r2 + x2) F4 h3) (cwV 2 X.1.2.2.2.2 gX5_adds_X5_put0 rfl rfl rfl (by decide +kernel) ⟨Nat.le_of_ble_eq_true rfl, Nat.le_of_ble_eq_true rfl⟩) hW 0 5 rfl rfl rfl rfl hl.1 rfl (Nat.le_of_ble_eq_true rfl) dX5_adds_9 ⟨Nat.zero_le _, Nat.zero_le _⟩ (fun H locs hW => ?_)
  obtain rfl := Option.some.inj hd
  exact hQ _ _ _ _ hW dX5_adds_12
abbrev rmX5_size : Room := { frames := 1, cells := 0, slots := 0, locals := 21 }
set_option maxRecDepth 100000 in
set_option maxHeartbeats 4000000 in
theorem kX5_size (l : Launch) (Dd : va_G) (Y : yT) (ad : Nat → Nat) (F : gF) (r : Int32) (hd : dnX5_size F = some r) : MG l yX5_size wsX5_size rmX5_size Dd Y [.ref (ad 0)] (WM Y ad F) (WM Y ad F) (some (.int r)) := by
  refine MGi (cc := cX5_size) (maxL := 1) (ty := .int) (by decide) rfl (Nat.le_of_ble_eq_true rfl) (fun {p e s m args below meth c A} ls Q X hW hl hQ => ?_)
  have hx := X.x
  have hb := X.b
  have hl : lv_has ls 1 [(0, .ref (ad 0))] := hl
  unfold dnX5_size at hd
  refine lv_aload_n hx hb dX5_size_0 rfl (lv_at hl 0 rfl) ?_
  refine lv_iconst (v := 0) hx hb dX5_size_1 (by decide) ?_
  obtain ⟨r2, h1, hd⟩ := bp_e hd
  refine cVi_ (rest := []) X (kX5_get l Dd Y ad F 0 r2 h1) (cwV 1 X.1.2.2.2.2 gX5_size_X5_get rfl rfl rfl (by decide +kernel) ⟨Nat.le_of_ble_eq_true rfl, Nat.le_of_ble_eq_true rfl⟩) hW 0 5 rfl rfl rfl rfl hl.1 rfl (Nat.le_of_ble_eq_true rfl) dX5_size_2 ⟨Nat.zero_le _, Nat.zero_le _⟩ (fun H locs hW => ?_)
  have hd := Option.some.inj hd
  subst hd
  exact hQ _ _ _ _ rfl hW dX5_size_5
abbrev rmX5_cellsOn : Room := { frames := 2, cells := 0, slots := 0, locals := 41 }
set_option maxRecDepth 100000 in
set_option maxHeartbeats 4000000 in
theorem kX5_cellsOn (l : Launch) (Dd : va_G) (Y : yT) (ad : Nat → Nat) (F : gF) (x1 : Int32) (r : Int32) (hd : dnX5_cellsOn F x1 = some r) : MG l yX5_cellsOn wsX5_cellsOn rmX5_cellsOn Dd Y [.ref (ad 0), .int x1] (WM Y ad F) (WM Y ad F) (some (.int r)) := by
  refine MGi (cc := cX5_cellsOn) (maxL := 2) (ty := .int) (by decide) rfl (Nat.le_of_ble_eq_true rfl) (fun {p e s m args below meth c A} ls Q X hW hl hQ => ?_)
  have hx := X.x
  have hb := X.b
  have hl : lv_has ls 2 [(0, .ref (ad 0)), (1, .int x1)] := hl
  unfold dnX5_cellsOn at hd
  refine lv_iconst (v := 0) hx hb dX5_cellsOn_0 (by decide) ?_
  refine lv_aload_n hx hb dX5_cellsOn_1 rfl (lv_at hl 0 rfl) ?_
  obtain ⟨r2, h1, hd⟩ := bp_e hd
  refine cVi_ (rest := [.int 0]) X (kX5_size l Dd Y ad F r2 h1) (cwV 0 X.1.2.2.2.2 gX5_cellsOn_X5_size rfl rfl rfl (by decide +kernel) ⟨Nat.le_of_ble_eq_true rfl, Nat.le_of_ble_eq_true rfl⟩) hW 0 5 rfl rfl rfl rfl hl.1 rfl (Nat.le_of_ble_eq_true rfl) dX5_cellsOn_2 ⟨Nat.zero_le _, Nat.zero_le _⟩ (fun H locs hW => ?_)
  refine lv_iconst (v := 1) hx hb dX5_cellsOn_5 (by decide) ?_
  refine lv_iload_n hx hb dX5_cellsOn_6 rfl (lv_at hl 1 rfl) ?_
  refine lv_ishl hx hb dX5_cellsOn_7 ?_
  refine lv_isub hx hb dX5_cellsOn_8 ?_
  refine lv_iconst (v := 1) hx hb dX5_cellsOn_9 (by decide) ?_
  refine lv_iadd hx hb dX5_cellsOn_10 ?_
  refine max_ X hl.1 1 2 3 4 rfl rfl rfl rfl ⟨Nat.le_of_ble_eq_true rfl, Nat.le_of_ble_eq_true rfl⟩ (Nat.le_of_ble_eq_true rfl) ⟨Nat.zero_le _, Nat.zero_le _⟩ dX5_cellsOn_11 ?_
  have hd := Option.some.inj hd
  subst hd
  exact hQ _ _ _ _ rfl hW dX5_cellsOn_14
abbrev rmX5_cellAt : Room := { frames := 0, cells := 0, slots := 0, locals := 0 }
set_option maxRecDepth 100000 in
set_option maxHeartbeats 4000000 in
theorem kX5_cellAt (l : Launch) (Dd : va_G) (Y : yT) (x0 : Int32) (x1 : Int32) (r : Int32) (hd : dnX5_cellAt x0 x1 = some r) : MG l yX5_cellAt wsX5_cellAt rmX5_cellAt Dd Y [.int x0, .int x1] [] [] (some (.int r)) := by
  refine MGi (cc := cX5_cellAt) (maxL := 2) (ty := .int) (by decide) rfl (Nat.le_of_ble_eq_true rfl) (fun {p e s m args below meth c A} ls Q X hW hl hQ => ?_)
  have hx := X.x
  have hb := X.b
  have hl : lv_has ls 2 [(0, .int x0), (1, .int x1)] := hl
  unfold dnX5_cellAt at hd
  refine lv_bipush (v := 92) hx hb dX5_cellAt_0 (by decide) ?_
  refine lv_bipush (v := 40) hx hb dX5_cellAt_2 (by decide) ?_
  refine lv_iload_n hx hb dX5_cellAt_4 rfl (lv_at hl 0 rfl) ?_
  refine lv_iconst (v := 1) hx hb dX5_cellAt_5 (by decide) ?_
  refine lv_isub hx hb dX5_cellAt_6 ?_
  refine lv_imul hx hb dX5_cellAt_7 ?_
  refine lv_iadd hx hb dX5_cellAt_8 ?_
  refine lv_iload_n hx hb dX5_cellAt_9 rfl (lv_at hl 1 rfl) ?_
  refine lv_iadd hx hb dX5_cellAt_10 ?_
  have hd := Option.some.inj hd
  subst hd
  exact hQ _ _ _ _ rfl hW dX5_cellAt_11
abbrev rmX5_valueAt : Room := { frames := 1, cells := 0, slots := 0, locals := 21 }
set_option maxRecDepth 100000 in
set_option maxHeartbeats 4000000 in
theorem kX5_valueAt (l : Launch) (Dd : va_G) (Y : yT) (ad : Nat → Nat) (F : gF) (x1 : Int32) (r : Int32) (hd : dnX5_valueAt F x1 = some r) : MG l yX5_valueAt wsX5_valueAt rmX5_valueAt Dd Y [.ref (ad 0), .int x1] (WM Y ad F) (WM Y ad F) (some (.int r)) := by
  refine MGi (cc := cX5_valueAt) (maxL := 2) (ty := .int) (by decide) rfl (Nat.le_of_ble_eq_true rfl) (fun {p e s m args below meth c A} ls Q X hW hl hQ => ?_)
  have hx := X.x
  have hb := X.b
  have hl : lv_has ls 2 [(0, .ref (ad 0)), (1, .int x1)] := hl
  unfold dnX5_valueAt at hd
  refine lv_aload_n hx hb dX5_valueAt_0 rfl (lv_at hl 0 rfl) ?_
  refine lv_bipush (v := 12) hx hb dX5_valueAt_1 (by decide) ?_
  refine lv_iload_n hx hb dX5_valueAt_3 rfl (lv_at hl 1 rfl) ?_
  refine lv_iadd hx hb dX5_valueAt_4 ?_
  obtain ⟨r2, h1, hd⟩ := bp_e hd
  refine cVi_ (rest := []) X (kX5_get l Dd Y ad F (12 + x1) r2 h1) (cwV 1 X.1.2.2.2.2 gX5_valueAt_X5_get rfl rfl rfl (by decide +kernel) ⟨Nat.le_of_ble_eq_true rfl, Nat.le_of_ble_eq_true rfl⟩) hW 0 5 rfl rfl rfl rfl hl.1 rfl (Nat.le_of_ble_eq_true rfl) dX5_valueAt_5 ⟨Nat.zero_le _, Nat.zero_le _⟩ (fun H locs hW => ?_)
  have hd := Option.some.inj hd
  subst hd
  exact hQ _ _ _ _ rfl hW dX5_valueAt_8
abbrev rmX5_leastIn : Room := { frames := 2, cells := 0, slots := 0, locals := 42 }
set_option maxRecDepth 100000 in
set_option maxHeartbeats 4000000 in
theorem kX5_leastIn (l : Launch) (Dd : va_G) (Y : yT) (ad : Nat → Nat) (F : gF) (x1 : Int32) (x2 : Int32) (r : Int32) (hd : dnX5_leastIn F x1 x2 = some r) : MG l yX5_leastIn wsX5_leastIn rmX5_leastIn Dd Y [.ref (ad 0), .int x1, .int x2] (WM Y ad F) (WM Y ad F) (some (.int r)) := by
  refine MGi (cc := cX5_leastIn) (maxL := 5) (ty := .int) (by decide) rfl (Nat.le_of_ble_eq_true rfl) (fun {p e s m args below meth c A} ls Q X hW hl hQ => ?_)
  have hx := X.x
  have hb := X.b
  have hl : lv_has ls 5 [(0, .ref (ad 0)), (1, .int x1), (2, .int x2)] := hl
  unfold dnX5_leastIn at hd
  have K7 : ∀ (F : gF) (x2 : Int32) (n : Nat) (x3 : Int32) (x4 : Int32) (z : Nat × Int32), lpX5_leastIn_7 F x2 n x3 x4 = some z → ∀ (H : Heap) (locs : List Loc) (ls : Array Slot), Wd Dd A s.heap (WM Y ad F) H locs → lv_has ls 5 [(0, .ref (ad 0)), (2, .int x2), (3, .int x3), (4, .int x4)] → (∀ (H : Heap) (locs : List Loc) (ls : Array Slot), z.1 = 0 → Wd Dd A s.heap (WM Y ad F) H locs → lv_has ls 5 [(3, .int z.2)] → W p l e rmX5_leastIn s m args below meth c H locs 0 0 Q (F0 m 36 ls [])) → W p l e rmX5_leastIn s m args below meth c H locs 0 0 Q (F0 m 7 ls []) := by
    intro F x2 n
    induction n with
    | zero => intro x3 x4 z hd; cases hd
    | succ n ih =>
      intro x3 x4 z hd H locs ls hW hl kx0
      unfold lpX5_leastIn_7 at hd
      refine lv_iload hx hb dX5_leastIn_7 (lv_at hl 3 rfl) ?_
      refine lv_iload_n hx hb dX5_leastIn_9 rfl (lv_at hl 1 rfl) ?_
      refine lv_icmp_gt (tgt := 36) hx hb dX5_leastIn_10 (by decide) (fun c1 => ?_) (fun c1 => ?_)
      · replace hd := if_t c1 hd
        cases hd
        exact kx0 _ _ _ rfl hW (lv_sub hl [2] rfl)
      · replace hd := if_f c1 hd
        refine lv_aload_n hx hb dX5_leastIn_13 rfl (lv_at hl 0 rfl) ?_
        refine lv_iload hx hb dX5_leastIn_14 (lv_at hl 3 rfl) ?_
        obtain ⟨r3, h2, hd⟩ := bp_e hd
        refine cVi_ (rest := []) X (kX5_valueAt l Dd Y ad F x4 r3 h2) (cwV 1 X.1.2.2.2.2 gX5_leastIn_X5_valueAt rfl rfl rfl (by decide +kernel) ⟨Nat.le_of_ble_eq_true rfl, Nat.le_of_ble_eq_true rfl⟩) hW 0 5 rfl rfl rfl rfl hl.1 rfl (Nat.le_of_ble_eq_true rfl) dX5_leastIn_16 ⟨Nat.zero_le _, Nat.zero_le _⟩ (fun H locs hW => ?_)
        refine lv_aload_n hx hb dX5_leastIn_19 rfl (lv_at hl 0 rfl) ?_
        refine lv_iload_n hx hb dX5_leastIn_20 rfl (lv_at hl 2 rfl) ?_
        obtain ⟨r5, h4, hd⟩ := bp_e hd
        refine cVi_ (rest := [.int r3]) X (kX5_valueAt l Dd Y ad F x3 r5 h4) (cwV 1 X.1.2.2.2.2 gX5_leastIn_X5_valueAt rfl rfl rfl (by decide +kernel) ⟨Nat.le_of_ble_eq_true rfl, Nat.le_of_ble_eq_true rfl⟩) hW 0 5 rfl rfl rfl rfl hl.1 rfl (Nat.le_of_ble_eq_true rfl) dX5_leastIn_21 ⟨Nat.zero_le _, Nat.zero_le _⟩ (fun H locs hW => ?_)
        refine lv_icmp_ge (tgt := 30) hx hb dX5_leastIn_24 (by decide) (fun c6 => ?_) (fun c6 => ?_)
        · replace hd := if_t c6 hd
          refine lv_iinc (v := x4 + 1) (lv' := [(4, .int (x4 + 1)), (0, .ref (ad 0)), (2, .int x2), (3, .int x3)]) hx hb dX5_leastIn_30 hl (k := 3) rfl rfl (by decide) rfl (fun ls hl => ?_)
          refine lv_goto (tgt := 7) hx hb dX5_leastIn_33 (by decide) ?_
          exact ih x3 (x4 + 1) z hd _ _ _ hW (lv_sub hl [1, 2, 3, 0] rfl) kx0
        · replace hd := if_f c6 hd
          refine lv_iload hx hb dX5_leastIn_27 (lv_at hl 3 rfl) ?_
          refine lv_istore_n (lv' := [(3, .int x4), (0, .ref (ad 0)), (2, .int x2), (4, .int x4)]) hx hb dX5_leastIn_29 rfl hl (by decide) rfl (fun ls hl => ?_)
          refine lv_iinc (v := x4 + 1) (lv' := [(4, .int (x4 + 1)), (3, .int x4), (0, .ref (ad 0)), (2, .int x2)]) hx hb dX5_leastIn_30 hl (k := 3) rfl rfl (by decide) rfl (fun ls hl => ?_)
          refine lv_goto (tgt := 7) hx hb dX5_leastIn_33 (by decide) ?_
          exact ih x4 (x4 + 1) z hd _ _ _ hW (lv_sub hl [2, 3, 1, 0] rfl) kx0
  refine lv_iload_n hx hb dX5_leastIn_0 rfl (lv_at hl 1 rfl) ?_
  refine lv_istore_n (lv' := [(3, .int x1), (0, .ref (ad 0)), (1, .int x1), (2, .int x2)]) hx hb dX5_leastIn_1 rfl hl (by decide) rfl (fun ls hl => ?_)
  refine lv_iload_n hx hb dX5_leastIn_2 rfl (lv_at hl 2 rfl) ?_
  refine lv_iconst (v := 1) hx hb dX5_leastIn_3 (by decide) ?_
  refine lv_iadd hx hb dX5_leastIn_4 ?_
  refine lv_istore (lv' := [(4, .int (x1 + 1)), (3, .int x1), (0, .ref (ad 0)), (1, .int x1), (2, .int x2)]) hx hb dX5_leastIn_5 hl (by decide) rfl (fun ls hl => ?_)
  obtain ⟨z7_6, hz7_6, hd⟩ := bp_e hd
  refine K7 F x2 FU x1 (x1 + 1) z7_6 hz7_6 _ _ _ hW (lv_sub hl [2, 4, 1, 0] rfl) (fun H locs ls e7 hW hl => ?_)
  refine lv_iload_n hx hb dX5_leastIn_36 rfl (lv_at hl 0 rfl) ?_
  have hd := Option.some.inj hd
  subst hd
  exact hQ _ _ _ _ rfl hW dX5_leastIn_37
abbrev rmX5_writes0 : Room := { frames := 3, cells := 0, slots := 0, locals := 66 }
set_option maxRecDepth 100000 in
set_option maxHeartbeats 4000000 in
theorem kX5_writes0 (l : Launch) (Dd : va_G) (Y : yT) (ad : Nat → Nat) (F : gF) (x1 : Int32) (x2 : Int32) (F' : gF) (hd : dnX5_writes0 F x1 x2 = some F') : MG l yX5_writes0 wsX5_writes0 rmX5_writes0 Dd Y [.ref (ad 0), .int x1, .int x2] (WM Y ad F) (WM Y ad F') none := by
  refine MGv (cc := cX5_writes0) (maxL := 3) (by decide) rfl (Nat.le_of_ble_eq_true rfl) (fun {p e s m args below meth c A} ls Q X hW hl hQ => ?_)
  have hx := X.x
  have hb := X.b
  have hl : lv_has ls 3 [(0, .ref (ad 0)), (1, .int x1), (2, .int x2)] := hl
  unfold dnX5_writes0 at hd
  refine lv_aload_n hx hb dX5_writes0_0 rfl (lv_at hl 0 rfl) ?_
  refine lv_iload_n hx hb dX5_writes0_1 rfl (lv_at hl 1 rfl) ?_
  refine lv_iload_n hx hb dX5_writes0_2 rfl (lv_at hl 2 rfl) ?_
  obtain ⟨r2, h1, hd⟩ := bp_e hd
  refine cSi_ (rest := [.ref (ad 0)]) X (kX5_cellAt l Dd Y x1 x2 r2 h1) (va_cwS 2 X.1.2.2.2.2 gX5_writes0_X5_cellAt rfl rfl rfl (by decide +kernel) ⟨Nat.le_of_ble_eq_true rfl, Nat.le_of_ble_eq_true rfl⟩) hW rfl hl.1 rfl (Nat.le_of_ble_eq_true rfl) dX5_writes0_3 ⟨Nat.zero_le _, Nat.zero_le _⟩ (fun H locs hW => ?_)
  refine lv_aload_n hx hb dX5_writes0_6 rfl (lv_at hl 0 rfl) ?_
  refine lv_iload_n hx hb dX5_writes0_7 rfl (lv_at hl 2 rfl) ?_
  refine lv_iload_n hx hb dX5_writes0_8 rfl (lv_at hl 2 rfl) ?_
  refine lv_iconst (v := 1) hx hb dX5_writes0_9 (by decide) ?_
  refine lv_iload_n hx hb dX5_writes0_10 rfl (lv_at hl 1 rfl) ?_
  refine lv_ishl hx hb dX5_writes0_11 ?_
  refine lv_iadd hx hb dX5_writes0_12 ?_
  refine lv_iconst (v := 1) hx hb dX5_writes0_13 (by decide) ?_
  refine lv_isub hx hb dX5_writes0_14 ?_
  obtain ⟨r4, h3, hd⟩ := bp_e hd
  refine cVi_ (rest := [.int r2, .ref (ad 0)]) X (kX5_leastIn l Dd Y ad F x2 ((x2 + ((1 : Int32) <<< (x1 &&& 31))) - 1) r4 h3) (cwV 2 X.1.2.2.2.2 gX5_writes0_X5_leastIn rfl rfl rfl (by decide +kernel) ⟨Nat.le_of_ble_eq_true rfl, Nat.le_of_ble_eq_true rfl⟩) hW 0 5 rfl rfl rfl rfl hl.1 rfl (Nat.le_of_ble_eq_true rfl) dX5_writes0_15 ⟨Nat.zero_le _, Nat.zero_le _⟩ (fun H locs hW => ?_)
  obtain ⟨F6, h5, hd⟩ := bp_e hd
  refine cVv_ (rest := []) X (kX5_put0 l Dd Y ad F r2 r4 F6 h5) (cwV 2 X.1.2.2.2.2 gX5_writes0_X5_put0 rfl rfl rfl (by decide +kernel) ⟨Nat.le_of_ble_eq_true rfl, Nat.le_of_ble_eq_true rfl⟩) hW 0 5 rfl rfl rfl rfl hl.1 rfl (Nat.le_of_ble_eq_true rfl) dX5_writes0_18 ⟨Nat.zero_le _, Nat.zero_le _⟩ (fun H locs hW => ?_)
  refine lv_aload_n hx hb dX5_writes0_21 rfl (lv_at hl 0 rfl) ?_
  refine lv_bipush (v := 8) hx hb dX5_writes0_22 (by decide) ?_
  refine lv_iconst (v := 1) hx hb dX5_writes0_24 (by decide) ?_
  obtain ⟨F8, h7, hd⟩ := bp_e hd
  refine cVv_ (rest := []) X (kX5_adds l Dd Y ad F6 8 1 F8 h7) (cwV 2 X.1.2.2.2.2 gX5_writes0_X5_adds rfl rfl rfl (by decide +kernel) ⟨Nat.le_of_ble_eq_true rfl, Nat.le_of_ble_eq_true rfl⟩) hW 0 5 rfl rfl rfl rfl hl.1 rfl (Nat.le_of_ble_eq_true rfl) dX5_writes0_25 ⟨Nat.zero_le _, Nat.zero_le _⟩ (fun H locs hW => ?_)
  obtain rfl := Option.some.inj hd
  exact hQ _ _ _ _ hW dX5_writes0_28
abbrev rmX5_builds : Room := { frames := 4, cells := 0, slots := 0, locals := 88 }
set_option maxRecDepth 100000 in
set_option maxHeartbeats 4000000 in
theorem kX5_builds (l : Launch) (Dd : va_G) (Y : yT) (ad : Nat → Nat) (F : gF) (F' : gF) (hd : dnX5_builds F = some F') : MG l yX5_builds wsX5_builds rmX5_builds Dd Y [.ref (ad 0)] (WM Y ad F) (WM Y ad F') none := by
  refine MGv (cc := cX5_builds) (maxL := 3) (by decide) rfl (Nat.le_of_ble_eq_true rfl) (fun {p e s m args below meth c A} ls Q X hW hl hQ => ?_)
  have hx := X.x
  have hb := X.b
  have hl : lv_has ls 3 [(0, .ref (ad 0))] := hl
  unfold dnX5_builds at hd
  have K9 : ∀ (x1 : Int32) (n : Nat) (x2 : Int32) (F : gF) (z : Nat × gF), lpX5_builds_9 x1 n x2 F = some z → ∀ (H : Heap) (locs : List Loc) (ls : Array Slot), Wd Dd A s.heap (WM Y ad F) H locs → lv_has ls 3 [(0, .ref (ad 0)), (1, .int x1), (2, .int x2)] → (∀ (H : Heap) (locs : List Loc) (ls : Array Slot), z.1 = 0 → Wd Dd A s.heap (WM Y ad z.2) H locs → lv_has ls 3 [(0, .ref (ad 0)), (1, .int x1)] → W p l e rmX5_builds s m args below meth c H locs 0 0 Q (F0 m 30 ls [])) → W p l e rmX5_builds s m args below meth c H locs 0 0 Q (F0 m 9 ls []) := by
    intro x1 n
    induction n with
    | zero => intro x2 F z hd; cases hd
    | succ n ih =>
      intro x2 F z hd H locs ls hW hl kx0
      unfold lpX5_builds_9 at hd
      refine lv_iload_n hx hb dX5_builds_9 rfl (lv_at hl 2 rfl) ?_
      refine lv_aload_n hx hb dX5_builds_10 rfl (lv_at hl 0 rfl) ?_
      refine lv_iload_n hx hb dX5_builds_11 rfl (lv_at hl 1 rfl) ?_
      obtain ⟨r2, h1, hd⟩ := bp_e hd
      refine cVi_ (rest := [.int x2]) X (kX5_cellsOn l Dd Y ad F x1 r2 h1) (cwV 1 X.1.2.2.2.2 gX5_builds_X5_cellsOn rfl rfl rfl (by decide +kernel) ⟨Nat.le_of_ble_eq_true rfl, Nat.le_of_ble_eq_true rfl⟩) hW 0 5 rfl rfl rfl rfl hl.1 rfl (Nat.le_of_ble_eq_true rfl) dX5_builds_12 ⟨Nat.zero_le _, Nat.zero_le _⟩ (fun H locs hW => ?_)
      refine lv_icmp_ge (tgt := 30) hx hb dX5_builds_15 (by decide) (fun c3 => ?_) (fun c3 => ?_)
      · replace hd := if_t c3 hd
        cases hd
        exact kx0 _ _ _ rfl hW (lv_sub hl [0, 1] rfl)
      · replace hd := if_f c3 hd
        refine lv_aload_n hx hb dX5_builds_18 rfl (lv_at hl 0 rfl) ?_
        refine lv_iload_n hx hb dX5_builds_19 rfl (lv_at hl 1 rfl) ?_
        refine lv_iload_n hx hb dX5_builds_20 rfl (lv_at hl 2 rfl) ?_
        obtain ⟨F5, h4, hd⟩ := bp_e hd
        refine cVv_ (rest := []) X (kX5_writes0 l Dd Y ad F x1 x2 F5 h4) (cwV 2 X.1.2.2.2.2 gX5_builds_X5_writes0 rfl rfl rfl (by decide +kernel) ⟨Nat.le_of_ble_eq_true rfl, Nat.le_of_ble_eq_true rfl⟩) hW 0 5 rfl rfl rfl rfl hl.1 rfl (Nat.le_of_ble_eq_true rfl) dX5_builds_21 ⟨Nat.zero_le _, Nat.zero_le _⟩ (fun H locs hW => ?_)
        refine lv_iinc (v := x2 + 1) (lv' := [(2, .int (x2 + 1)), (0, .ref (ad 0)), (1, .int x1)]) hx hb dX5_builds_24 hl (k := 2) rfl rfl (by decide) rfl (fun ls hl => ?_)
        refine lv_goto (tgt := 9) hx hb dX5_builds_27 (by decide) ?_
        exact ih (x2 + 1) F5 z hd _ _ _ hW (lv_sub hl [1, 2, 0] rfl) kx0
  have K38 : ∀ (n : Nat) (x1 : Int32) (F : gF) (z : Nat × gF), lpX5_builds_38 n x1 F = some z → ∀ (H : Heap) (locs : List Loc) (ls : Array Slot), Wd Dd A s.heap (WM Y ad F) H locs → lv_has ls 3 [(0, .ref (ad 0)), (1, .int x1)] → (∀ (H : Heap) (locs : List Loc) (ls : Array Slot), z.1 = 0 → Wd Dd A s.heap (WM Y ad z.2) H locs → lv_has ls 3 [(0, .ref (ad 0))] → W p l e rmX5_builds s m args below meth c H locs 0 0 Q (F0 m 59 ls [])) → W p l e rmX5_builds s m args below meth c H locs 0 0 Q (F0 m 38 ls []) := by
    intro n
    induction n with
    | zero => intro x1 F z hd; cases hd
    | succ n ih =>
      intro x1 F z hd H locs ls hW hl kx0
      unfold lpX5_builds_38 at hd
      refine lv_iload_n hx hb dX5_builds_38 rfl (lv_at hl 1 rfl) ?_
      refine lv_bipush (v := 40) hx hb dX5_builds_39 (by decide) ?_
      refine lv_icmp_ge (tgt := 59) hx hb dX5_builds_41 (by decide) (fun c6 => ?_) (fun c6 => ?_)
      · replace hd := if_t c6 hd
        cases hd
        exact kx0 _ _ _ rfl hW (lv_sub hl [0] rfl)
      · replace hd := if_f c6 hd
        refine lv_aload_n hx hb dX5_builds_44 rfl (lv_at hl 0 rfl) ?_
        refine lv_bipush (v := 52) hx hb dX5_builds_45 (by decide) ?_
        refine lv_iload_n hx hb dX5_builds_47 rfl (lv_at hl 1 rfl) ?_
        refine lv_iadd hx hb dX5_builds_48 ?_
        refine lv_iconst (v := 0) hx hb dX5_builds_49 (by decide) ?_
        obtain ⟨F8, h7, hd⟩ := bp_e hd
        refine cVv_ (rest := []) X (kX5_put0 l Dd Y ad F (52 + x1) 0 F8 h7) (cwV 2 X.1.2.2.2.2 gX5_builds_X5_put0 rfl rfl rfl (by decide +kernel) ⟨Nat.le_of_ble_eq_true rfl, Nat.le_of_ble_eq_true rfl⟩) hW 0 5 rfl rfl rfl rfl hl.1 rfl (Nat.le_of_ble_eq_true rfl) dX5_builds_50 ⟨Nat.zero_le _, Nat.zero_le _⟩ (fun H locs hW => ?_)
        refine lv_iinc (v := x1 + 1) (lv' := [(1, .int (x1 + 1)), (0, .ref (ad 0))]) hx hb dX5_builds_53 hl (k := 1) rfl rfl (by decide) rfl (fun ls hl => ?_)
        refine lv_goto (tgt := 38) hx hb dX5_builds_56 (by decide) ?_
        exact ih (x1 + 1) F8 z hd _ _ _ hW (lv_sub hl [1, 0] rfl) kx0
  have K2 : ∀ (n : Nat) (x1 : Int32) (F : gF) (z : Nat × gF), lpX5_builds_2 n x1 F = some z → ∀ (H : Heap) (locs : List Loc) (ls : Array Slot), Wd Dd A s.heap (WM Y ad F) H locs → lv_has ls 3 [(0, .ref (ad 0)), (1, .int x1)] → (∀ (H : Heap) (locs : List Loc) (ls : Array Slot), z.1 = 0 → Wd Dd A s.heap (WM Y ad z.2) H locs → lv_has ls 3 [(0, .ref (ad 0))] → W p l e rmX5_builds s m args below meth c H locs 0 0 Q (F0 m 36 ls [])) → W p l e rmX5_builds s m args below meth c H locs 0 0 Q (F0 m 2 ls []) := by
    intro n
    induction n with
    | zero => intro x1 F z hd; cases hd
    | succ n ih =>
      intro x1 F z hd H locs ls hW hl kx0
      unfold lpX5_builds_2 at hd
      refine lv_iload_n hx hb dX5_builds_2 rfl (lv_at hl 1 rfl) ?_
      refine lv_iconst (v := 5) hx hb dX5_builds_3 (by decide) ?_
      refine lv_icmp_gt (tgt := 36) hx hb dX5_builds_4 (by decide) (fun c9 => ?_) (fun c9 => ?_)
      · replace hd := if_t c9 hd
        cases hd
        exact kx0 _ _ _ rfl hW (lv_sub hl [0] rfl)
      · replace hd := if_f c9 hd
        refine lv_iconst (v := 0) hx hb dX5_builds_7 (by decide) ?_
        refine lv_istore_n (lv' := [(2, .int 0), (0, .ref (ad 0)), (1, .int x1)]) hx hb dX5_builds_8 rfl hl (by decide) rfl (fun ls hl => ?_)
        obtain ⟨z9_9, hz9_9, hd⟩ := bp_e hd
        refine K9 x1 FU 0 F z9_9 hz9_9 _ _ _ hW (lv_sub hl [1, 2, 0] rfl) (fun H locs ls e9 hW hl => ?_)
        refine lv_iinc (v := x1 + 1) (lv' := [(1, .int (x1 + 1)), (0, .ref (ad 0))]) hx hb dX5_builds_30 hl (k := 1) rfl rfl (by decide) rfl (fun ls hl => ?_)
        refine lv_goto (tgt := 2) hx hb dX5_builds_33 (by decide) ?_
        exact ih (x1 + 1) z9_9.2 z hd _ _ _ hW (lv_sub hl [1, 0] rfl) kx0
  refine lv_iconst (v := 1) hx hb dX5_builds_0 (by decide) ?_
  refine lv_istore_n (lv' := [(1, .int 1), (0, .ref (ad 0))]) hx hb dX5_builds_1 rfl hl (by decide) rfl (fun ls hl => ?_)
  obtain ⟨z2_10, hz2_10, hd⟩ := bp_e hd
  refine K2 FU 1 F z2_10 hz2_10 _ _ _ hW (lv_sub hl [1, 0] rfl) (fun H locs ls e2 hW hl => ?_)
  refine lv_iconst (v := 0) hx hb dX5_builds_36 (by decide) ?_
  refine lv_istore_n (lv' := [(1, .int 0), (0, .ref (ad 0))]) hx hb dX5_builds_37 rfl hl (by decide) rfl (fun ls hl => ?_)
  obtain ⟨z38_11, hz38_11, hd⟩ := bp_e hd
  refine K38 FU 0 z2_10.2 z38_11 hz38_11 _ _ _ hW (lv_sub hl [1, 0] rfl) (fun H locs ls e38 hW hl => ?_)
  refine lv_aload_n hx hb dX5_builds_59 rfl (lv_at hl 0 rfl) ?_
  refine lv_bipush (v := 10) hx hb dX5_builds_60 (by decide) ?_
  refine lv_iconst (v := 1) hx hb dX5_builds_62 (by decide) ?_
  obtain ⟨F14, h13, hd⟩ := bp_e hd
  refine cVv_ (rest := []) X (kX5_adds l Dd Y ad z38_11.2 10 1 F14 h13) (cwV 2 X.1.2.2.2.2 gX5_builds_X5_adds rfl rfl rfl (by decide +kernel) ⟨Nat.le_of_ble_eq_true rfl, Nat.le_of_ble_eq_true rfl⟩) hW 0 5 rfl rfl rfl rfl hl.1 rfl (Nat.le_of_ble_eq_true rfl) dX5_builds_63 ⟨Nat.zero_le _, Nat.zero_le _⟩ (fun H locs hW => ?_)
  obtain rfl := Option.some.inj hd
  exact hQ _ _ _ _ hW dX5_builds_66
abbrev rmX5_thrown : Room := { frames := 0, cells := 0, slots := 0, locals := 0 }
set_option maxRecDepth 100000 in
set_option maxHeartbeats 4000000 in
theorem kX5_thrown (l : Launch) (Dd : va_G) (Y : yT) (ad : Nat → Nat) (F : gF) (r : Int32) (hd : dnX5_thrown F = some r) : MG l yX5_thrown wsX5_thrown rmX5_thrown Dd Y [.ref (ad 0)] (WM Y ad F) (WM Y ad F) (some (.int r)) := by
  refine MGi (cc := cX5_thrown) (maxL := 1) (ty := .int) (by decide) rfl (Nat.le_of_ble_eq_true rfl) (fun {p e s m args below meth c A} ls Q X hW hl hQ => ?_)
  have hx := X.x
  have hb := X.b
  have hl : lv_has ls 1 [(0, .ref (ad 0))] := hl
  have hinX5 : ∀ w ∈ wsX50, w ∈ wsX5_thrown := fun w h => List.mem_cons_of_mem _ (List.mem_append_right _ h)
  unfold dnX5_thrown at hd
  refine lv_aload_n hx hb dX5_thrown_0 rfl (lv_at hl 0 rfl) ?_
  refine g_ X hinX5 hW 0 rfl rfl 0 (by decide) 1 rfl rfl rfl dX5_thrown_1 ?_
  have hd := Option.some.inj hd
  subst hd
  exact hQ _ _ _ _ rfl hW dX5_thrown_4
abbrev rmX5_isIn : Room := { frames := 0, cells := 0, slots := 0, locals := 0 }
set_option maxRecDepth 100000 in
set_option maxHeartbeats 4000000 in
theorem kX5_isIn (l : Launch) (Dd : va_G) (Y : yT) (x0 : Int32) (x1 : Int32) (x2 : Int32) (r : Int32) (hd : dnX5_isIn x0 x1 x2 = some r) : MG l yX5_isIn wsX5_isIn rmX5_isIn Dd Y [.int x0, .int x1, .int x2] [] [] (some (.int r)) := by
  refine MGi (cc := cX5_isIn) (maxL := 3) (ty := .boolean) (by decide) rfl (Nat.le_of_ble_eq_true rfl) (fun {p e s m args below meth c A} ls Q X hW hl hQ => ?_)
  have hx := X.x
  have hb := X.b
  have hl : lv_has ls 3 [(0, .int x0), (1, .int x1), (2, .int x2)] := hl
  unfold dnX5_isIn at hd
  refine lv_iload_n hx hb dX5_isIn_0 rfl (lv_at hl 0 rfl) ?_
  refine lv_iload_n hx hb dX5_isIn_1 rfl (lv_at hl 1 rfl) ?_
  refine lv_icmp_lt (tgt := 14) hx hb dX5_isIn_2 (by decide) (fun c1 => ?_) (fun c1 => ?_)
  · replace hd := if_t c1 hd
    refine lv_iconst (v := 0) hx hb dX5_isIn_14 (by decide) ?_
    have hd := Option.some.inj hd
    subst hd
    exact hQ _ _ _ _ (nz_b (Or.inl rfl)) hW dX5_isIn_15
  · replace hd := if_f c1 hd
    refine lv_iload_n hx hb dX5_isIn_5 rfl (lv_at hl 0 rfl) ?_
    refine lv_iload_n hx hb dX5_isIn_6 rfl (lv_at hl 2 rfl) ?_
    refine lv_icmp_gt (tgt := 14) hx hb dX5_isIn_7 (by decide) (fun c2 => ?_) (fun c2 => ?_)
    · replace hd := if_t c2 hd
      refine lv_iconst (v := 0) hx hb dX5_isIn_14 (by decide) ?_
      have hd := Option.some.inj hd
      subst hd
      exact hQ _ _ _ _ (nz_b (Or.inl rfl)) hW dX5_isIn_15
    · replace hd := if_f c2 hd
      refine lv_iconst (v := 1) hx hb dX5_isIn_10 (by decide) ?_
      refine lv_goto (tgt := 15) hx hb dX5_isIn_11 (by decide) ?_
      have hd := Option.some.inj hd
      subst hd
      exact hQ _ _ _ _ (nz_b (Or.inr rfl)) hW dX5_isIn_15
abbrev rmX5_change : Room := { frames := 1, cells := 0, slots := 0, locals := 21 }
set_option maxRecDepth 100000 in
set_option maxHeartbeats 4000000 in
theorem kX5_change (l : Launch) (Dd : va_G) (Y : yT) (ad : Nat → Nat) (F : gF) (F' : gF) (hd : dnX5_change F = some F') : MG l yX5_change wsX5_change rmX5_change Dd Y [.ref (ad 0)] (WM Y ad F) (WM Y ad F') none := by
  refine MGv (cc := cX5_change) (maxL := 3) (by decide) rfl (Nat.le_of_ble_eq_true rfl) (fun {p e s m args below meth c A} ls Q X hW hl hQ => ?_)
  have hx := X.x
  have hb := X.b
  have hl : lv_has ls 3 [(0, .ref (ad 0))] := hl
  have hinX5 : ∀ w ∈ wsX50, w ∈ wsX5_change := fun w h => List.mem_cons_of_mem _ (List.mem_append_right _ h)
  unfold dnX5_change at hd
  have K12 : ∀ (x1 : Int32) (n : Nat) (x2 : Int32) (F : gF) (z : Nat × gF), lpX5_change_12 x1 n x2 F = some z → ∀ (H : Heap) (locs : List Loc) (ls : Array Slot), Wd Dd A s.heap (WM Y ad F) H locs → lv_has ls 3 [(0, .ref (ad 0)), (1, .int x1), (2, .int x2)] → (∀ (H : Heap) (locs : List Loc) (ls : Array Slot), z.1 = 0 → Wd Dd A s.heap (WM Y ad z.2) H locs → lv_has ls 3 [(0, .ref (ad 0)), (1, .int x1)] → W p l e rmX5_change s m args below meth c H locs 0 0 Q (F0 m 42 ls [])) → W p l e rmX5_change s m args below meth c H locs 0 0 Q (F0 m 12 ls []) := by
    intro x1 n
    induction n with
    | zero => intro x2 F z hd; cases hd
    | succ n ih =>
      intro x2 F z hd H locs ls hW hl kx0
      unfold lpX5_change_12 at hd
      refine lv_iload_n hx hb dX5_change_12 rfl (lv_at hl 2 rfl) ?_
      refine lv_sipush (v := 310) hx hb dX5_change_13 (by decide) ?_
      refine lv_icmp_ge (tgt := 42) hx hb dX5_change_16 (by decide) (fun c1 => ?_) (fun c1 => ?_)
      · replace hd := if_t c1 hd
        cases hd
        exact kx0 _ _ _ rfl hW (lv_sub hl [0, 1] rfl)
      · replace hd := if_f c1 hd
        refine lv_aload_n hx hb dX5_change_19 rfl (lv_at hl 0 rfl) ?_
        refine g_ X hinX5 hW 0 rfl rfl 1 (by decide) 2 rfl rfl rfl dX5_change_20 ?_
        refine lv_sipush (v := 310) hx hb dX5_change_23 (by decide) ?_
        refine lv_iload_n hx hb dX5_change_26 rfl (lv_at hl 1 rfl) ?_
        refine lv_imul hx hb dX5_change_27 ?_
        refine lv_iload_n hx hb dX5_change_28 rfl (lv_at hl 2 rfl) ?_
        refine lv_iadd hx hb dX5_change_29 ?_
        refine lv_aload_n hx hb dX5_change_30 rfl (lv_at hl 0 rfl) ?_
        refine lv_iload_n hx hb dX5_change_31 rfl (lv_at hl 2 rfl) ?_
        obtain ⟨r3, h2, hd⟩ := bp_e hd
        refine cVi_ (rest := [.int ((310 * x1) + x2), .ref (ad 1)]) X (kX5_get l Dd Y ad F x2 r3 h2) (cwV 1 X.1.2.2.2.2 gX5_change_X5_get rfl rfl rfl (by decide +kernel) ⟨Nat.le_of_ble_eq_true rfl, Nat.le_of_ble_eq_true rfl⟩) hW 0 5 rfl rfl rfl rfl hl.1 rfl (Nat.le_of_ble_eq_true rfl) dX5_change_32 ⟨Nat.zero_le _, Nat.zero_le _⟩ (fun H locs hW => ?_)
        obtain ⟨hi4, hd⟩ := wi_e hd
        obtain ⟨F5, eF5, hd⟩ := bw_e hd
        refine s_ X hW 1 rfl rfl hi4 dX5_change_35 (ws' := (WM Y ad F5)) (by rw [eF5]; rfl) (fun H locs hW => ?_)
        refine lv_iinc (v := x2 + 1) (lv' := [(2, .int (x2 + 1)), (0, .ref (ad 0)), (1, .int x1)]) hx hb dX5_change_36 hl (k := 2) rfl rfl (by decide) rfl (fun ls hl => ?_)
        refine lv_goto (tgt := 12) hx hb dX5_change_39 (by decide) ?_
        exact ih (x2 + 1) F5 z hd _ _ _ hW (lv_sub hl [1, 2, 0] rfl) kx0
  refine lv_aload_n hx hb dX5_change_0 rfl (lv_at hl 0 rfl) ?_
  refine g_ X hinX5 hW 0 rfl rfl 4 (by decide) 1 rfl rfl rfl dX5_change_1 ?_
  refine lv_iconst (v := 1) hx hb dX5_change_4 (by decide) ?_
  refine lv_iadd hx hb dX5_change_5 ?_
  refine lv_bipush (v := 9) hx hb dX5_change_6 (by decide) ?_
  refine lv_irem hx hb dX5_change_8 (by decide) ?_
  refine lv_istore_n (lv' := [(1, .int (((F 0 4) + 1) - ((F 0 4) + 1) / 9 * 9)), (0, .ref (ad 0))]) hx hb dX5_change_9 rfl hl (by decide) rfl (fun ls hl => ?_)
  refine lv_iconst (v := 0) hx hb dX5_change_10 (by decide) ?_
  refine lv_istore_n (lv' := [(2, .int 0), (1, .int (((F 0 4) + 1) - ((F 0 4) + 1) / 9 * 9)), (0, .ref (ad 0))]) hx hb dX5_change_11 rfl hl (by decide) rfl (fun ls hl => ?_)
  obtain ⟨z12_6, hz12_6, hd⟩ := bp_e hd
  refine K12 (((F 0 4) + 1) - ((F 0 4) + 1) / 9 * 9) FU 0 F z12_6 hz12_6 _ _ _ hW (lv_sub hl [2, 1, 0] rfl) (fun H locs ls e12 hW hl => ?_)
  refine lv_aload_n hx hb dX5_change_42 rfl (lv_at hl 0 rfl) ?_
  refine lv_iload_n hx hb dX5_change_43 rfl (lv_at hl 1 rfl) ?_
  obtain ⟨F8, eF8, hd⟩ := bw_e hd
  refine p_ (ty := .int) X hinX5 tyX5 tyX5_ok nmX5 hW 0 rfl rfl 4 (by decide) 1 rfl rfl rfl (by decide +kernel) rfl rfl (Nat.le_of_ble_eq_true rfl) dX5_change_44 (ws' := (WM Y ad F8)) (by rw [eF8]; rfl) (fun H locs hW => ?_)
  refine lv_aload_n hx hb dX5_change_47 rfl (lv_at hl 0 rfl) ?_
  refine lv_aload_n hx hb dX5_change_48 rfl (lv_at hl 0 rfl) ?_
  refine g_ X hinX5 hW 0 rfl rfl 5 (by decide) 3 rfl rfl rfl dX5_change_49 ?_
  refine lv_bipush (v := 8) hx hb dX5_change_52 (by decide) ?_
  refine lv_icmp_ge (tgt := 66) hx hb dX5_change_54 (by decide) (fun c9 => ?_) (fun c9 => ?_)
  · replace hd := if_t c9 hd
    refine lv_aload_n hx hb dX5_change_66 rfl (lv_at hl 0 rfl) ?_
    refine g_ X hinX5 hW 0 rfl rfl 5 (by decide) 3 rfl rfl rfl dX5_change_67 ?_
    obtain ⟨F10, eF10, hd⟩ := bw_e hd
    refine p_ (ty := .int) X hinX5 tyX5 tyX5_ok nmX5 hW 0 rfl rfl 5 (by decide) 3 rfl rfl rfl (by decide +kernel) rfl rfl (Nat.le_of_ble_eq_true rfl) dX5_change_70 (ws' := (WM Y ad F10)) (by rw [eF10]; rfl) (fun H locs hW => ?_)
    obtain rfl := Option.some.inj hd
    exact hQ _ _ _ _ hW dX5_change_73
  · replace hd := if_f c9 hd
    refine lv_aload_n hx hb dX5_change_57 rfl (lv_at hl 0 rfl) ?_
    refine g_ X hinX5 hW 0 rfl rfl 5 (by decide) 3 rfl rfl rfl dX5_change_58 ?_
    refine lv_iconst (v := 1) hx hb dX5_change_61 (by decide) ?_
    refine lv_iadd hx hb dX5_change_62 ?_
    refine lv_goto (tgt := 70) hx hb dX5_change_63 (by decide) ?_
    obtain ⟨F11, eF11, hd⟩ := bw_e hd
    refine p_ (ty := .int) X hinX5 tyX5 tyX5_ok nmX5 hW 0 rfl rfl 5 (by decide) 3 rfl rfl rfl (by decide +kernel) rfl rfl (Nat.le_of_ble_eq_true rfl) dX5_change_70 (ws' := (WM Y ad F11)) (by rw [eF11]; rfl) (fun H locs hW => ?_)
    obtain rfl := Option.some.inj hd
    exact hQ _ _ _ _ hW dX5_change_73
abbrev rmX5_right : Room := { frames := 0, cells := 0, slots := 0, locals := 0 }
set_option maxRecDepth 100000 in
set_option maxHeartbeats 4000000 in
theorem kX5_right (l : Launch) (Dd : va_G) (Y : yT) (ad : Nat → Nat) (F : gF) (x1 : Int32) (x2 : Int32) (r : Int32) (F' : gF) (hd : dnX5_right F x1 x2 = some (r, F')) : MG l yX5_right wsX5_right rmX5_right Dd Y [.ref (ad 0), .int x1, .int x2] (WM Y ad F) (WM Y ad F') (some (.int r)) := by
  refine MGi (cc := cX5_right) (maxL := 3) (ty := .boolean) (by decide) rfl (Nat.le_of_ble_eq_true rfl) (fun {p e s m args below meth c A} ls Q X hW hl hQ => ?_)
  have hx := X.x
  have hb := X.b
  have hl : lv_has ls 3 [(0, .ref (ad 0)), (1, .int x1), (2, .int x2)] := hl
  have hinX5 : ∀ w ∈ wsX50, w ∈ wsX5_right := fun w h => List.mem_cons_of_mem _ (List.mem_append_right _ h)
  unfold dnX5_right at hd
  refine lv_aload_n hx hb dX5_right_0 rfl (lv_at hl 0 rfl) ?_
  refine g_ X hinX5 hW 0 rfl rfl 0 (by decide) 1 rfl rfl rfl dX5_right_1 ?_
  refine lv_if_ne (tgt := 16) hx hb dX5_right_4 (by decide) (fun c1 => ?_) (fun c1 => ?_)
  · replace hd := if_f c1 hd
    refine lv_aload_n hx hb dX5_right_16 rfl (lv_at hl 0 rfl) ?_
    refine g_ X hinX5 hW 0 rfl rfl 0 (by decide) 1 rfl rfl rfl dX5_right_17 ?_
    refine lv_if_ne (tgt := 27) hx hb dX5_right_20 (by decide) (fun _ => ?_) (fun h => absurd h c1)
    refine lv_iconst (v := 0) hx hb dX5_right_27 (by decide) ?_
    obtain ⟨rfl, rfl⟩ := Prod.mk.inj (Option.some.inj hd)
    exact hQ _ _ _ _ (nz_b (Or.inl rfl)) hW dX5_right_28
  · replace hd := if_t c1 hd
    refine lv_iload_n hx hb dX5_right_7 rfl (lv_at hl 1 rfl) ?_
    refine lv_if_ne (tgt := 16) hx hb dX5_right_8 (by decide) (fun c2 => ?_) (fun c2 => ?_)
    · replace hd := if_f c2 hd
      refine lv_aload_n hx hb dX5_right_16 rfl (lv_at hl 0 rfl) ?_
      refine g_ X hinX5 hW 0 rfl rfl 0 (by decide) 1 rfl rfl rfl dX5_right_17 ?_
      refine lv_if_ne (tgt := 27) hx hb dX5_right_20 (by decide) (fun h => absurd c1 h) (fun _ => ?_)
      refine lv_iconst (v := 1) hx hb dX5_right_23 (by decide) ?_
      refine lv_goto (tgt := 28) hx hb dX5_right_24 (by decide) ?_
      obtain ⟨rfl, rfl⟩ := Prod.mk.inj (Option.some.inj hd)
      exact hQ _ _ _ _ (nz_b (Or.inr rfl)) hW dX5_right_28
    · replace hd := if_t c2 hd
      refine lv_aload_n hx hb dX5_right_11 rfl (lv_at hl 0 rfl) ?_
      refine lv_iload_n hx hb dX5_right_12 rfl (lv_at hl 2 rfl) ?_
      obtain ⟨F3, eF3, hd⟩ := bw_e hd
      refine p_ (ty := .int) X hinX5 tyX5 tyX5_ok nmX5 hW 0 rfl rfl 0 (by decide) 1 rfl rfl rfl (by decide +kernel) rfl rfl (Nat.le_of_ble_eq_true rfl) dX5_right_13 (ws' := (WM Y ad F3)) (by rw [eF3]; rfl) (fun H locs hW => ?_)
      refine lv_aload_n hx hb dX5_right_16 rfl (lv_at hl 0 rfl) ?_
      refine g_ X hinX5 hW 0 rfl rfl 0 (by decide) 1 rfl rfl rfl dX5_right_17 ?_
      refine lv_if_ne (tgt := 27) hx hb dX5_right_20 (by decide) (fun c4 => ?_) (fun c4 => ?_)
      · replace hd := if_f c4 hd
        refine lv_iconst (v := 0) hx hb dX5_right_27 (by decide) ?_
        obtain ⟨rfl, rfl⟩ := Prod.mk.inj (Option.some.inj hd)
        exact hQ _ _ _ _ (nz_b (Or.inl rfl)) hW dX5_right_28
      · replace hd := if_t c4 hd
        refine lv_iconst (v := 1) hx hb dX5_right_23 (by decide) ?_
        refine lv_goto (tgt := 28) hx hb dX5_right_24 (by decide) ?_
        obtain ⟨rfl, rfl⟩ := Prod.mk.inj (Option.some.inj hd)
        exact hQ _ _ _ _ (nz_b (Or.inr rfl)) hW dX5_right_28
abbrev rmX5_isWaiting : Room := { frames := 1, cells := 0, slots := 0, locals := 21 }
set_option maxRecDepth 100000 in
set_option maxHeartbeats 4000000 in
theorem kX5_isWaiting (l : Launch) (Dd : va_G) (Y : yT) (ad : Nat → Nat) (F : gF) (x1 : Int32) (r : Int32) (hd : dnX5_isWaiting F x1 = some r) : MG l yX5_isWaiting wsX5_isWaiting rmX5_isWaiting Dd Y [.ref (ad 0), .int x1] (WM Y ad F) (WM Y ad F) (some (.int r)) := by
  refine MGi (cc := cX5_isWaiting) (maxL := 2) (ty := .boolean) (by decide) rfl (Nat.le_of_ble_eq_true rfl) (fun {p e s m args below meth c A} ls Q X hW hl hQ => ?_)
  have hx := X.x
  have hb := X.b
  have hl : lv_has ls 2 [(0, .ref (ad 0)), (1, .int x1)] := hl
  unfold dnX5_isWaiting at hd
  refine lv_aload_n hx hb dX5_isWaiting_0 rfl (lv_at hl 0 rfl) ?_
  refine lv_bipush (v := 52) hx hb dX5_isWaiting_1 (by decide) ?_
  refine lv_iload_n hx hb dX5_isWaiting_3 rfl (lv_at hl 1 rfl) ?_
  refine lv_iadd hx hb dX5_isWaiting_4 ?_
  obtain ⟨r2, h1, hd⟩ := bp_e hd
  refine cVi_ (rest := []) X (kX5_get l Dd Y ad F (52 + x1) r2 h1) (cwV 1 X.1.2.2.2.2 gX5_isWaiting_X5_get rfl rfl rfl (by decide +kernel) ⟨Nat.le_of_ble_eq_true rfl, Nat.le_of_ble_eq_true rfl⟩) hW 0 5 rfl rfl rfl rfl hl.1 rfl (Nat.le_of_ble_eq_true rfl) dX5_isWaiting_5 ⟨Nat.zero_le _, Nat.zero_le _⟩ (fun H locs hW => ?_)
  refine lv_iconst (v := 1) hx hb dX5_isWaiting_8 (by decide) ?_
  refine lv_icmp_ne (tgt := 16) hx hb dX5_isWaiting_9 (by decide) (fun c3 => ?_) (fun c3 => ?_)
  · replace hd := if_f c3 hd
    refine lv_iconst (v := 0) hx hb dX5_isWaiting_16 (by decide) ?_
    have hd := Option.some.inj hd
    subst hd
    exact hQ _ _ _ _ (nz_b (Or.inl rfl)) hW dX5_isWaiting_17
  · replace hd := if_t c3 hd
    refine lv_iconst (v := 1) hx hb dX5_isWaiting_12 (by decide) ?_
    refine lv_goto (tgt := 17) hx hb dX5_isWaiting_13 (by decide) ?_
    have hd := Option.some.inj hd
    subst hd
    exact hQ _ _ _ _ (nz_b (Or.inr rfl)) hW dX5_isWaiting_17
abbrev rmX5_waiting : Room := { frames := 2, cells := 0, slots := 0, locals := 41 }
set_option maxRecDepth 100000 in
set_option maxHeartbeats 4000000 in
theorem kX5_waiting (l : Launch) (Dd : va_G) (Y : yT) (ad : Nat → Nat) (F : gF) (r : Int32) (hd : dnX5_waiting F = some r) : MG l yX5_waiting wsX5_waiting rmX5_waiting Dd Y [.ref (ad 0)] (WM Y ad F) (WM Y ad F) (some (.int r)) := by
  refine MGi (cc := cX5_waiting) (maxL := 3) (ty := .int) (by decide) rfl (Nat.le_of_ble_eq_true rfl) (fun {p e s m args below meth c A} ls Q X hW hl hQ => ?_)
  have hx := X.x
  have hb := X.b
  have hl : lv_has ls 3 [(0, .ref (ad 0))] := hl
  unfold dnX5_waiting at hd
  have K4 : ∀ (F : gF) (n : Nat) (x1 : Int32) (x2 : Int32) (z : Nat × Int32), lpX5_waiting_4 F n x1 x2 = some z → ∀ (H : Heap) (locs : List Loc) (ls : Array Slot), Wd Dd A s.heap (WM Y ad F) H locs → lv_has ls 3 [(0, .ref (ad 0)), (1, .int x1), (2, .int x2)] → (∀ (H : Heap) (locs : List Loc) (ls : Array Slot), z.1 = 0 → Wd Dd A s.heap (WM Y ad F) H locs → lv_has ls 3 [(1, .int z.2)] → W p l e rmX5_waiting s m args below meth c H locs 0 0 Q (F0 m 29 ls [])) → W p l e rmX5_waiting s m args below meth c H locs 0 0 Q (F0 m 4 ls []) := by
    intro F n
    induction n with
    | zero => intro x1 x2 z hd; cases hd
    | succ n ih =>
      intro x1 x2 z hd H locs ls hW hl kx0
      unfold lpX5_waiting_4 at hd
      refine lv_iload_n hx hb dX5_waiting_4 rfl (lv_at hl 2 rfl) ?_
      refine lv_aload_n hx hb dX5_waiting_5 rfl (lv_at hl 0 rfl) ?_
      obtain ⟨r2, h1, hd⟩ := bp_e hd
      refine cVi_ (rest := [.int x2]) X (kX5_size l Dd Y ad F r2 h1) (cwV 0 X.1.2.2.2.2 gX5_waiting_X5_size rfl rfl rfl (by decide +kernel) ⟨Nat.le_of_ble_eq_true rfl, Nat.le_of_ble_eq_true rfl⟩) hW 0 5 rfl rfl rfl rfl hl.1 rfl (Nat.le_of_ble_eq_true rfl) dX5_waiting_6 ⟨Nat.zero_le _, Nat.zero_le _⟩ (fun H locs hW => ?_)
      refine lv_icmp_ge (tgt := 29) hx hb dX5_waiting_9 (by decide) (fun c3 => ?_) (fun c3 => ?_)
      · replace hd := if_t c3 hd
        cases hd
        exact kx0 _ _ _ rfl hW (lv_sub hl [1] rfl)
      · replace hd := if_f c3 hd
        refine lv_iload_n hx hb dX5_waiting_12 rfl (lv_at hl 1 rfl) ?_
        refine lv_aload_n hx hb dX5_waiting_13 rfl (lv_at hl 0 rfl) ?_
        refine lv_bipush (v := 52) hx hb dX5_waiting_14 (by decide) ?_
        refine lv_iload_n hx hb dX5_waiting_16 rfl (lv_at hl 2 rfl) ?_
        refine lv_iadd hx hb dX5_waiting_17 ?_
        obtain ⟨r5, h4, hd⟩ := bp_e hd
        refine cVi_ (rest := [.int x1]) X (kX5_get l Dd Y ad F (52 + x2) r5 h4) (cwV 1 X.1.2.2.2.2 gX5_waiting_X5_get rfl rfl rfl (by decide +kernel) ⟨Nat.le_of_ble_eq_true rfl, Nat.le_of_ble_eq_true rfl⟩) hW 0 5 rfl rfl rfl rfl hl.1 rfl (Nat.le_of_ble_eq_true rfl) dX5_waiting_18 ⟨Nat.zero_le _, Nat.zero_le _⟩ (fun H locs hW => ?_)
        refine lv_iadd hx hb dX5_waiting_21 ?_
        refine lv_istore_n (lv' := [(1, .int (x1 + r5)), (0, .ref (ad 0)), (2, .int x2)]) hx hb dX5_waiting_22 rfl hl (by decide) rfl (fun ls hl => ?_)
        refine lv_iinc (v := x2 + 1) (lv' := [(2, .int (x2 + 1)), (1, .int (x1 + r5)), (0, .ref (ad 0))]) hx hb dX5_waiting_23 hl (k := 2) rfl rfl (by decide) rfl (fun ls hl => ?_)
        refine lv_goto (tgt := 4) hx hb dX5_waiting_26 (by decide) ?_
        exact ih (x1 + r5) (x2 + 1) z hd _ _ _ hW (lv_sub hl [2, 1, 0] rfl) kx0
  refine lv_iconst (v := 0) hx hb dX5_waiting_0 (by decide) ?_
  refine lv_istore_n (lv' := [(1, .int 0), (0, .ref (ad 0))]) hx hb dX5_waiting_1 rfl hl (by decide) rfl (fun ls hl => ?_)
  refine lv_iconst (v := 0) hx hb dX5_waiting_2 (by decide) ?_
  refine lv_istore_n (lv' := [(2, .int 0), (1, .int 0), (0, .ref (ad 0))]) hx hb dX5_waiting_3 rfl hl (by decide) rfl (fun ls hl => ?_)
  obtain ⟨z4_5, hz4_5, hd⟩ := bp_e hd
  refine K4 F FU 0 0 z4_5 hz4_5 _ _ _ hW (lv_sub hl [2, 1, 0] rfl) (fun H locs ls e4 hW hl => ?_)
  refine lv_iload_n hx hb dX5_waiting_29 rfl (lv_at hl 0 rfl) ?_
  have hd := Option.some.inj hd
  subst hd
  exact hQ _ _ _ _ rfl hW dX5_waiting_30
abbrev rmX5_allCells : Room := { frames := 3, cells := 0, slots := 0, locals := 62 }
set_option maxRecDepth 100000 in
set_option maxHeartbeats 4000000 in
theorem kX5_allCells (l : Launch) (Dd : va_G) (Y : yT) (ad : Nat → Nat) (F : gF) (r : Int32) (hd : dnX5_allCells F = some r) : MG l yX5_allCells wsX5_allCells rmX5_allCells Dd Y [.ref (ad 0)] (WM Y ad F) (WM Y ad F) (some (.int r)) := by
  refine MGi (cc := cX5_allCells) (maxL := 3) (ty := .int) (by decide) rfl (Nat.le_of_ble_eq_true rfl) (fun {p e s m args below meth c A} ls Q X hW hl hQ => ?_)
  have hx := X.x
  have hb := X.b
  have hl : lv_has ls 3 [(0, .ref (ad 0))] := hl
  unfold dnX5_allCells at hd
  have K4 : ∀ (F : gF) (n : Nat) (x1 : Int32) (x2 : Int32) (z : Nat × Int32), lpX5_allCells_4 F n x1 x2 = some z → ∀ (H : Heap) (locs : List Loc) (ls : Array Slot), Wd Dd A s.heap (WM Y ad F) H locs → lv_has ls 3 [(0, .ref (ad 0)), (1, .int x1), (2, .int x2)] → (∀ (H : Heap) (locs : List Loc) (ls : Array Slot), z.1 = 0 → Wd Dd A s.heap (WM Y ad F) H locs → lv_has ls 3 [(1, .int z.2)] → W p l e rmX5_allCells s m args below meth c H locs 0 0 Q (F0 m 23 ls [])) → W p l e rmX5_allCells s m args below meth c H locs 0 0 Q (F0 m 4 ls []) := by
    intro F n
    induction n with
    | zero => intro x1 x2 z hd; cases hd
    | succ n ih =>
      intro x1 x2 z hd H locs ls hW hl kx0
      unfold lpX5_allCells_4 at hd
      refine lv_iload_n hx hb dX5_allCells_4 rfl (lv_at hl 2 rfl) ?_
      refine lv_iconst (v := 5) hx hb dX5_allCells_5 (by decide) ?_
      refine lv_icmp_gt (tgt := 23) hx hb dX5_allCells_6 (by decide) (fun c1 => ?_) (fun c1 => ?_)
      · replace hd := if_t c1 hd
        cases hd
        exact kx0 _ _ _ rfl hW (lv_sub hl [1] rfl)
      · replace hd := if_f c1 hd
        refine lv_iload_n hx hb dX5_allCells_9 rfl (lv_at hl 1 rfl) ?_
        refine lv_aload_n hx hb dX5_allCells_10 rfl (lv_at hl 0 rfl) ?_
        refine lv_iload_n hx hb dX5_allCells_11 rfl (lv_at hl 2 rfl) ?_
        obtain ⟨r3, h2, hd⟩ := bp_e hd
        refine cVi_ (rest := [.int x1]) X (kX5_cellsOn l Dd Y ad F x2 r3 h2) (cwV 1 X.1.2.2.2.2 gX5_allCells_X5_cellsOn rfl rfl rfl (by decide +kernel) ⟨Nat.le_of_ble_eq_true rfl, Nat.le_of_ble_eq_true rfl⟩) hW 0 5 rfl rfl rfl rfl hl.1 rfl (Nat.le_of_ble_eq_true rfl) dX5_allCells_12 ⟨Nat.zero_le _, Nat.zero_le _⟩ (fun H locs hW => ?_)
        refine lv_iadd hx hb dX5_allCells_15 ?_
        refine lv_istore_n (lv' := [(1, .int (x1 + r3)), (0, .ref (ad 0)), (2, .int x2)]) hx hb dX5_allCells_16 rfl hl (by decide) rfl (fun ls hl => ?_)
        refine lv_iinc (v := x2 + 1) (lv' := [(2, .int (x2 + 1)), (1, .int (x1 + r3)), (0, .ref (ad 0))]) hx hb dX5_allCells_17 hl (k := 2) rfl rfl (by decide) rfl (fun ls hl => ?_)
        refine lv_goto (tgt := 4) hx hb dX5_allCells_20 (by decide) ?_
        exact ih (x1 + r3) (x2 + 1) z hd _ _ _ hW (lv_sub hl [2, 1, 0] rfl) kx0
  refine lv_iconst (v := 0) hx hb dX5_allCells_0 (by decide) ?_
  refine lv_istore_n (lv' := [(1, .int 0), (0, .ref (ad 0))]) hx hb dX5_allCells_1 rfl hl (by decide) rfl (fun ls hl => ?_)
  refine lv_iconst (v := 1) hx hb dX5_allCells_2 (by decide) ?_
  refine lv_istore_n (lv' := [(2, .int 1), (1, .int 0), (0, .ref (ad 0))]) hx hb dX5_allCells_3 rfl hl (by decide) rfl (fun ls hl => ?_)
  obtain ⟨z4_3, hz4_3, hd⟩ := bp_e hd
  refine K4 F FU 0 1 z4_3 hz4_3 _ _ _ hW (lv_sub hl [2, 1, 0] rfl) (fun H locs ls e4 hW hl => ?_)
  refine lv_iload_n hx hb dX5_allCells_23 rfl (lv_at hl 0 rfl) ?_
  have hd := Option.some.inj hd
  subst hd
  exact hQ _ _ _ _ rfl hW dX5_allCells_24
abbrev rmX5_tellsOf : Room := { frames := 0, cells := 0, slots := 0, locals := 0 }
set_option maxRecDepth 100000 in
set_option maxHeartbeats 4000000 in
theorem kX5_tellsOf (l : Launch) (Dd : va_G) (Y : yT) (ad : Nat → Nat) (F : gF) (x1 : Int32) (x2 : Int32) (x3 : Int32) (r : Int32) (hd : dnX5_tellsOf F x1 x2 x3 = some r) : MG l yX5_tellsOf wsX5_tellsOf rmX5_tellsOf Dd Y [.ref (ad 0), .int x1, .int x2, .int x3] (WM Y ad F) (WM Y ad F) (some (.int r)) := by
  refine MGi (cc := cX5_tellsOf) (maxL := 4) (ty := .boolean) (by decide) rfl (Nat.le_of_ble_eq_true rfl) (fun {p e s m args below meth c A} ls Q X hW hl hQ => ?_)
  have hx := X.x
  have hb := X.b
  have hl : lv_has ls 4 [(0, .ref (ad 0)), (1, .int x1), (2, .int x2), (3, .int x3)] := hl
  unfold dnX5_tellsOf at hd
  refine lv_iload_n hx hb dX5_tellsOf_0 rfl (lv_at hl 2 rfl) ?_
  refine lv_iload_n hx hb dX5_tellsOf_1 rfl (lv_at hl 3 rfl) ?_
  refine lv_icmp_gt (tgt := 18) hx hb dX5_tellsOf_2 (by decide) (fun c1 => ?_) (fun c1 => ?_)
  · replace hd := if_t c1 hd
    refine lv_iconst (v := 0) hx hb dX5_tellsOf_18 (by decide) ?_
    have hd := Option.some.inj hd
    subst hd
    exact hQ _ _ _ _ (nz_b (Or.inl rfl)) hW dX5_tellsOf_19
  · replace hd := if_f c1 hd
    refine lv_iload_n hx hb dX5_tellsOf_5 rfl (lv_at hl 3 rfl) ?_
    refine lv_iload_n hx hb dX5_tellsOf_6 rfl (lv_at hl 2 rfl) ?_
    refine lv_iconst (v := 1) hx hb dX5_tellsOf_7 (by decide) ?_
    refine lv_iload_n hx hb dX5_tellsOf_8 rfl (lv_at hl 1 rfl) ?_
    refine lv_ishl hx hb dX5_tellsOf_9 ?_
    refine lv_iadd hx hb dX5_tellsOf_10 ?_
    refine lv_icmp_ge (tgt := 18) hx hb dX5_tellsOf_11 (by decide) (fun c2 => ?_) (fun c2 => ?_)
    · replace hd := if_t c2 hd
      refine lv_iconst (v := 0) hx hb dX5_tellsOf_18 (by decide) ?_
      have hd := Option.some.inj hd
      subst hd
      exact hQ _ _ _ _ (nz_b (Or.inl rfl)) hW dX5_tellsOf_19
    · replace hd := if_f c2 hd
      refine lv_iconst (v := 1) hx hb dX5_tellsOf_14 (by decide) ?_
      refine lv_goto (tgt := 19) hx hb dX5_tellsOf_15 (by decide) ?_
      have hd := Option.some.inj hd
      subst hd
      exact hQ _ _ _ _ (nz_b (Or.inr rfl)) hW dX5_tellsOf_19
abbrev rmX5_cellsOf : Room := { frames := 3, cells := 0, slots := 0, locals := 62 }
set_option maxRecDepth 100000 in
set_option maxHeartbeats 4000000 in
theorem kX5_cellsOf (l : Launch) (Dd : va_G) (Y : yT) (ad : Nat → Nat) (F : gF) (x1 : Int32) (r : Int32) (hd : dnX5_cellsOf F x1 = some r) : MG l yX5_cellsOf wsX5_cellsOf rmX5_cellsOf Dd Y [.ref (ad 0), .int x1] (WM Y ad F) (WM Y ad F) (some (.int r)) := by
  refine MGi (cc := cX5_cellsOf) (maxL := 5) (ty := .int) (by decide) rfl (Nat.le_of_ble_eq_true rfl) (fun {p e s m args below meth c A} ls Q X hW hl hQ => ?_)
  have hx := X.x
  have hb := X.b
  have hl : lv_has ls 5 [(0, .ref (ad 0)), (1, .int x1)] := hl
  unfold dnX5_cellsOf at hd
  have K12 : ∀ (F : gF) (x1 : Int32) (x3 : Int32) (n : Nat) (x2 : Int32) (x4 : Int32) (z : Nat × Int32), lpX5_cellsOf_12 F x1 x3 n x2 x4 = some z → ∀ (H : Heap) (locs : List Loc) (ls : Array Slot), Wd Dd A s.heap (WM Y ad F) H locs → lv_has ls 5 [(0, .ref (ad 0)), (1, .int x1), (2, .int x2), (3, .int x3), (4, .int x4)] → (∀ (H : Heap) (locs : List Loc) (ls : Array Slot), z.1 = 0 → Wd Dd A s.heap (WM Y ad F) H locs → lv_has ls 5 [(0, .ref (ad 0)), (1, .int x1), (2, .int z.2), (3, .int x3)] → W p l e rmX5_cellsOf s m args below meth c H locs 0 0 Q (F0 m 47 ls [])) → W p l e rmX5_cellsOf s m args below meth c H locs 0 0 Q (F0 m 12 ls []) := by
    intro F x1 x3 n
    induction n with
    | zero => intro x2 x4 z hd; cases hd
    | succ n ih =>
      intro x2 x4 z hd H locs ls hW hl kx0
      unfold lpX5_cellsOf_12 at hd
      refine lv_iload hx hb dX5_cellsOf_12 (lv_at hl 4 rfl) ?_
      refine lv_aload_n hx hb dX5_cellsOf_14 rfl (lv_at hl 0 rfl) ?_
      refine lv_iload_n hx hb dX5_cellsOf_15 rfl (lv_at hl 3 rfl) ?_
      obtain ⟨r2, h1, hd⟩ := bp_e hd
      refine cVi_ (rest := [.int x4]) X (kX5_cellsOn l Dd Y ad F x3 r2 h1) (cwV 1 X.1.2.2.2.2 gX5_cellsOf_X5_cellsOn rfl rfl rfl (by decide +kernel) ⟨Nat.le_of_ble_eq_true rfl, Nat.le_of_ble_eq_true rfl⟩) hW 0 5 rfl rfl rfl rfl hl.1 rfl (Nat.le_of_ble_eq_true rfl) dX5_cellsOf_16 ⟨Nat.zero_le _, Nat.zero_le _⟩ (fun H locs hW => ?_)
      refine lv_icmp_ge (tgt := 47) hx hb dX5_cellsOf_19 (by decide) (fun c3 => ?_) (fun c3 => ?_)
      · replace hd := if_t c3 hd
        cases hd
        exact kx0 _ _ _ rfl hW (lv_sub hl [0, 1, 2, 3] rfl)
      · replace hd := if_f c3 hd
        refine lv_iload_n hx hb dX5_cellsOf_22 rfl (lv_at hl 2 rfl) ?_
        refine lv_aload_n hx hb dX5_cellsOf_23 rfl (lv_at hl 0 rfl) ?_
        refine lv_iload_n hx hb dX5_cellsOf_24 rfl (lv_at hl 3 rfl) ?_
        refine lv_iload hx hb dX5_cellsOf_25 (lv_at hl 4 rfl) ?_
        refine lv_iload_n hx hb dX5_cellsOf_27 rfl (lv_at hl 1 rfl) ?_
        obtain ⟨r5, h4, hd⟩ := bp_e hd
        refine cVi_ (rest := [.int x2]) X (kX5_tellsOf l Dd Y ad F x3 x4 x1 r5 h4) (cwV 3 X.1.2.2.2.2 gX5_cellsOf_X5_tellsOf rfl rfl rfl (by decide +kernel) ⟨Nat.le_of_ble_eq_true rfl, Nat.le_of_ble_eq_true rfl⟩) hW 0 5 rfl rfl rfl rfl hl.1 rfl (Nat.le_of_ble_eq_true rfl) dX5_cellsOf_28 ⟨Nat.zero_le _, Nat.zero_le _⟩ (fun H locs hW => ?_)
        refine lv_if_eq (tgt := 38) hx hb dX5_cellsOf_31 (by decide) (fun c6 => ?_) (fun c6 => ?_)
        · replace hd := if_t c6 hd
          refine lv_iconst (v := 0) hx hb dX5_cellsOf_38 (by decide) ?_
          refine lv_iadd hx hb dX5_cellsOf_39 ?_
          refine lv_istore_n (lv' := [(2, .int (x2 + 0)), (0, .ref (ad 0)), (1, .int x1), (3, .int x3), (4, .int x4)]) hx hb dX5_cellsOf_40 rfl hl (by decide) rfl (fun ls hl => ?_)
          refine lv_iinc (v := x4 + 1) (lv' := [(4, .int (x4 + 1)), (2, .int (x2 + 0)), (0, .ref (ad 0)), (1, .int x1), (3, .int x3)]) hx hb dX5_cellsOf_41 hl (k := 4) rfl rfl (by decide) rfl (fun ls hl => ?_)
          refine lv_goto (tgt := 12) hx hb dX5_cellsOf_44 (by decide) ?_
          exact ih (x2 + 0) (x4 + 1) z hd _ _ _ hW (lv_sub hl [2, 3, 1, 4, 0] rfl) kx0
        · replace hd := if_f c6 hd
          refine lv_iconst (v := 1) hx hb dX5_cellsOf_34 (by decide) ?_
          refine lv_goto (tgt := 39) hx hb dX5_cellsOf_35 (by decide) ?_
          refine lv_iadd hx hb dX5_cellsOf_39 ?_
          refine lv_istore_n (lv' := [(2, .int (x2 + 1)), (0, .ref (ad 0)), (1, .int x1), (3, .int x3), (4, .int x4)]) hx hb dX5_cellsOf_40 rfl hl (by decide) rfl (fun ls hl => ?_)
          refine lv_iinc (v := x4 + 1) (lv' := [(4, .int (x4 + 1)), (2, .int (x2 + 1)), (0, .ref (ad 0)), (1, .int x1), (3, .int x3)]) hx hb dX5_cellsOf_41 hl (k := 4) rfl rfl (by decide) rfl (fun ls hl => ?_)
          refine lv_goto (tgt := 12) hx hb dX5_cellsOf_44 (by decide) ?_
          exact ih (x2 + 1) (x4 + 1) z hd _ _ _ hW (lv_sub hl [2, 3, 1, 4, 0] rfl) kx0
  have K4 : ∀ (F : gF) (x1 : Int32) (n : Nat) (x2 : Int32) (x3 : Int32) (z : Nat × Int32), lpX5_cellsOf_4 F x1 n x2 x3 = some z → ∀ (H : Heap) (locs : List Loc) (ls : Array Slot), Wd Dd A s.heap (WM Y ad F) H locs → lv_has ls 5 [(0, .ref (ad 0)), (1, .int x1), (2, .int x2), (3, .int x3)] → (∀ (H : Heap) (locs : List Loc) (ls : Array Slot), z.1 = 0 → Wd Dd A s.heap (WM Y ad F) H locs → lv_has ls 5 [(2, .int z.2)] → W p l e rmX5_cellsOf s m args below meth c H locs 0 0 Q (F0 m 53 ls [])) → W p l e rmX5_cellsOf s m args below meth c H locs 0 0 Q (F0 m 4 ls []) := by
    intro F x1 n
    induction n with
    | zero => intro x2 x3 z hd; cases hd
    | succ n ih =>
      intro x2 x3 z hd H locs ls hW hl kx0
      unfold lpX5_cellsOf_4 at hd
      refine lv_iload_n hx hb dX5_cellsOf_4 rfl (lv_at hl 3 rfl) ?_
      refine lv_iconst (v := 5) hx hb dX5_cellsOf_5 (by decide) ?_
      refine lv_icmp_gt (tgt := 53) hx hb dX5_cellsOf_6 (by decide) (fun c7 => ?_) (fun c7 => ?_)
      · replace hd := if_t c7 hd
        cases hd
        exact kx0 _ _ _ rfl hW (lv_sub hl [2] rfl)
      · replace hd := if_f c7 hd
        refine lv_iconst (v := 0) hx hb dX5_cellsOf_9 (by decide) ?_
        refine lv_istore (lv' := [(4, .int 0), (0, .ref (ad 0)), (1, .int x1), (2, .int x2), (3, .int x3)]) hx hb dX5_cellsOf_10 hl (by decide) rfl (fun ls hl => ?_)
        obtain ⟨z12_7, hz12_7, hd⟩ := bp_e hd
        refine K12 F x1 x3 FU x2 0 z12_7 hz12_7 _ _ _ hW (lv_sub hl [1, 2, 3, 4, 0] rfl) (fun H locs ls e12 hW hl => ?_)
        refine lv_iinc (v := x3 + 1) (lv' := [(3, .int (x3 + 1)), (0, .ref (ad 0)), (1, .int x1), (2, .int z12_7.2)]) hx hb dX5_cellsOf_47 hl (k := 3) rfl rfl (by decide) rfl (fun ls hl => ?_)
        refine lv_goto (tgt := 4) hx hb dX5_cellsOf_50 (by decide) ?_
        exact ih z12_7.2 (x3 + 1) z hd _ _ _ hW (lv_sub hl [1, 2, 3, 0] rfl) kx0
  refine lv_iconst (v := 0) hx hb dX5_cellsOf_0 (by decide) ?_
  refine lv_istore_n (lv' := [(2, .int 0), (0, .ref (ad 0)), (1, .int x1)]) hx hb dX5_cellsOf_1 rfl hl (by decide) rfl (fun ls hl => ?_)
  refine lv_iconst (v := 1) hx hb dX5_cellsOf_2 (by decide) ?_
  refine lv_istore_n (lv' := [(3, .int 1), (2, .int 0), (0, .ref (ad 0)), (1, .int x1)]) hx hb dX5_cellsOf_3 rfl hl (by decide) rfl (fun ls hl => ?_)
  obtain ⟨z4_8, hz4_8, hd⟩ := bp_e hd
  refine K4 F x1 FU 0 1 z4_8 hz4_8 _ _ _ hW (lv_sub hl [2, 3, 1, 0] rfl) (fun H locs ls e4 hW hl => ?_)
  refine lv_iload_n hx hb dX5_cellsOf_53 rfl (lv_at hl 0 rfl) ?_
  have hd := Option.some.inj hd
  subst hd
  exact hQ _ _ _ _ rfl hW dX5_cellsOf_54
abbrev rmX5_sets : Room := { frames := 5, cells := 0, slots := 0, locals := 110 }
set_option maxRecDepth 100000 in
set_option maxHeartbeats 4000000 in
theorem kX5_sets (l : Launch) (Dd : va_G) (Y : yT) (ad : Nat → Nat) (F : gF) (x1 : Int32) (x2 : Int32) (r : Int32) (F' : gF) (hd : dnX5_sets F x1 x2 = some (r, F')) : MG l yX5_sets wsX5_sets rmX5_sets Dd Y [.ref (ad 0), .int x1, .int x2] (WM Y ad F) (WM Y ad F') (some (.int r)) := by
  refine MGi (cc := cX5_sets) (maxL := 6) (ty := .int) (by decide) rfl (Nat.le_of_ble_eq_true rfl) (fun {p e s m args below meth c A} ls Q X hW hl hQ => ?_)
  have hx := X.x
  have hb := X.b
  have hl : lv_has ls 6 [(0, .ref (ad 0)), (1, .int x1), (2, .int x2)] := hl
  unfold dnX5_sets at hd
  have K36 : ∀ (x1 : Int32) (x3 : Int32) (x4 : Int32) (n : Nat) (x5 : Int32) (F : gF) (z : Nat × gF), lpX5_sets_36 x1 x3 x4 n x5 F = some z → ∀ (H : Heap) (locs : List Loc) (ls : Array Slot), Wd Dd A s.heap (WM Y ad F) H locs → lv_has ls 6 [(0, .ref (ad 0)), (1, .int x1), (3, .int x3), (4, .int x4), (5, .int x5)] → (∀ (H : Heap) (locs : List Loc) (ls : Array Slot), z.1 = 0 → Wd Dd A s.heap (WM Y ad z.2) H locs → lv_has ls 6 [(0, .ref (ad 0)), (1, .int x1), (3, .int x3), (4, .int x4)] → W p l e rmX5_sets s m args below meth c H locs 0 0 Q (F0 m 73 ls [])) → W p l e rmX5_sets s m args below meth c H locs 0 0 Q (F0 m 36 ls []) := by
    intro x1 x3 x4 n
    induction n with
    | zero => intro x5 F z hd; cases hd
    | succ n ih =>
      intro x5 F z hd H locs ls hW hl kx0
      unfold lpX5_sets_36 at hd
      refine lv_iload hx hb dX5_sets_36 (lv_at hl 4 rfl) ?_
      refine lv_aload_n hx hb dX5_sets_38 rfl (lv_at hl 0 rfl) ?_
      refine lv_iload hx hb dX5_sets_39 (lv_at hl 3 rfl) ?_
      obtain ⟨r2, h1, hd⟩ := bp_e hd
      refine cVi_ (rest := [.int x5]) X (kX5_cellsOn l Dd Y ad F x4 r2 h1) (cwV 1 X.1.2.2.2.2 gX5_sets_X5_cellsOn rfl rfl rfl (by decide +kernel) ⟨Nat.le_of_ble_eq_true rfl, Nat.le_of_ble_eq_true rfl⟩) hW 0 5 rfl rfl rfl rfl hl.1 rfl (Nat.le_of_ble_eq_true rfl) dX5_sets_41 ⟨Nat.zero_le _, Nat.zero_le _⟩ (fun H locs hW => ?_)
      refine lv_icmp_ge (tgt := 73) hx hb dX5_sets_44 (by decide) (fun c3 => ?_) (fun c3 => ?_)
      · replace hd := if_t c3 hd
        cases hd
        exact kx0 _ _ _ rfl hW (lv_sub hl [0, 1, 2, 3] rfl)
      · replace hd := if_f c3 hd
        refine lv_aload_n hx hb dX5_sets_47 rfl (lv_at hl 0 rfl) ?_
        refine lv_iload hx hb dX5_sets_48 (lv_at hl 3 rfl) ?_
        refine lv_iload hx hb dX5_sets_50 (lv_at hl 4 rfl) ?_
        refine lv_iload_n hx hb dX5_sets_52 rfl (lv_at hl 1 rfl) ?_
        obtain ⟨r5, h4, hd⟩ := bp_e hd
        refine cVi_ (rest := []) X (kX5_tellsOf l Dd Y ad F x4 x5 x1 r5 h4) (cwV 3 X.1.2.2.2.2 gX5_sets_X5_tellsOf rfl rfl rfl (by decide +kernel) ⟨Nat.le_of_ble_eq_true rfl, Nat.le_of_ble_eq_true rfl⟩) hW 0 5 rfl rfl rfl rfl hl.1 rfl (Nat.le_of_ble_eq_true rfl) dX5_sets_53 ⟨Nat.zero_le _, Nat.zero_le _⟩ (fun H locs hW => ?_)
        refine lv_if_eq (tgt := 67) hx hb dX5_sets_56 (by decide) (fun c6 => ?_) (fun c6 => ?_)
        · replace hd := if_t c6 hd
          refine lv_iinc (v := x5 + 1) (lv' := [(5, .int (x5 + 1)), (0, .ref (ad 0)), (1, .int x1), (3, .int x3), (4, .int x4)]) hx hb dX5_sets_67 hl (k := 4) rfl rfl (by decide) rfl (fun ls hl => ?_)
          refine lv_goto (tgt := 36) hx hb dX5_sets_70 (by decide) ?_
          exact ih (x5 + 1) F z hd _ _ _ hW (lv_sub hl [1, 2, 3, 4, 0] rfl) kx0
        · replace hd := if_f c6 hd
          refine lv_aload_n hx hb dX5_sets_59 rfl (lv_at hl 0 rfl) ?_
          refine lv_iload hx hb dX5_sets_60 (lv_at hl 3 rfl) ?_
          refine lv_iload hx hb dX5_sets_62 (lv_at hl 4 rfl) ?_
          obtain ⟨F8, h7, hd⟩ := bp_e hd
          refine cVv_ (rest := []) X (kX5_writes0 l Dd Y ad F x4 x5 F8 h7) (cwV 2 X.1.2.2.2.2 gX5_sets_X5_writes0 rfl rfl rfl (by decide +kernel) ⟨Nat.le_of_ble_eq_true rfl, Nat.le_of_ble_eq_true rfl⟩) hW 0 5 rfl rfl rfl rfl hl.1 rfl (Nat.le_of_ble_eq_true rfl) dX5_sets_64 ⟨Nat.zero_le _, Nat.zero_le _⟩ (fun H locs hW => ?_)
          refine lv_iinc (v := x5 + 1) (lv' := [(5, .int (x5 + 1)), (0, .ref (ad 0)), (1, .int x1), (3, .int x3), (4, .int x4)]) hx hb dX5_sets_67 hl (k := 4) rfl rfl (by decide) rfl (fun ls hl => ?_)
          refine lv_goto (tgt := 36) hx hb dX5_sets_70 (by decide) ?_
          exact ih (x5 + 1) F8 z hd _ _ _ hW (lv_sub hl [1, 2, 3, 4, 0] rfl) kx0
  have K27 : ∀ (x1 : Int32) (x3 : Int32) (n : Nat) (x4 : Int32) (F : gF) (z : Nat × gF), lpX5_sets_27 x1 x3 n x4 F = some z → ∀ (H : Heap) (locs : List Loc) (ls : Array Slot), Wd Dd A s.heap (WM Y ad F) H locs → lv_has ls 6 [(0, .ref (ad 0)), (1, .int x1), (3, .int x3), (4, .int x4)] → (∀ (H : Heap) (locs : List Loc) (ls : Array Slot), z.1 = 0 → Wd Dd A s.heap (WM Y ad z.2) H locs → lv_has ls 6 [(3, .int x3)] → W p l e rmX5_sets s m args below meth c H locs 0 0 Q (F0 m 79 ls [])) → W p l e rmX5_sets s m args below meth c H locs 0 0 Q (F0 m 27 ls []) := by
    intro x1 x3 n
    induction n with
    | zero => intro x4 F z hd; cases hd
    | succ n ih =>
      intro x4 F z hd H locs ls hW hl kx0
      unfold lpX5_sets_27 at hd
      refine lv_iload hx hb dX5_sets_27 (lv_at hl 3 rfl) ?_
      refine lv_iconst (v := 5) hx hb dX5_sets_29 (by decide) ?_
      refine lv_icmp_gt (tgt := 79) hx hb dX5_sets_30 (by decide) (fun c9 => ?_) (fun c9 => ?_)
      · replace hd := if_t c9 hd
        cases hd
        exact kx0 _ _ _ rfl hW (lv_sub hl [2] rfl)
      · replace hd := if_f c9 hd
        refine lv_iconst (v := 0) hx hb dX5_sets_33 (by decide) ?_
        refine lv_istore (lv' := [(5, .int 0), (0, .ref (ad 0)), (1, .int x1), (3, .int x3), (4, .int x4)]) hx hb dX5_sets_34 hl (by decide) rfl (fun ls hl => ?_)
        obtain ⟨z36_9, hz36_9, hd⟩ := bp_e hd
        refine K36 x1 x3 x4 FU 0 F z36_9 hz36_9 _ _ _ hW (lv_sub hl [1, 2, 3, 4, 0] rfl) (fun H locs ls e36 hW hl => ?_)
        refine lv_iinc (v := x4 + 1) (lv' := [(4, .int (x4 + 1)), (0, .ref (ad 0)), (1, .int x1), (3, .int x3)]) hx hb dX5_sets_73 hl (k := 3) rfl rfl (by decide) rfl (fun ls hl => ?_)
        refine lv_goto (tgt := 27) hx hb dX5_sets_76 (by decide) ?_
        exact ih (x4 + 1) z36_9.2 z hd _ _ _ hW (lv_sub hl [1, 2, 3, 0] rfl) kx0
  refine lv_aload_n hx hb dX5_sets_0 rfl (lv_at hl 0 rfl) ?_
  refine lv_iload_n hx hb dX5_sets_1 rfl (lv_at hl 1 rfl) ?_
  obtain ⟨r12, h11, hd⟩ := bp_e hd
  refine cVi_ (rest := []) X (kX5_valueAt l Dd Y ad F x1 r12 h11) (cwV 1 X.1.2.2.2.2 gX5_sets_X5_valueAt rfl rfl rfl (by decide +kernel) ⟨Nat.le_of_ble_eq_true rfl, Nat.le_of_ble_eq_true rfl⟩) hW 0 5 rfl rfl rfl rfl hl.1 rfl (Nat.le_of_ble_eq_true rfl) dX5_sets_2 ⟨Nat.zero_le _, Nat.zero_le _⟩ (fun H locs hW => ?_)
  refine lv_istore_n (lv' := [(3, .int r12), (0, .ref (ad 0)), (1, .int x1), (2, .int x2)]) hx hb dX5_sets_5 rfl hl (by decide) rfl (fun ls hl => ?_)
  refine lv_aload_n hx hb dX5_sets_6 rfl (lv_at hl 1 rfl) ?_
  refine lv_bipush (v := 12) hx hb dX5_sets_7 (by decide) ?_
  refine lv_iload_n hx hb dX5_sets_9 rfl (lv_at hl 2 rfl) ?_
  refine lv_iadd hx hb dX5_sets_10 ?_
  refine lv_iload_n hx hb dX5_sets_11 rfl (lv_at hl 3 rfl) ?_
  obtain ⟨F14, h13, hd⟩ := bp_e hd
  refine cVv_ (rest := []) X (kX5_put0 l Dd Y ad F (12 + x1) x2 F14 h13) (cwV 2 X.1.2.2.2.2 gX5_sets_X5_put0 rfl rfl rfl (by decide +kernel) ⟨Nat.le_of_ble_eq_true rfl, Nat.le_of_ble_eq_true rfl⟩) hW 0 5 rfl rfl rfl rfl hl.1 rfl (Nat.le_of_ble_eq_true rfl) dX5_sets_12 ⟨Nat.zero_le _, Nat.zero_le _⟩ (fun H locs hW => ?_)
  refine lv_aload_n hx hb dX5_sets_15 rfl (lv_at hl 1 rfl) ?_
  refine lv_iconst (v := 1) hx hb dX5_sets_16 (by decide) ?_
  obtain ⟨r16, h15, hd⟩ := bp_e hd
  refine cVi_ (rest := []) X (kX5_get l Dd Y ad F14 1 r16 h15) (cwV 1 X.1.2.2.2.2 gX5_sets_X5_get rfl rfl rfl (by decide +kernel) ⟨Nat.le_of_ble_eq_true rfl, Nat.le_of_ble_eq_true rfl⟩) hW 0 5 rfl rfl rfl rfl hl.1 rfl (Nat.le_of_ble_eq_true rfl) dX5_sets_17 ⟨Nat.zero_le _, Nat.zero_le _⟩ (fun H locs hW => ?_)
  refine lv_iconst (v := 1) hx hb dX5_sets_20 (by decide) ?_
  refine lv_icmp_ne (tgt := 81) hx hb dX5_sets_21 (by decide) (fun c17 => ?_) (fun c17 => ?_)
  · replace hd := if_f c17 hd
    refine lv_aload_n hx hb dX5_sets_81 rfl (lv_at hl 1 rfl) ?_
    refine lv_bipush (v := 52) hx hb dX5_sets_82 (by decide) ?_
    refine lv_iload_n hx hb dX5_sets_84 rfl (lv_at hl 2 rfl) ?_
    refine lv_iadd hx hb dX5_sets_85 ?_
    refine lv_iconst (v := 1) hx hb dX5_sets_86 (by decide) ?_
    obtain ⟨F19, h18, hd⟩ := bp_e hd
    refine cVv_ (rest := []) X (kX5_put0 l Dd Y ad F14 (52 + x1) 1 F19 h18) (cwV 2 X.1.2.2.2.2 gX5_sets_X5_put0 rfl rfl rfl (by decide +kernel) ⟨Nat.le_of_ble_eq_true rfl, Nat.le_of_ble_eq_true rfl⟩) hW 0 5 rfl rfl rfl rfl hl.1 rfl (Nat.le_of_ble_eq_true rfl) dX5_sets_87 ⟨Nat.zero_le _, Nat.zero_le _⟩ (fun H locs hW => ?_)
    refine lv_aload_n hx hb dX5_sets_90 rfl (lv_at hl 1 rfl) ?_
    refine lv_iconst (v := 1) hx hb dX5_sets_91 (by decide) ?_
    obtain ⟨r21, h20, hd⟩ := bp_e hd
    refine cVi_ (rest := []) X (kX5_get l Dd Y ad F19 1 r21 h20) (cwV 1 X.1.2.2.2.2 gX5_sets_X5_get rfl rfl rfl (by decide +kernel) ⟨Nat.le_of_ble_eq_true rfl, Nat.le_of_ble_eq_true rfl⟩) hW 0 5 rfl rfl rfl rfl hl.1 rfl (Nat.le_of_ble_eq_true rfl) dX5_sets_92 ⟨Nat.zero_le _, Nat.zero_le _⟩ (fun H locs hW => ?_)
    refine lv_iconst (v := 2) hx hb dX5_sets_95 (by decide) ?_
    refine lv_icmp_ne (tgt := 115) hx hb dX5_sets_96 (by decide) (fun c22 => ?_) (fun c22 => ?_)
    · replace hd := if_f c22 hd
      refine lv_iload_n hx hb dX5_sets_115 rfl (lv_at hl 0 rfl) ?_
      obtain ⟨rfl, rfl⟩ := Prod.mk.inj (Option.some.inj hd)
      exact hQ _ _ _ _ rfl hW dX5_sets_116
    · replace hd := if_t c22 hd
      refine lv_aload_n hx hb dX5_sets_99 rfl (lv_at hl 1 rfl) ?_
      obtain ⟨r24, h23, hd⟩ := bp_e hd
      refine cVi_ (rest := []) X (kX5_waiting l Dd Y ad F19 r24 h23) (cwV 0 X.1.2.2.2.2 gX5_sets_X5_waiting rfl rfl rfl (by decide +kernel) ⟨Nat.le_of_ble_eq_true rfl, Nat.le_of_ble_eq_true rfl⟩) hW 0 5 rfl rfl rfl rfl hl.1 rfl (Nat.le_of_ble_eq_true rfl) dX5_sets_100 ⟨Nat.zero_le _, Nat.zero_le _⟩ (fun H locs hW => ?_)
      refine lv_aload_n hx hb dX5_sets_103 rfl (lv_at hl 1 rfl) ?_
      refine lv_iconst (v := 2) hx hb dX5_sets_104 (by decide) ?_
      obtain ⟨r26, h25, hd⟩ := bp_e hd
      refine cVi_ (rest := [.int r24]) X (kX5_get l Dd Y ad F19 2 r26 h25) (cwV 1 X.1.2.2.2.2 gX5_sets_X5_get rfl rfl rfl (by decide +kernel) ⟨Nat.le_of_ble_eq_true rfl, Nat.le_of_ble_eq_true rfl⟩) hW 0 5 rfl rfl rfl rfl hl.1 rfl (Nat.le_of_ble_eq_true rfl) dX5_sets_105 ⟨Nat.zero_le _, Nat.zero_le _⟩ (fun H locs hW => ?_)
      refine lv_icmp_le (tgt := 115) hx hb dX5_sets_108 (by decide) (fun c27 => ?_) (fun c27 => ?_)
      · replace hd := if_t c27 hd
        refine lv_iload_n hx hb dX5_sets_115 rfl (lv_at hl 0 rfl) ?_
        obtain ⟨rfl, rfl⟩ := Prod.mk.inj (Option.some.inj hd)
        exact hQ _ _ _ _ rfl hW dX5_sets_116
      · replace hd := if_f c27 hd
        refine lv_aload_n hx hb dX5_sets_111 rfl (lv_at hl 1 rfl) ?_
        obtain ⟨F29, h28, hd⟩ := bp_e hd
        refine cVv_ (rest := []) X (kX5_builds l Dd Y ad F19 F29 h28) (cwV 0 X.1.2.2.2.2 gX5_sets_X5_builds rfl rfl rfl (by decide +kernel) ⟨Nat.le_of_ble_eq_true rfl, Nat.le_of_ble_eq_true rfl⟩) hW 0 5 rfl rfl rfl rfl hl.1 rfl (Nat.le_of_ble_eq_true rfl) dX5_sets_112 ⟨Nat.zero_le _, Nat.zero_le _⟩ (fun H locs hW => ?_)
        refine lv_iload_n hx hb dX5_sets_115 rfl (lv_at hl 0 rfl) ?_
        obtain ⟨rfl, rfl⟩ := Prod.mk.inj (Option.some.inj hd)
        exact hQ _ _ _ _ rfl hW dX5_sets_116
  · replace hd := if_t c17 hd
    refine lv_iconst (v := 1) hx hb dX5_sets_24 (by decide) ?_
    refine lv_istore (lv' := [(4, .int 1), (3, .int r12), (0, .ref (ad 0)), (1, .int x1), (2, .int x2)]) hx hb dX5_sets_25 hl (by decide) rfl (fun ls hl => ?_)
    obtain ⟨z27_29, hz27_29, hd⟩ := bp_e hd
    refine K27 x1 r12 FU 1 F14 z27_29 hz27_29 _ _ _ hW (lv_sub hl [2, 3, 1, 0] rfl) (fun H locs ls e27 hW hl => ?_)
    refine lv_iload_n hx hb dX5_sets_79 rfl (lv_at hl 0 rfl) ?_
    obtain ⟨rfl, rfl⟩ := Prod.mk.inj (Option.some.inj hd)
    exact hQ _ _ _ _ rfl hW dX5_sets_80
abbrev rmX5_levelOf : Room := { frames := 0, cells := 0, slots := 0, locals := 0 }
set_option maxRecDepth 100000 in
set_option maxHeartbeats 4000000 in
theorem kX5_levelOf (l : Launch) (Dd : va_G) (Y : yT) (ad : Nat → Nat) (F : gF) (x1 : Int32) (r : Int32) (hd : dnX5_levelOf F x1 = some r) : MG l yX5_levelOf wsX5_levelOf rmX5_levelOf Dd Y [.ref (ad 0), .int x1] (WM Y ad F) (WM Y ad F) (some (.int r)) := by
  refine MGi (cc := cX5_levelOf) (maxL := 3) (ty := .int) (by decide) rfl (Nat.le_of_ble_eq_true rfl) (fun {p e s m args below meth c A} ls Q X hW hl hQ => ?_)
  have hx := X.x
  have hb := X.b
  have hl : lv_has ls 3 [(0, .ref (ad 0)), (1, .int x1)] := hl
  unfold dnX5_levelOf at hd
  have K2 : ∀ (F : gF) (x1 : Int32) (n : Nat) (x2 : Int32) (z : Nat × Int32), lpX5_levelOf_2 F x1 n x2 = some z → ∀ (H : Heap) (locs : List Loc) (ls : Array Slot), Wd Dd A s.heap (WM Y ad F) H locs → lv_has ls 3 [(1, .int x1), (2, .int x2)] → (∀ (H : Heap) (locs : List Loc) (ls : Array Slot), z.1 = 0 → Wd Dd A s.heap (WM Y ad F) H locs → lv_has ls 3 [(2, .int z.2)] → W p l e rmX5_levelOf s m args below meth c H locs 0 0 Q (F0 m 15 ls [])) → W p l e rmX5_levelOf s m args below meth c H locs 0 0 Q (F0 m 2 ls []) := by
    intro F x1 n
    induction n with
    | zero => intro x2 z hd; cases hd
    | succ n ih =>
      intro x2 z hd H locs ls hW hl kx0
      unfold lpX5_levelOf_2 at hd
      refine lv_iconst (v := 2) hx hb dX5_levelOf_2 (by decide) ?_
      refine lv_iload_n hx hb dX5_levelOf_3 rfl (lv_at hl 1 rfl) ?_
      refine lv_ishl hx hb dX5_levelOf_4 ?_
      refine lv_iload_n hx hb dX5_levelOf_5 rfl (lv_at hl 0 rfl) ?_
      refine lv_icmp_gt (tgt := 15) hx hb dX5_levelOf_6 (by decide) (fun c1 => ?_) (fun c1 => ?_)
      · replace hd := if_t c1 hd
        cases hd
        exact kx0 _ _ _ rfl hW (lv_sub hl [1] rfl)
      · replace hd := if_f c1 hd
        refine lv_iinc (v := x2 + 1) (lv' := [(2, .int (x2 + 1)), (1, .int x1)]) hx hb dX5_levelOf_9 hl (k := 1) rfl rfl (by decide) rfl (fun ls hl => ?_)
        refine lv_goto (tgt := 2) hx hb dX5_levelOf_12 (by decide) ?_
        exact ih (x2 + 1) z hd _ _ _ hW (lv_sub hl [1, 0] rfl) kx0
  refine lv_iconst (v := 0) hx hb dX5_levelOf_0 (by decide) ?_
  refine lv_istore_n (lv' := [(2, .int 0), (0, .ref (ad 0)), (1, .int x1)]) hx hb dX5_levelOf_1 rfl hl (by decide) rfl (fun ls hl => ?_)
  obtain ⟨z2_1, hz2_1, hd⟩ := bp_e hd
  refine K2 F x1 FU 0 z2_1 hz2_1 _ _ _ hW (lv_sub hl [2, 0] rfl) (fun H locs ls e2 hW hl => ?_)
  refine lv_iload_n hx hb dX5_levelOf_15 rfl (lv_at hl 0 rfl) ?_
  have hd := Option.some.inj hd
  subst hd
  exact hQ _ _ _ _ rfl hW dX5_levelOf_16
abbrev rmX5_runEnd : Room := { frames := 2, cells := 0, slots := 0, locals := 42 }
set_option maxRecDepth 100000 in
set_option maxHeartbeats 4000000 in
theorem kX5_runEnd (l : Launch) (Dd : va_G) (Y : yT) (ad : Nat → Nat) (F : gF) (x1 : Int32) (x2 : Int32) (r : Int32) (hd : dnX5_runEnd F x1 x2 = some r) : MG l yX5_runEnd wsX5_runEnd rmX5_runEnd Dd Y [.ref (ad 0), .int x1, .int x2] (WM Y ad F) (WM Y ad F) (some (.int r)) := by
  refine MGi (cc := cX5_runEnd) (maxL := 4) (ty := .int) (by decide) rfl (Nat.le_of_ble_eq_true rfl) (fun {p e s m args below meth c A} ls Q X hW hl hQ => ?_)
  have hx := X.x
  have hb := X.b
  have hl : lv_has ls 4 [(0, .ref (ad 0)), (1, .int x1), (2, .int x2)] := hl
  unfold dnX5_runEnd at hd
  have K2 : ∀ (F : gF) (x2 : Int32) (n : Nat) (x3 : Int32) (z : Nat × Int32), lpX5_runEnd_2 F x2 n x3 = some z → ∀ (H : Heap) (locs : List Loc) (ls : Array Slot), Wd Dd A s.heap (WM Y ad F) H locs → lv_has ls 4 [(0, .ref (ad 0)), (2, .int x2), (3, .int x3)] → (∀ (H : Heap) (locs : List Loc) (ls : Array Slot), z.1 = 0 → Wd Dd A s.heap (WM Y ad F) H locs → lv_has ls 4 [(3, .int z.2)] → W p l e rmX5_runEnd s m args below meth c H locs 0 0 Q (F0 m 23 ls [])) → W p l e rmX5_runEnd s m args below meth c H locs 0 0 Q (F0 m 2 ls []) := by
    intro F x2 n
    induction n with
    | zero => intro x3 z hd; cases hd
    | succ n ih =>
      intro x3 z hd H locs ls hW hl kx0
      unfold lpX5_runEnd_2 at hd
      refine lv_iload_n hx hb dX5_runEnd_2 rfl (lv_at hl 2 rfl) ?_
      refine lv_iload_n hx hb dX5_runEnd_3 rfl (lv_at hl 1 rfl) ?_
      refine lv_icmp_ge (tgt := 23) hx hb dX5_runEnd_4 (by decide) (fun c1 => ?_) (fun c1 => ?_)
      · replace hd := if_t c1 hd
        cases hd
        exact kx0 _ _ _ rfl hW (lv_sub hl [2] rfl)
      · replace hd := if_f c1 hd
        refine lv_aload_n hx hb dX5_runEnd_7 rfl (lv_at hl 0 rfl) ?_
        refine lv_iload_n hx hb dX5_runEnd_8 rfl (lv_at hl 2 rfl) ?_
        refine lv_iconst (v := 1) hx hb dX5_runEnd_9 (by decide) ?_
        refine lv_iadd hx hb dX5_runEnd_10 ?_
        obtain ⟨r3, h2, hd⟩ := bp_e hd
        refine cVi_ (rest := []) X (kX5_isWaiting l Dd Y ad F (x3 + 1) r3 h2) (cwV 1 X.1.2.2.2.2 gX5_runEnd_X5_isWaiting rfl rfl rfl (by decide +kernel) ⟨Nat.le_of_ble_eq_true rfl, Nat.le_of_ble_eq_true rfl⟩) hW 0 5 rfl rfl rfl rfl hl.1 rfl (Nat.le_of_ble_eq_true rfl) dX5_runEnd_11 ⟨Nat.zero_le _, Nat.zero_le _⟩ (fun H locs hW => ?_)
        refine lv_if_ne (tgt := 23) hx hb dX5_runEnd_14 (by decide) (fun c4 => ?_) (fun c4 => ?_)
        · replace hd := if_f c4 hd
          cases hd
          exact kx0 _ _ _ rfl hW (lv_sub hl [2] rfl)
        · replace hd := if_t c4 hd
          refine lv_iinc (v := x3 + 1) (lv' := [(3, .int (x3 + 1)), (0, .ref (ad 0)), (2, .int x2)]) hx hb dX5_runEnd_17 hl (k := 2) rfl rfl (by decide) rfl (fun ls hl => ?_)
          refine lv_goto (tgt := 2) hx hb dX5_runEnd_20 (by decide) ?_
          exact ih (x3 + 1) z hd _ _ _ hW (lv_sub hl [1, 2, 0] rfl) kx0
  refine lv_iload_n hx hb dX5_runEnd_0 rfl (lv_at hl 1 rfl) ?_
  refine lv_istore_n (lv' := [(3, .int x1), (0, .ref (ad 0)), (1, .int x1), (2, .int x2)]) hx hb dX5_runEnd_1 rfl hl (by decide) rfl (fun ls hl => ?_)
  obtain ⟨z2_4, hz2_4, hd⟩ := bp_e hd
  refine K2 F x2 FU x1 z2_4 hz2_4 _ _ _ hW (lv_sub hl [1, 3, 0] rfl) (fun H locs ls e2 hW hl => ?_)
  refine lv_iload_n hx hb dX5_runEnd_23 rfl (lv_at hl 0 rfl) ?_
  have hd := Option.some.inj hd
  subst hd
  exact hQ _ _ _ _ rfl hW dX5_runEnd_24
abbrev rmX5_looksIn : Room := { frames := 3, cells := 0, slots := 0, locals := 65 }
set_option maxRecDepth 100000 in
set_option maxHeartbeats 4000000 in
theorem kX5_looksIn (l : Launch) (Dd : va_G) (Y : yT) (ad : Nat → Nat) (F : gF) (x1 : Int32) (x2 : Int32) (r : Int32) (hd : dnX5_looksIn F x1 x2 = some r) : MG l yX5_looksIn wsX5_looksIn rmX5_looksIn Dd Y [.ref (ad 0), .int x1, .int x2] (WM Y ad F) (WM Y ad F) (some (.int r)) := by
  refine MGi (cc := cX5_looksIn) (maxL := 7) (ty := .int) (by decide) rfl (Nat.le_of_ble_eq_true rfl) (fun {p e s m args below meth c A} ls Q X hW hl hQ => ?_)
  have hx := X.x
  have hb := X.b
  have hl : lv_has ls 7 [(0, .ref (ad 0)), (1, .int x1), (2, .int x2)] := hl
  unfold dnX5_looksIn at hd
  have K5 : ∀ (F : gF) (x2 : Int32) (n : Nat) (x3 : Int32) (x4 : Int32) (z : Nat × Int32), lpX5_looksIn_5 F x2 n x3 x4 = some z → ∀ (H : Heap) (locs : List Loc) (ls : Array Slot), Wd Dd A s.heap (WM Y ad F) H locs → lv_has ls 7 [(0, .ref (ad 0)), (2, .int x2), (3, .int x3), (4, .int x4)] → (∀ (H : Heap) (locs : List Loc) (ls : Array Slot), z.1 = 0 → Wd Dd A s.heap (WM Y ad F) H locs → lv_has ls 7 [(3, .int z.2)] → W p l e rmX5_looksIn s m args below meth c H locs 0 0 Q (F0 m 73 ls [])) → W p l e rmX5_looksIn s m args below meth c H locs 0 0 Q (F0 m 5 ls []) := by
    intro F x2 n
    induction n with
    | zero => intro x3 x4 z hd; cases hd
    | succ n ih =>
      intro x3 x4 z hd H locs ls hW hl kx0
      unfold lpX5_looksIn_5 at hd
      refine lv_iload hx hb dX5_looksIn_5 (lv_at hl 3 rfl) ?_
      refine lv_iload_n hx hb dX5_looksIn_7 rfl (lv_at hl 1 rfl) ?_
      refine lv_icmp_gt (tgt := 73) hx hb dX5_looksIn_8 (by decide) (fun c1 => ?_) (fun c1 => ?_)
      · replace hd := if_t c1 hd
        cases hd
        exact kx0 _ _ _ rfl hW (lv_sub hl [2] rfl)
      · replace hd := if_f c1 hd
        refine lv_aload_n hx hb dX5_looksIn_11 rfl (lv_at hl 0 rfl) ?_
        refine lv_iload hx hb dX5_looksIn_12 (lv_at hl 3 rfl) ?_
        obtain ⟨r3, h2, hd⟩ := bp_e hd
        refine cVi_ (rest := []) X (kX5_isWaiting l Dd Y ad F x4 r3 h2) (cwV 1 X.1.2.2.2.2 gX5_looksIn_X5_isWaiting rfl rfl rfl (by decide +kernel) ⟨Nat.le_of_ble_eq_true rfl, Nat.le_of_ble_eq_true rfl⟩) hW 0 5 rfl rfl rfl rfl hl.1 rfl (Nat.le_of_ble_eq_true rfl) dX5_looksIn_14 ⟨Nat.zero_le _, Nat.zero_le _⟩ (fun H locs hW => ?_)
        refine lv_if_eq (tgt := 25) hx hb dX5_looksIn_17 (by decide) (fun c4 => ?_) (fun c4 => ?_)
        · replace hd := if_t c4 hd
          refine lv_aload_n hx hb dX5_looksIn_25 rfl (lv_at hl 0 rfl) ?_
          refine lv_iload hx hb dX5_looksIn_26 (lv_at hl 3 rfl) ?_
          refine lv_iload_n hx hb dX5_looksIn_28 rfl (lv_at hl 1 rfl) ?_
          obtain ⟨r6, h5, hd⟩ := bp_e hd
          refine cVi_ (rest := []) X (kX5_runEnd l Dd Y ad F x4 x2 r6 h5) (cwV 2 X.1.2.2.2.2 gX5_looksIn_X5_runEnd rfl rfl rfl (by decide +kernel) ⟨Nat.le_of_ble_eq_true rfl, Nat.le_of_ble_eq_true rfl⟩) hW 0 5 rfl rfl rfl rfl hl.1 rfl (Nat.le_of_ble_eq_true rfl) dX5_looksIn_29 ⟨Nat.zero_le _, Nat.zero_le _⟩ (fun H locs hW => ?_)
          refine lv_istore (lv' := [(5, .int r6), (0, .ref (ad 0)), (2, .int x2), (3, .int x3), (4, .int x4)]) hx hb dX5_looksIn_32 hl (by decide) rfl (fun ls hl => ?_)
          refine lv_iload hx hb dX5_looksIn_34 (lv_at hl 0 rfl) ?_
          refine lv_iload hx hb dX5_looksIn_36 (lv_at hl 4 rfl) ?_
          refine lv_isub hx hb dX5_looksIn_38 ?_
          refine lv_iconst (v := 1) hx hb dX5_looksIn_39 (by decide) ?_
          refine lv_iadd hx hb dX5_looksIn_40 ?_
          refine lv_istore (lv' := [(6, .int ((r6 - x4) + 1)), (5, .int r6), (0, .ref (ad 0)), (2, .int x2), (3, .int x3), (4, .int x4)]) hx hb dX5_looksIn_41 hl (by decide) rfl (fun ls hl => ?_)
          refine lv_iload_n hx hb dX5_looksIn_43 rfl (lv_at hl 4 rfl) ?_
          refine lv_iconst (v := 1) hx hb dX5_looksIn_44 (by decide) ?_
          refine lv_aload_n hx hb dX5_looksIn_45 rfl (lv_at hl 2 rfl) ?_
          refine lv_iload hx hb dX5_looksIn_46 (lv_at hl 0 rfl) ?_
          obtain ⟨r8, h7, hd⟩ := bp_e hd
          refine cVi_ (rest := [.int 1, .int x3]) X (kX5_levelOf l Dd Y ad F ((r6 - x4) + 1) r8 h7) (cwV 1 X.1.2.2.2.2 gX5_looksIn_X5_levelOf rfl rfl rfl (by decide +kernel) ⟨Nat.le_of_ble_eq_true rfl, Nat.le_of_ble_eq_true rfl⟩) hW 0 5 rfl rfl rfl rfl hl.1 rfl (Nat.le_of_ble_eq_true rfl) dX5_looksIn_48 ⟨Nat.zero_le _, Nat.zero_le _⟩ (fun H locs hW => ?_)
          refine lv_ishl hx hb dX5_looksIn_51 ?_
          refine lv_iload hx hb dX5_looksIn_52 (lv_at hl 0 rfl) ?_
          refine lv_icmp_ne (tgt := 61) hx hb dX5_looksIn_54 (by decide) (fun c9 => ?_) (fun c9 => ?_)
          · replace hd := if_f c9 hd
            refine lv_iconst (v := 2) hx hb dX5_looksIn_61 (by decide) ?_
            refine lv_iadd hx hb dX5_looksIn_62 ?_
            refine lv_istore_n (lv' := [(3, .int (x3 + 2)), (6, .int ((r6 - x4) + 1)), (5, .int r6), (0, .ref (ad 0)), (2, .int x2), (4, .int x4)]) hx hb dX5_looksIn_63 rfl hl (by decide) rfl (fun ls hl => ?_)
            refine lv_iload hx hb dX5_looksIn_64 (lv_at hl 2 rfl) ?_
            refine lv_iconst (v := 1) hx hb dX5_looksIn_66 (by decide) ?_
            refine lv_iadd hx hb dX5_looksIn_67 ?_
            refine lv_istore (lv' := [(4, .int (r6 + 1)), (3, .int (x3 + 2)), (6, .int ((r6 - x4) + 1)), (5, .int r6), (0, .ref (ad 0)), (2, .int x2)]) hx hb dX5_looksIn_68 hl (by decide) rfl (fun ls hl => ?_)
            refine lv_goto (tgt := 5) hx hb dX5_looksIn_70 (by decide) ?_
            exact ih (x3 + 2) (r6 + 1) z hd _ _ _ hW (lv_sub hl [4, 5, 1, 0] rfl) kx0
          · replace hd := if_t c9 hd
            refine lv_iconst (v := 1) hx hb dX5_looksIn_57 (by decide) ?_
            refine lv_goto (tgt := 62) hx hb dX5_looksIn_58 (by decide) ?_
            refine lv_iadd hx hb dX5_looksIn_62 ?_
            refine lv_istore_n (lv' := [(3, .int (x3 + 1)), (6, .int ((r6 - x4) + 1)), (5, .int r6), (0, .ref (ad 0)), (2, .int x2), (4, .int x4)]) hx hb dX5_looksIn_63 rfl hl (by decide) rfl (fun ls hl => ?_)
            refine lv_iload hx hb dX5_looksIn_64 (lv_at hl 2 rfl) ?_
            refine lv_iconst (v := 1) hx hb dX5_looksIn_66 (by decide) ?_
            refine lv_iadd hx hb dX5_looksIn_67 ?_
            refine lv_istore (lv' := [(4, .int (r6 + 1)), (3, .int (x3 + 1)), (6, .int ((r6 - x4) + 1)), (5, .int r6), (0, .ref (ad 0)), (2, .int x2)]) hx hb dX5_looksIn_68 hl (by decide) rfl (fun ls hl => ?_)
            refine lv_goto (tgt := 5) hx hb dX5_looksIn_70 (by decide) ?_
            exact ih (x3 + 1) (r6 + 1) z hd _ _ _ hW (lv_sub hl [4, 5, 1, 0] rfl) kx0
        · replace hd := if_f c4 hd
          refine lv_iload hx hb dX5_looksIn_20 (lv_at hl 3 rfl) ?_
          refine lv_goto (tgt := 32) hx hb dX5_looksIn_22 (by decide) ?_
          refine lv_istore (lv' := [(5, .int x4), (0, .ref (ad 0)), (2, .int x2), (3, .int x3), (4, .int x4)]) hx hb dX5_looksIn_32 hl (by decide) rfl (fun ls hl => ?_)
          refine lv_iload hx hb dX5_looksIn_34 (lv_at hl 0 rfl) ?_
          refine lv_iload hx hb dX5_looksIn_36 (lv_at hl 4 rfl) ?_
          refine lv_isub hx hb dX5_looksIn_38 ?_
          refine lv_iconst (v := 1) hx hb dX5_looksIn_39 (by decide) ?_
          refine lv_iadd hx hb dX5_looksIn_40 ?_
          refine lv_istore (lv' := [(6, .int ((x4 - x4) + 1)), (5, .int x4), (0, .ref (ad 0)), (2, .int x2), (3, .int x3), (4, .int x4)]) hx hb dX5_looksIn_41 hl (by decide) rfl (fun ls hl => ?_)
          refine lv_iload_n hx hb dX5_looksIn_43 rfl (lv_at hl 4 rfl) ?_
          refine lv_iconst (v := 1) hx hb dX5_looksIn_44 (by decide) ?_
          refine lv_aload_n hx hb dX5_looksIn_45 rfl (lv_at hl 2 rfl) ?_
          refine lv_iload hx hb dX5_looksIn_46 (lv_at hl 0 rfl) ?_
          obtain ⟨r11, h10, hd⟩ := bp_e hd
          refine cVi_ (rest := [.int 1, .int x3]) X (kX5_levelOf l Dd Y ad F ((x4 - x4) + 1) r11 h10) (cwV 1 X.1.2.2.2.2 gX5_looksIn_X5_levelOf rfl rfl rfl (by decide +kernel) ⟨Nat.le_of_ble_eq_true rfl, Nat.le_of_ble_eq_true rfl⟩) hW 0 5 rfl rfl rfl rfl hl.1 rfl (Nat.le_of_ble_eq_true rfl) dX5_looksIn_48 ⟨Nat.zero_le _, Nat.zero_le _⟩ (fun H locs hW => ?_)
          refine lv_ishl hx hb dX5_looksIn_51 ?_
          refine lv_iload hx hb dX5_looksIn_52 (lv_at hl 0 rfl) ?_
          refine lv_icmp_ne (tgt := 61) hx hb dX5_looksIn_54 (by decide) (fun c12 => ?_) (fun c12 => ?_)
          · replace hd := if_f c12 hd
            refine lv_iconst (v := 2) hx hb dX5_looksIn_61 (by decide) ?_
            refine lv_iadd hx hb dX5_looksIn_62 ?_
            refine lv_istore_n (lv' := [(3, .int (x3 + 2)), (6, .int ((x4 - x4) + 1)), (5, .int x4), (0, .ref (ad 0)), (2, .int x2), (4, .int x4)]) hx hb dX5_looksIn_63 rfl hl (by decide) rfl (fun ls hl => ?_)
            refine lv_iload hx hb dX5_looksIn_64 (lv_at hl 2 rfl) ?_
            refine lv_iconst (v := 1) hx hb dX5_looksIn_66 (by decide) ?_
            refine lv_iadd hx hb dX5_looksIn_67 ?_
            refine lv_istore (lv' := [(4, .int (x4 + 1)), (3, .int (x3 + 2)), (6, .int ((x4 - x4) + 1)), (5, .int x4), (0, .ref (ad 0)), (2, .int x2)]) hx hb dX5_looksIn_68 hl (by decide) rfl (fun ls hl => ?_)
            refine lv_goto (tgt := 5) hx hb dX5_looksIn_70 (by decide) ?_
            exact ih (x3 + 2) (x4 + 1) z hd _ _ _ hW (lv_sub hl [4, 5, 1, 0] rfl) kx0
          · replace hd := if_t c12 hd
            refine lv_iconst (v := 1) hx hb dX5_looksIn_57 (by decide) ?_
            refine lv_goto (tgt := 62) hx hb dX5_looksIn_58 (by decide) ?_
            refine lv_iadd hx hb dX5_looksIn_62 ?_
            refine lv_istore_n (lv' := [(3, .int (x3 + 1)), (6, .int ((x4 - x4) + 1)), (5, .int x4), (0, .ref (ad 0)), (2, .int x2), (4, .int x4)]) hx hb dX5_looksIn_63 rfl hl (by decide) rfl (fun ls hl => ?_)
            refine lv_iload hx hb dX5_looksIn_64 (lv_at hl 2 rfl) ?_
            refine lv_iconst (v := 1) hx hb dX5_looksIn_66 (by decide) ?_
            refine lv_iadd hx hb dX5_looksIn_67 ?_
            refine lv_istore (lv' := [(4, .int (x4 + 1)), (3, .int (x3 + 1)), (6, .int ((x4 - x4) + 1)), (5, .int x4), (0, .ref (ad 0)), (2, .int x2)]) hx hb dX5_looksIn_68 hl (by decide) rfl (fun ls hl => ?_)
            refine lv_goto (tgt := 5) hx hb dX5_looksIn_70 (by decide) ?_
            exact ih (x3 + 1) (x4 + 1) z hd _ _ _ hW (lv_sub hl [4, 5, 1, 0] rfl) kx0
  refine lv_iconst (v := 0) hx hb dX5_looksIn_0 (by decide) ?_
  refine lv_istore_n (lv' := [(3, .int 0), (0, .ref (ad 0)), (1, .int x1), (2, .int x2)]) hx hb dX5_looksIn_1 rfl hl (by decide) rfl (fun ls hl => ?_)
  refine lv_iload_n hx hb dX5_looksIn_2 rfl (lv_at hl 2 rfl) ?_
  refine lv_istore (lv' := [(4, .int x1), (3, .int 0), (0, .ref (ad 0)), (1, .int x1), (2, .int x2)]) hx hb dX5_looksIn_3 hl (by decide) rfl (fun ls hl => ?_)
  obtain ⟨z5_12, hz5_12, hd⟩ := bp_e hd
  refine K5 F x2 FU 0 x1 z5_12 hz5_12 _ _ _ hW (lv_sub hl [2, 4, 1, 0] rfl) (fun H locs ls e5 hW hl => ?_)
  refine lv_iload_n hx hb dX5_looksIn_73 rfl (lv_at hl 0 rfl) ?_
  have hd := Option.some.inj hd
  subst hd
  exact hQ _ _ _ _ rfl hW dX5_looksIn_74
abbrev rmX5_toldBy : Room := { frames := 1, cells := 0, slots := 0, locals := 21 }
set_option maxRecDepth 100000 in
set_option maxHeartbeats 4000000 in
theorem kX5_toldBy (l : Launch) (Dd : va_G) (Y : yT) (ad : Nat → Nat) (F : gF) (x1 : Int32) (x2 : Int32) (r : Int32) (hd : dnX5_toldBy F x1 x2 = some r) : MG l yX5_toldBy wsX5_toldBy rmX5_toldBy Dd Y [.ref (ad 0), .int x1, .int x2] (WM Y ad F) (WM Y ad F) (some (.int r)) := by
  refine MGi (cc := cX5_toldBy) (maxL := 3) (ty := .int) (by decide) rfl (Nat.le_of_ble_eq_true rfl) (fun {p e s m args below meth c A} ls Q X hW hl hQ => ?_)
  have hx := X.x
  have hb := X.b
  have hl : lv_has ls 3 [(0, .ref (ad 0)), (1, .int x1), (2, .int x2)] := hl
  unfold dnX5_toldBy at hd
  refine lv_iload_n hx hb dX5_toldBy_0 rfl (lv_at hl 1 rfl) ?_
  refine lv_if_ne (tgt := 8) hx hb dX5_toldBy_1 (by decide) (fun c1 => ?_) (fun c1 => ?_)
  · replace hd := if_f c1 hd
    refine lv_aload_n hx hb dX5_toldBy_8 rfl (lv_at hl 0 rfl) ?_
    refine lv_iload_n hx hb dX5_toldBy_9 rfl (lv_at hl 1 rfl) ?_
    refine lv_iload_n hx hb dX5_toldBy_10 rfl (lv_at hl 2 rfl) ?_
    obtain ⟨r3, h2, hd⟩ := bp_e hd
    refine cSi_ (rest := [.ref (ad 0)]) X (kX5_cellAt l Dd Y x1 x2 r3 h2) (va_cwS 2 X.1.2.2.2.2 gX5_toldBy_X5_cellAt rfl rfl rfl (by decide +kernel) ⟨Nat.le_of_ble_eq_true rfl, Nat.le_of_ble_eq_true rfl⟩) hW rfl hl.1 rfl (Nat.le_of_ble_eq_true rfl) dX5_toldBy_11 ⟨Nat.zero_le _, Nat.zero_le _⟩ (fun H locs hW => ?_)
    obtain ⟨r5, h4, hd⟩ := bp_e hd
    refine cVi_ (rest := []) X (kX5_get l Dd Y ad F r3 r5 h4) (cwV 1 X.1.2.2.2.2 gX5_toldBy_X5_get rfl rfl rfl (by decide +kernel) ⟨Nat.le_of_ble_eq_true rfl, Nat.le_of_ble_eq_true rfl⟩) hW 0 5 rfl rfl rfl rfl hl.1 rfl (Nat.le_of_ble_eq_true rfl) dX5_toldBy_14 ⟨Nat.zero_le _, Nat.zero_le _⟩ (fun H locs hW => ?_)
    have hd := Option.some.inj hd
    subst hd
    exact hQ _ _ _ _ rfl hW dX5_toldBy_17
  · replace hd := if_t c1 hd
    refine lv_iload_n hx hb dX5_toldBy_4 rfl (lv_at hl 2 rfl) ?_
    refine lv_goto (tgt := 17) hx hb dX5_toldBy_5 (by decide) ?_
    have hd := Option.some.inj hd
    subst hd
    exact hQ _ _ _ _ rfl hW dX5_toldBy_17
abbrev rmX5_lesser : Room := { frames := 2, cells := 0, slots := 0, locals := 42 }
set_option maxRecDepth 100000 in
set_option maxHeartbeats 4000000 in
theorem kX5_lesser (l : Launch) (Dd : va_G) (Y : yT) (ad : Nat → Nat) (F : gF) (x1 : Int32) (x2 : Int32) (r : Int32) (hd : dnX5_lesser F x1 x2 = some r) : MG l yX5_lesser wsX5_lesser rmX5_lesser Dd Y [.ref (ad 0), .int x1, .int x2] (WM Y ad F) (WM Y ad F) (some (.int r)) := by
  refine MGi (cc := cX5_lesser) (maxL := 3) (ty := .int) (by decide) rfl (Nat.le_of_ble_eq_true rfl) (fun {p e s m args below meth c A} ls Q X hW hl hQ => ?_)
  have hx := X.x
  have hb := X.b
  have hl : lv_has ls 3 [(0, .ref (ad 0)), (1, .int x1), (2, .int x2)] := hl
  unfold dnX5_lesser at hd
  refine lv_iload_n hx hb dX5_lesser_0 rfl (lv_at hl 1 rfl) ?_
  refine lv_iconst (v := (-1)) hx hb dX5_lesser_1 (by decide) ?_
  refine lv_icmp_eq (tgt := 18) hx hb dX5_lesser_2 (by decide) (fun c1 => ?_) (fun c1 => ?_)
  · replace hd := if_t c1 hd
    refine lv_iload_n hx hb dX5_lesser_18 rfl (lv_at hl 2 rfl) ?_
    refine lv_goto (tgt := 23) hx hb dX5_lesser_19 (by decide) ?_
    have hd := Option.some.inj hd
    subst hd
    exact hQ _ _ _ _ rfl hW dX5_lesser_23
  · replace hd := if_f c1 hd
    refine lv_aload_n hx hb dX5_lesser_5 rfl (lv_at hl 0 rfl) ?_
    refine lv_iload_n hx hb dX5_lesser_6 rfl (lv_at hl 2 rfl) ?_
    obtain ⟨r3, h2, hd⟩ := bp_e hd
    refine cVi_ (rest := []) X (kX5_valueAt l Dd Y ad F x2 r3 h2) (cwV 1 X.1.2.2.2.2 gX5_lesser_X5_valueAt rfl rfl rfl (by decide +kernel) ⟨Nat.le_of_ble_eq_true rfl, Nat.le_of_ble_eq_true rfl⟩) hW 0 5 rfl rfl rfl rfl hl.1 rfl (Nat.le_of_ble_eq_true rfl) dX5_lesser_7 ⟨Nat.zero_le _, Nat.zero_le _⟩ (fun H locs hW => ?_)
    refine lv_aload_n hx hb dX5_lesser_10 rfl (lv_at hl 0 rfl) ?_
    refine lv_iload_n hx hb dX5_lesser_11 rfl (lv_at hl 1 rfl) ?_
    obtain ⟨r5, h4, hd⟩ := bp_e hd
    refine cVi_ (rest := [.int r3]) X (kX5_valueAt l Dd Y ad F x1 r5 h4) (cwV 1 X.1.2.2.2.2 gX5_lesser_X5_valueAt rfl rfl rfl (by decide +kernel) ⟨Nat.le_of_ble_eq_true rfl, Nat.le_of_ble_eq_true rfl⟩) hW 0 5 rfl rfl rfl rfl hl.1 rfl (Nat.le_of_ble_eq_true rfl) dX5_lesser_12 ⟨Nat.zero_le _, Nat.zero_le _⟩ (fun H locs hW => ?_)
    refine lv_icmp_ge (tgt := 22) hx hb dX5_lesser_15 (by decide) (fun c6 => ?_) (fun c6 => ?_)
    · replace hd := if_t c6 hd
      refine lv_iload_n hx hb dX5_lesser_22 rfl (lv_at hl 1 rfl) ?_
      have hd := Option.some.inj hd
      subst hd
      exact hQ _ _ _ _ rfl hW dX5_lesser_23
    · replace hd := if_f c6 hd
      refine lv_iload_n hx hb dX5_lesser_18 rfl (lv_at hl 2 rfl) ?_
      refine lv_goto (tgt := 23) hx hb dX5_lesser_19 (by decide) ?_
      have hd := Option.some.inj hd
      subst hd
      exact hQ _ _ _ _ rfl hW dX5_lesser_23
abbrev rmX5_asks : Room := { frames := 5, cells := 0, slots := 0, locals := 110 }
set_option maxRecDepth 100000 in
set_option maxHeartbeats 4000000 in
theorem kX5_asks (l : Launch) (Dd : va_G) (Y : yT) (ad : Nat → Nat) (F : gF) (x1 : Int32) (x2 : Int32) (r : Int32) (F' : gF) (hd : dnX5_asks F x1 x2 = some (r, F')) : MG l yX5_asks wsX5_asks rmX5_asks Dd Y [.ref (ad 0), .int x1, .int x2] (WM Y ad F) (WM Y ad F') (some (.int r)) := by
  refine MGi (cc := cX5_asks) (maxL := 7) (ty := .int) (by decide) rfl (Nat.le_of_ble_eq_true rfl) (fun {p e s m args below meth c A} ls Q X hW hl hQ => ?_)
  have hx := X.x
  have hb := X.b
  have hl : lv_has ls 7 [(0, .ref (ad 0)), (1, .int x1), (2, .int x2)] := hl
  unfold dnX5_asks at hd
  have K43 : ∀ (F : gF) (x2 : Int32) (n : Nat) (x3 : Int32) (x4 : Int32) (z : Nat × Int32), lpX5_asks_43 F x2 n x3 x4 = some z → ∀ (H : Heap) (locs : List Loc) (ls : Array Slot), Wd Dd A s.heap (WM Y ad F) H locs → lv_has ls 7 [(0, .ref (ad 0)), (2, .int x2), (3, .int x3), (4, .int x4)] → (∀ (H : Heap) (locs : List Loc) (ls : Array Slot), z.1 = 0 → Wd Dd A s.heap (WM Y ad F) H locs → lv_has ls 7 [(3, .int z.2)] → W p l e rmX5_asks s m args below meth c H locs 0 0 Q (F0 m 129 ls [])) → W p l e rmX5_asks s m args below meth c H locs 0 0 Q (F0 m 43 ls []) := by
    intro F x2 n
    induction n with
    | zero => intro x3 x4 z hd; cases hd
    | succ n ih =>
      intro x3 x4 z hd H locs ls hW hl kx0
      unfold lpX5_asks_43 at hd
      refine lv_iload hx hb dX5_asks_43 (lv_at hl 3 rfl) ?_
      refine lv_iload_n hx hb dX5_asks_45 rfl (lv_at hl 1 rfl) ?_
      refine lv_icmp_gt (tgt := 129) hx hb dX5_asks_46 (by decide) (fun c1 => ?_) (fun c1 => ?_)
      · replace hd := if_t c1 hd
        cases hd
        exact kx0 _ _ _ rfl hW (lv_sub hl [2] rfl)
      · replace hd := if_f c1 hd
        refine lv_aload_n hx hb dX5_asks_49 rfl (lv_at hl 0 rfl) ?_
        refine lv_iload hx hb dX5_asks_50 (lv_at hl 3 rfl) ?_
        obtain ⟨r3, h2, hd⟩ := bp_e hd
        refine cVi_ (rest := []) X (kX5_isWaiting l Dd Y ad F x4 r3 h2) (cwV 1 X.1.2.2.2.2 gX5_asks_X5_isWaiting rfl rfl rfl (by decide +kernel) ⟨Nat.le_of_ble_eq_true rfl, Nat.le_of_ble_eq_true rfl⟩) hW 0 5 rfl rfl rfl rfl hl.1 rfl (Nat.le_of_ble_eq_true rfl) dX5_asks_52 ⟨Nat.zero_le _, Nat.zero_le _⟩ (fun H locs hW => ?_)
        refine lv_if_eq (tgt := 63) hx hb dX5_asks_55 (by decide) (fun c4 => ?_) (fun c4 => ?_)
        · replace hd := if_t c4 hd
          refine lv_aload_n hx hb dX5_asks_63 rfl (lv_at hl 0 rfl) ?_
          refine lv_iload hx hb dX5_asks_64 (lv_at hl 3 rfl) ?_
          refine lv_iload_n hx hb dX5_asks_66 rfl (lv_at hl 1 rfl) ?_
          obtain ⟨r6, h5, hd⟩ := bp_e hd
          refine cVi_ (rest := []) X (kX5_runEnd l Dd Y ad F x4 x2 r6 h5) (cwV 2 X.1.2.2.2.2 gX5_asks_X5_runEnd rfl rfl rfl (by decide +kernel) ⟨Nat.le_of_ble_eq_true rfl, Nat.le_of_ble_eq_true rfl⟩) hW 0 5 rfl rfl rfl rfl hl.1 rfl (Nat.le_of_ble_eq_true rfl) dX5_asks_67 ⟨Nat.zero_le _, Nat.zero_le _⟩ (fun H locs hW => ?_)
          refine lv_istore (lv' := [(5, .int r6), (0, .ref (ad 0)), (2, .int x2), (3, .int x3), (4, .int x4)]) hx hb dX5_asks_70 hl (by decide) rfl (fun ls hl => ?_)
          refine lv_aload_n hx hb dX5_asks_72 rfl (lv_at hl 1 rfl) ?_
          refine lv_iload hx hb dX5_asks_73 (lv_at hl 0 rfl) ?_
          refine lv_iload hx hb dX5_asks_75 (lv_at hl 4 rfl) ?_
          refine lv_isub hx hb dX5_asks_77 ?_
          refine lv_iconst (v := 1) hx hb dX5_asks_78 (by decide) ?_
          refine lv_iadd hx hb dX5_asks_79 ?_
          obtain ⟨r8, h7, hd⟩ := bp_e hd
          refine cVi_ (rest := []) X (kX5_levelOf l Dd Y ad F ((r6 - x4) + 1) r8 h7) (cwV 1 X.1.2.2.2.2 gX5_asks_X5_levelOf rfl rfl rfl (by decide +kernel) ⟨Nat.le_of_ble_eq_true rfl, Nat.le_of_ble_eq_true rfl⟩) hW 0 5 rfl rfl rfl rfl hl.1 rfl (Nat.le_of_ble_eq_true rfl) dX5_asks_80 ⟨Nat.zero_le _, Nat.zero_le _⟩ (fun H locs hW => ?_)
          refine lv_istore (lv' := [(6, .int r8), (5, .int r6), (0, .ref (ad 0)), (2, .int x2), (3, .int x3), (4, .int x4)]) hx hb dX5_asks_83 hl (by decide) rfl (fun ls hl => ?_)
          refine lv_aload_n hx hb dX5_asks_85 rfl (lv_at hl 2 rfl) ?_
          refine lv_iload_n hx hb dX5_asks_86 rfl (lv_at hl 4 rfl) ?_
          refine lv_aload_n hx hb dX5_asks_87 rfl (lv_at hl 2 rfl) ?_
          refine lv_iload hx hb dX5_asks_88 (lv_at hl 0 rfl) ?_
          refine lv_iload hx hb dX5_asks_90 (lv_at hl 5 rfl) ?_
          obtain ⟨r10, h9, hd⟩ := bp_e hd
          refine cVi_ (rest := [.int x3, .ref (ad 0)]) X (kX5_toldBy l Dd Y ad F r8 x4 r10 h9) (cwV 2 X.1.2.2.2.2 gX5_asks_X5_toldBy rfl rfl rfl (by decide +kernel) ⟨Nat.le_of_ble_eq_true rfl, Nat.le_of_ble_eq_true rfl⟩) hW 0 5 rfl rfl rfl rfl hl.1 rfl (Nat.le_of_ble_eq_true rfl) dX5_asks_92 ⟨Nat.zero_le _, Nat.zero_le _⟩ (fun H locs hW => ?_)
          obtain ⟨r12, h11, hd⟩ := bp_e hd
          refine cVi_ (rest := []) X (kX5_lesser l Dd Y ad F x3 r10 r12 h11) (cwV 2 X.1.2.2.2.2 gX5_asks_X5_lesser rfl rfl rfl (by decide +kernel) ⟨Nat.le_of_ble_eq_true rfl, Nat.le_of_ble_eq_true rfl⟩) hW 0 5 rfl rfl rfl rfl hl.1 rfl (Nat.le_of_ble_eq_true rfl) dX5_asks_95 ⟨Nat.zero_le _, Nat.zero_le _⟩ (fun H locs hW => ?_)
          refine lv_istore_n (lv' := [(3, .int r12), (6, .int r8), (5, .int r6), (0, .ref (ad 0)), (2, .int x2), (4, .int x4)]) hx hb dX5_asks_98 rfl hl (by decide) rfl (fun ls hl => ?_)
          refine lv_aload_n hx hb dX5_asks_99 rfl (lv_at hl 3 rfl) ?_
          refine lv_iload_n hx hb dX5_asks_100 rfl (lv_at hl 0 rfl) ?_
          refine lv_aload_n hx hb dX5_asks_101 rfl (lv_at hl 3 rfl) ?_
          refine lv_iload hx hb dX5_asks_102 (lv_at hl 1 rfl) ?_
          refine lv_iload hx hb dX5_asks_104 (lv_at hl 2 rfl) ?_
          refine lv_iconst (v := 1) hx hb dX5_asks_106 (by decide) ?_
          refine lv_iload hx hb dX5_asks_107 (lv_at hl 1 rfl) ?_
          refine lv_ishl hx hb dX5_asks_109 ?_
          refine lv_isub hx hb dX5_asks_110 ?_
          refine lv_iconst (v := 1) hx hb dX5_asks_111 (by decide) ?_
          refine lv_iadd hx hb dX5_asks_112 ?_
          obtain ⟨r14, h13, hd⟩ := bp_e hd
          refine cVi_ (rest := [.int r12, .ref (ad 0)]) X (kX5_toldBy l Dd Y ad F r8 ((r6 - ((1 : Int32) <<< (r8 &&& 31))) + 1) r14 h13) (cwV 2 X.1.2.2.2.2 gX5_asks_X5_toldBy rfl rfl rfl (by decide +kernel) ⟨Nat.le_of_ble_eq_true rfl, Nat.le_of_ble_eq_true rfl⟩) hW 0 5 rfl rfl rfl rfl hl.1 rfl (Nat.le_of_ble_eq_true rfl) dX5_asks_113 ⟨Nat.zero_le _, Nat.zero_le _⟩ (fun H locs hW => ?_)
          obtain ⟨r16, h15, hd⟩ := bp_e hd
          refine cVi_ (rest := []) X (kX5_lesser l Dd Y ad F r12 r14 r16 h15) (cwV 2 X.1.2.2.2.2 gX5_asks_X5_lesser rfl rfl rfl (by decide +kernel) ⟨Nat.le_of_ble_eq_true rfl, Nat.le_of_ble_eq_true rfl⟩) hW 0 5 rfl rfl rfl rfl hl.1 rfl (Nat.le_of_ble_eq_true rfl) dX5_asks_116 ⟨Nat.zero_le _, Nat.zero_le _⟩ (fun H locs hW => ?_)
          refine lv_istore_n (lv' := [(3, .int r16), (6, .int r8), (5, .int r6), (0, .ref (ad 0)), (2, .int x2), (4, .int x4)]) hx hb dX5_asks_119 rfl hl (by decide) rfl (fun ls hl => ?_)
          refine lv_iload hx hb dX5_asks_120 (lv_at hl 2 rfl) ?_
          refine lv_iconst (v := 1) hx hb dX5_asks_122 (by decide) ?_
          refine lv_iadd hx hb dX5_asks_123 ?_
          refine lv_istore (lv' := [(4, .int (r6 + 1)), (3, .int r16), (6, .int r8), (5, .int r6), (0, .ref (ad 0)), (2, .int x2)]) hx hb dX5_asks_124 hl (by decide) rfl (fun ls hl => ?_)
          refine lv_goto (tgt := 43) hx hb dX5_asks_126 (by decide) ?_
          exact ih r16 (r6 + 1) z hd _ _ _ hW (lv_sub hl [4, 5, 1, 0] rfl) kx0
        · replace hd := if_f c4 hd
          refine lv_iload hx hb dX5_asks_58 (lv_at hl 3 rfl) ?_
          refine lv_goto (tgt := 70) hx hb dX5_asks_60 (by decide) ?_
          refine lv_istore (lv' := [(5, .int x4), (0, .ref (ad 0)), (2, .int x2), (3, .int x3), (4, .int x4)]) hx hb dX5_asks_70 hl (by decide) rfl (fun ls hl => ?_)
          refine lv_aload_n hx hb dX5_asks_72 rfl (lv_at hl 1 rfl) ?_
          refine lv_iload hx hb dX5_asks_73 (lv_at hl 0 rfl) ?_
          refine lv_iload hx hb dX5_asks_75 (lv_at hl 4 rfl) ?_
          refine lv_isub hx hb dX5_asks_77 ?_
          refine lv_iconst (v := 1) hx hb dX5_asks_78 (by decide) ?_
          refine lv_iadd hx hb dX5_asks_79 ?_
          obtain ⟨r18, h17, hd⟩ := bp_e hd
          refine cVi_ (rest := []) X (kX5_levelOf l Dd Y ad F ((x4 - x4) + 1) r18 h17) (cwV 1 X.1.2.2.2.2 gX5_asks_X5_levelOf rfl rfl rfl (by decide +kernel) ⟨Nat.le_of_ble_eq_true rfl, Nat.le_of_ble_eq_true rfl⟩) hW 0 5 rfl rfl rfl rfl hl.1 rfl (Nat.le_of_ble_eq_true rfl) dX5_asks_80 ⟨Nat.zero_le _, Nat.zero_le _⟩ (fun H locs hW => ?_)
          refine lv_istore (lv' := [(6, .int r18), (5, .int x4), (0, .ref (ad 0)), (2, .int x2), (3, .int x3), (4, .int x4)]) hx hb dX5_asks_83 hl (by decide) rfl (fun ls hl => ?_)
          refine lv_aload_n hx hb dX5_asks_85 rfl (lv_at hl 2 rfl) ?_
          refine lv_iload_n hx hb dX5_asks_86 rfl (lv_at hl 4 rfl) ?_
          refine lv_aload_n hx hb dX5_asks_87 rfl (lv_at hl 2 rfl) ?_
          refine lv_iload hx hb dX5_asks_88 (lv_at hl 0 rfl) ?_
          refine lv_iload hx hb dX5_asks_90 (lv_at hl 5 rfl) ?_
          obtain ⟨r20, h19, hd⟩ := bp_e hd
          refine cVi_ (rest := [.int x3, .ref (ad 0)]) X (kX5_toldBy l Dd Y ad F r18 x4 r20 h19) (cwV 2 X.1.2.2.2.2 gX5_asks_X5_toldBy rfl rfl rfl (by decide +kernel) ⟨Nat.le_of_ble_eq_true rfl, Nat.le_of_ble_eq_true rfl⟩) hW 0 5 rfl rfl rfl rfl hl.1 rfl (Nat.le_of_ble_eq_true rfl) dX5_asks_92 ⟨Nat.zero_le _, Nat.zero_le _⟩ (fun H locs hW => ?_)
          obtain ⟨r22, h21, hd⟩ := bp_e hd
          refine cVi_ (rest := []) X (kX5_lesser l Dd Y ad F x3 r20 r22 h21) (cwV 2 X.1.2.2.2.2 gX5_asks_X5_lesser rfl rfl rfl (by decide +kernel) ⟨Nat.le_of_ble_eq_true rfl, Nat.le_of_ble_eq_true rfl⟩) hW 0 5 rfl rfl rfl rfl hl.1 rfl (Nat.le_of_ble_eq_true rfl) dX5_asks_95 ⟨Nat.zero_le _, Nat.zero_le _⟩ (fun H locs hW => ?_)
          refine lv_istore_n (lv' := [(3, .int r22), (6, .int r18), (5, .int x4), (0, .ref (ad 0)), (2, .int x2), (4, .int x4)]) hx hb dX5_asks_98 rfl hl (by decide) rfl (fun ls hl => ?_)
          refine lv_aload_n hx hb dX5_asks_99 rfl (lv_at hl 3 rfl) ?_
          refine lv_iload_n hx hb dX5_asks_100 rfl (lv_at hl 0 rfl) ?_
          refine lv_aload_n hx hb dX5_asks_101 rfl (lv_at hl 3 rfl) ?_
          refine lv_iload hx hb dX5_asks_102 (lv_at hl 1 rfl) ?_
          refine lv_iload hx hb dX5_asks_104 (lv_at hl 2 rfl) ?_
          refine lv_iconst (v := 1) hx hb dX5_asks_106 (by decide) ?_
          refine lv_iload hx hb dX5_asks_107 (lv_at hl 1 rfl) ?_
          refine lv_ishl hx hb dX5_asks_109 ?_
          refine lv_isub hx hb dX5_asks_110 ?_
          refine lv_iconst (v := 1) hx hb dX5_asks_111 (by decide) ?_
          refine lv_iadd hx hb dX5_asks_112 ?_
          obtain ⟨r24, h23, hd⟩ := bp_e hd
          refine cVi_ (rest := [.int r22, .ref (ad 0)]) X (kX5_toldBy l Dd Y ad F r18 ((x4 - ((1 : Int32) <<< (r18 &&& 31))) + 1) r24 h23) (cwV 2 X.1.2.2.2.2 gX5_asks_X5_toldBy rfl rfl rfl (by decide +kernel) ⟨Nat.le_of_ble_eq_true rfl, Nat.le_of_ble_eq_true rfl⟩) hW 0 5 rfl rfl rfl rfl hl.1 rfl (Nat.le_of_ble_eq_true rfl) dX5_asks_113 ⟨Nat.zero_le _, Nat.zero_le _⟩ (fun H locs hW => ?_)
          obtain ⟨r26, h25, hd⟩ := bp_e hd
          refine cVi_ (rest := []) X (kX5_lesser l Dd Y ad F r22 r24 r26 h25) (cwV 2 X.1.2.2.2.2 gX5_asks_X5_lesser rfl rfl rfl (by decide +kernel) ⟨Nat.le_of_ble_eq_true rfl, Nat.le_of_ble_eq_true rfl⟩) hW 0 5 rfl rfl rfl rfl hl.1 rfl (Nat.le_of_ble_eq_true rfl) dX5_asks_116 ⟨Nat.zero_le _, Nat.zero_le _⟩ (fun H locs hW => ?_)
          refine lv_istore_n (lv' := [(3, .int r26), (6, .int r18), (5, .int x4), (0, .ref (ad 0)), (2, .int x2), (4, .int x4)]) hx hb dX5_asks_119 rfl hl (by decide) rfl (fun ls hl => ?_)
          refine lv_iload hx hb dX5_asks_120 (lv_at hl 2 rfl) ?_
          refine lv_iconst (v := 1) hx hb dX5_asks_122 (by decide) ?_
          refine lv_iadd hx hb dX5_asks_123 ?_
          refine lv_istore (lv' := [(4, .int (x4 + 1)), (3, .int r26), (6, .int r18), (5, .int x4), (0, .ref (ad 0)), (2, .int x2)]) hx hb dX5_asks_124 hl (by decide) rfl (fun ls hl => ?_)
          refine lv_goto (tgt := 43) hx hb dX5_asks_126 (by decide) ?_
          exact ih r26 (x4 + 1) z hd _ _ _ hW (lv_sub hl [4, 5, 1, 0] rfl) kx0
  refine lv_aload_n hx hb dX5_asks_0 rfl (lv_at hl 0 rfl) ?_
  refine lv_iconst (v := 1) hx hb dX5_asks_1 (by decide) ?_
  obtain ⟨r28, h27, hd⟩ := bp_e hd
  refine cVi_ (rest := []) X (kX5_get l Dd Y ad F 1 r28 h27) (cwV 1 X.1.2.2.2.2 gX5_asks_X5_get rfl rfl rfl (by decide +kernel) ⟨Nat.le_of_ble_eq_true rfl, Nat.le_of_ble_eq_true rfl⟩) hW 0 5 rfl rfl rfl rfl hl.1 rfl (Nat.le_of_ble_eq_true rfl) dX5_asks_2 ⟨Nat.zero_le _, Nat.zero_le _⟩ (fun H locs hW => ?_)
  refine lv_if_ne (tgt := 19) hx hb dX5_asks_5 (by decide) (fun c29 => ?_) (fun c29 => ?_)
  · replace hd := if_f c29 hd
    refine lv_aload_n hx hb dX5_asks_19 rfl (lv_at hl 0 rfl) ?_
    refine lv_bipush (v := 9) hx hb dX5_asks_20 (by decide) ?_
    refine lv_iconst (v := 1) hx hb dX5_asks_22 (by decide) ?_
    obtain ⟨F31, h30, hd⟩ := bp_e hd
    refine cVv_ (rest := []) X (kX5_adds l Dd Y ad F 9 1 F31 h30) (cwV 2 X.1.2.2.2.2 gX5_asks_X5_adds rfl rfl rfl (by decide +kernel) ⟨Nat.le_of_ble_eq_true rfl, Nat.le_of_ble_eq_true rfl⟩) hW 0 5 rfl rfl rfl rfl hl.1 rfl (Nat.le_of_ble_eq_true rfl) dX5_asks_23 ⟨Nat.zero_le _, Nat.zero_le _⟩ (fun H locs hW => ?_)
    refine lv_aload_n hx hb dX5_asks_26 rfl (lv_at hl 0 rfl) ?_
    refine lv_bipush (v := 7) hx hb dX5_asks_27 (by decide) ?_
    refine lv_aload_n hx hb dX5_asks_29 rfl (lv_at hl 0 rfl) ?_
    refine lv_iload_n hx hb dX5_asks_30 rfl (lv_at hl 1 rfl) ?_
    refine lv_iload_n hx hb dX5_asks_31 rfl (lv_at hl 2 rfl) ?_
    obtain ⟨r33, h32, hd⟩ := bp_e hd
    refine cVi_ (rest := [.int 7, .ref (ad 0)]) X (kX5_looksIn l Dd Y ad F31 x1 x2 r33 h32) (cwV 2 X.1.2.2.2.2 gX5_asks_X5_looksIn rfl rfl rfl (by decide +kernel) ⟨Nat.le_of_ble_eq_true rfl, Nat.le_of_ble_eq_true rfl⟩) hW 0 5 rfl rfl rfl rfl hl.1 rfl (Nat.le_of_ble_eq_true rfl) dX5_asks_32 ⟨Nat.zero_le _, Nat.zero_le _⟩ (fun H locs hW => ?_)
    obtain ⟨F35, h34, hd⟩ := bp_e hd
    refine cVv_ (rest := []) X (kX5_adds l Dd Y ad F31 7 r33 F35 h34) (cwV 2 X.1.2.2.2.2 gX5_asks_X5_adds rfl rfl rfl (by decide +kernel) ⟨Nat.le_of_ble_eq_true rfl, Nat.le_of_ble_eq_true rfl⟩) hW 0 5 rfl rfl rfl rfl hl.1 rfl (Nat.le_of_ble_eq_true rfl) dX5_asks_35 ⟨Nat.zero_le _, Nat.zero_le _⟩ (fun H locs hW => ?_)
    refine lv_iconst (v := (-1)) hx hb dX5_asks_38 (by decide) ?_
    refine lv_istore_n (lv' := [(3, .int (-1)), (0, .ref (ad 0)), (1, .int x1), (2, .int x2)]) hx hb dX5_asks_39 rfl hl (by decide) rfl (fun ls hl => ?_)
    refine lv_iload_n hx hb dX5_asks_40 rfl (lv_at hl 2 rfl) ?_
    refine lv_istore (lv' := [(4, .int x1), (3, .int (-1)), (0, .ref (ad 0)), (1, .int x1), (2, .int x2)]) hx hb dX5_asks_41 hl (by decide) rfl (fun ls hl => ?_)
    obtain ⟨z43_35, hz43_35, hd⟩ := bp_e hd
    refine K43 F35 x2 FU (-1) x1 z43_35 hz43_35 _ _ _ hW (lv_sub hl [2, 4, 1, 0] rfl) (fun H locs ls e43 hW hl => ?_)
    refine lv_iload_n hx hb dX5_asks_129 rfl (lv_at hl 0 rfl) ?_
    obtain ⟨rfl, rfl⟩ := Prod.mk.inj (Option.some.inj hd)
    exact hQ _ _ _ _ rfl hW dX5_asks_130
  · replace hd := if_t c29 hd
    refine lv_aload_n hx hb dX5_asks_8 rfl (lv_at hl 0 rfl) ?_
    obtain ⟨r38, h37, hd⟩ := bp_e hd
    refine cVi_ (rest := []) X (kX5_waiting l Dd Y ad F r38 h37) (cwV 0 X.1.2.2.2.2 gX5_asks_X5_waiting rfl rfl rfl (by decide +kernel) ⟨Nat.le_of_ble_eq_true rfl, Nat.le_of_ble_eq_true rfl⟩) hW 0 5 rfl rfl rfl rfl hl.1 rfl (Nat.le_of_ble_eq_true rfl) dX5_asks_9 ⟨Nat.zero_le _, Nat.zero_le _⟩ (fun H locs hW => ?_)
    refine lv_if_le (tgt := 19) hx hb dX5_asks_12 (by decide) (fun c39 => ?_) (fun c39 => ?_)
    · replace hd := if_t c39 hd
      refine lv_aload_n hx hb dX5_asks_19 rfl (lv_at hl 0 rfl) ?_
      refine lv_bipush (v := 9) hx hb dX5_asks_20 (by decide) ?_
      refine lv_iconst (v := 1) hx hb dX5_asks_22 (by decide) ?_
      obtain ⟨F41, h40, hd⟩ := bp_e hd
      refine cVv_ (rest := []) X (kX5_adds l Dd Y ad F 9 1 F41 h40) (cwV 2 X.1.2.2.2.2 gX5_asks_X5_adds rfl rfl rfl (by decide +kernel) ⟨Nat.le_of_ble_eq_true rfl, Nat.le_of_ble_eq_true rfl⟩) hW 0 5 rfl rfl rfl rfl hl.1 rfl (Nat.le_of_ble_eq_true rfl) dX5_asks_23 ⟨Nat.zero_le _, Nat.zero_le _⟩ (fun H locs hW => ?_)
      refine lv_aload_n hx hb dX5_asks_26 rfl (lv_at hl 0 rfl) ?_
      refine lv_bipush (v := 7) hx hb dX5_asks_27 (by decide) ?_
      refine lv_aload_n hx hb dX5_asks_29 rfl (lv_at hl 0 rfl) ?_
      refine lv_iload_n hx hb dX5_asks_30 rfl (lv_at hl 1 rfl) ?_
      refine lv_iload_n hx hb dX5_asks_31 rfl (lv_at hl 2 rfl) ?_
      obtain ⟨r43, h42, hd⟩ := bp_e hd
      refine cVi_ (rest := [.int 7, .ref (ad 0)]) X (kX5_looksIn l Dd Y ad F41 x1 x2 r43 h42) (cwV 2 X.1.2.2.2.2 gX5_asks_X5_looksIn rfl rfl rfl (by decide +kernel) ⟨Nat.le_of_ble_eq_true rfl, Nat.le_of_ble_eq_true rfl⟩) hW 0 5 rfl rfl rfl rfl hl.1 rfl (Nat.le_of_ble_eq_true rfl) dX5_asks_32 ⟨Nat.zero_le _, Nat.zero_le _⟩ (fun H locs hW => ?_)
      obtain ⟨F45, h44, hd⟩ := bp_e hd
      refine cVv_ (rest := []) X (kX5_adds l Dd Y ad F41 7 r43 F45 h44) (cwV 2 X.1.2.2.2.2 gX5_asks_X5_adds rfl rfl rfl (by decide +kernel) ⟨Nat.le_of_ble_eq_true rfl, Nat.le_of_ble_eq_true rfl⟩) hW 0 5 rfl rfl rfl rfl hl.1 rfl (Nat.le_of_ble_eq_true rfl) dX5_asks_35 ⟨Nat.zero_le _, Nat.zero_le _⟩ (fun H locs hW => ?_)
      refine lv_iconst (v := (-1)) hx hb dX5_asks_38 (by decide) ?_
      refine lv_istore_n (lv' := [(3, .int (-1)), (0, .ref (ad 0)), (1, .int x1), (2, .int x2)]) hx hb dX5_asks_39 rfl hl (by decide) rfl (fun ls hl => ?_)
      refine lv_iload_n hx hb dX5_asks_40 rfl (lv_at hl 2 rfl) ?_
      refine lv_istore (lv' := [(4, .int x1), (3, .int (-1)), (0, .ref (ad 0)), (1, .int x1), (2, .int x2)]) hx hb dX5_asks_41 hl (by decide) rfl (fun ls hl => ?_)
      obtain ⟨z43_45, hz43_45, hd⟩ := bp_e hd
      refine K43 F45 x2 FU (-1) x1 z43_45 hz43_45 _ _ _ hW (lv_sub hl [2, 4, 1, 0] rfl) (fun H locs ls e43 hW hl => ?_)
      refine lv_iload_n hx hb dX5_asks_129 rfl (lv_at hl 0 rfl) ?_
      obtain ⟨rfl, rfl⟩ := Prod.mk.inj (Option.some.inj hd)
      exact hQ _ _ _ _ rfl hW dX5_asks_130
    · replace hd := if_f c39 hd
      refine lv_aload_n hx hb dX5_asks_15 rfl (lv_at hl 0 rfl) ?_
      obtain ⟨F48, h47, hd⟩ := bp_e hd
      refine cVv_ (rest := []) X (kX5_builds l Dd Y ad F F48 h47) (cwV 0 X.1.2.2.2.2 gX5_asks_X5_builds rfl rfl rfl (by decide +kernel) ⟨Nat.le_of_ble_eq_true rfl, Nat.le_of_ble_eq_true rfl⟩) hW 0 5 rfl rfl rfl rfl hl.1 rfl (Nat.le_of_ble_eq_true rfl) dX5_asks_16 ⟨Nat.zero_le _, Nat.zero_le _⟩ (fun H locs hW => ?_)
      refine lv_aload_n hx hb dX5_asks_19 rfl (lv_at hl 0 rfl) ?_
      refine lv_bipush (v := 9) hx hb dX5_asks_20 (by decide) ?_
      refine lv_iconst (v := 1) hx hb dX5_asks_22 (by decide) ?_
      obtain ⟨F50, h49, hd⟩ := bp_e hd
      refine cVv_ (rest := []) X (kX5_adds l Dd Y ad F48 9 1 F50 h49) (cwV 2 X.1.2.2.2.2 gX5_asks_X5_adds rfl rfl rfl (by decide +kernel) ⟨Nat.le_of_ble_eq_true rfl, Nat.le_of_ble_eq_true rfl⟩) hW 0 5 rfl rfl rfl rfl hl.1 rfl (Nat.le_of_ble_eq_true rfl) dX5_asks_23 ⟨Nat.zero_le _, Nat.zero_le _⟩ (fun H locs hW => ?_)
      refine lv_aload_n hx hb dX5_asks_26 rfl (lv_at hl 0 rfl) ?_
      refine lv_bipush (v := 7) hx hb dX5_asks_27 (by decide) ?_
      refine lv_aload_n hx hb dX5_asks_29 rfl (lv_at hl 0 rfl) ?_
      refine lv_iload_n hx hb dX5_asks_30 rfl (lv_at hl 1 rfl) ?_
      refine lv_iload_n hx hb dX5_asks_31 rfl (lv_at hl 2 rfl) ?_
      obtain ⟨r52, h51, hd⟩ := bp_e hd
      refine cVi_ (rest := [.int 7, .ref (ad 0)]) X (kX5_looksIn l Dd Y ad F50 x1 x2 r52 h51) (cwV 2 X.1.2.2.2.2 gX5_asks_X5_looksIn rfl rfl rfl (by decide +kernel) ⟨Nat.le_of_ble_eq_true rfl, Nat.le_of_ble_eq_true rfl⟩) hW 0 5 rfl rfl rfl rfl hl.1 rfl (Nat.le_of_ble_eq_true rfl) dX5_asks_32 ⟨Nat.zero_le _, Nat.zero_le _⟩ (fun H locs hW => ?_)
      obtain ⟨F54, h53, hd⟩ := bp_e hd
      refine cVv_ (rest := []) X (kX5_adds l Dd Y ad F50 7 r52 F54 h53) (cwV 2 X.1.2.2.2.2 gX5_asks_X5_adds rfl rfl rfl (by decide +kernel) ⟨Nat.le_of_ble_eq_true rfl, Nat.le_of_ble_eq_true rfl⟩) hW 0 5 rfl rfl rfl rfl hl.1 rfl (Nat.le_of_ble_eq_true rfl) dX5_asks_35 ⟨Nat.zero_le _, Nat.zero_le _⟩ (fun H locs hW => ?_)
      refine lv_iconst (v := (-1)) hx hb dX5_asks_38 (by decide) ?_
      refine lv_istore_n (lv' := [(3, .int (-1)), (0, .ref (ad 0)), (1, .int x1), (2, .int x2)]) hx hb dX5_asks_39 rfl hl (by decide) rfl (fun ls hl => ?_)
      refine lv_iload_n hx hb dX5_asks_40 rfl (lv_at hl 2 rfl) ?_
      refine lv_istore (lv' := [(4, .int x1), (3, .int (-1)), (0, .ref (ad 0)), (1, .int x1), (2, .int x2)]) hx hb dX5_asks_41 hl (by decide) rfl (fun ls hl => ?_)
      obtain ⟨z43_54, hz43_54, hd⟩ := bp_e hd
      refine K43 F54 x2 FU (-1) x1 z43_54 hz43_54 _ _ _ hW (lv_sub hl [2, 4, 1, 0] rfl) (fun H locs ls e43 hW hl => ?_)
      refine lv_iload_n hx hb dX5_asks_129 rfl (lv_at hl 0 rfl) ?_
      obtain ⟨rfl, rfl⟩ := Prod.mk.inj (Option.some.inj hd)
      exact hQ _ _ _ _ rfl hW dX5_asks_130
abbrev rmX5_keptFrom : Room := { frames := 1, cells := 0, slots := 0, locals := 21 }
set_option maxRecDepth 100000 in
set_option maxHeartbeats 4000000 in
theorem kX5_keptFrom (l : Launch) (Dd : va_G) (Y : yT) (ad : Nat → Nat) (F : gF) (x1 : Int32) (r : Int32) (hd : dnX5_keptFrom F x1 = some r) : MG l yX5_keptFrom wsX5_keptFrom rmX5_keptFrom Dd Y [.ref (ad 0), .int x1] (WM Y ad F) (WM Y ad F) (some (.int r)) := by
  refine MGi (cc := cX5_keptFrom) (maxL := 2) (ty := .int) (by decide) rfl (Nat.le_of_ble_eq_true rfl) (fun {p e s m args below meth c A} ls Q X hW hl hQ => ?_)
  have hx := X.x
  have hb := X.b
  have hl : lv_has ls 2 [(0, .ref (ad 0)), (1, .int x1)] := hl
  unfold dnX5_keptFrom at hd
  refine lv_aload_n hx hb dX5_keptFrom_0 rfl (lv_at hl 0 rfl) ?_
  refine lv_sipush (v := 292) hx hb dX5_keptFrom_1 (by decide) ?_
  refine lv_iconst (v := 2) hx hb dX5_keptFrom_4 (by decide) ?_
  refine lv_iload_n hx hb dX5_keptFrom_5 rfl (lv_at hl 1 rfl) ?_
  refine lv_imul hx hb dX5_keptFrom_6 ?_
  refine lv_iadd hx hb dX5_keptFrom_7 ?_
  obtain ⟨r2, h1, hd⟩ := bp_e hd
  refine cVi_ (rest := []) X (kX5_get l Dd Y ad F (292 + (2 * x1)) r2 h1) (cwV 1 X.1.2.2.2.2 gX5_keptFrom_X5_get rfl rfl rfl (by decide +kernel) ⟨Nat.le_of_ble_eq_true rfl, Nat.le_of_ble_eq_true rfl⟩) hW 0 5 rfl rfl rfl rfl hl.1 rfl (Nat.le_of_ble_eq_true rfl) dX5_keptFrom_8 ⟨Nat.zero_le _, Nat.zero_le _⟩ (fun H locs hW => ?_)
  have hd := Option.some.inj hd
  subst hd
  exact hQ _ _ _ _ rfl hW dX5_keptFrom_11
abbrev rmX5_keptTo : Room := { frames := 1, cells := 0, slots := 0, locals := 21 }
set_option maxRecDepth 100000 in
set_option maxHeartbeats 4000000 in
theorem kX5_keptTo (l : Launch) (Dd : va_G) (Y : yT) (ad : Nat → Nat) (F : gF) (x1 : Int32) (r : Int32) (hd : dnX5_keptTo F x1 = some r) : MG l yX5_keptTo wsX5_keptTo rmX5_keptTo Dd Y [.ref (ad 0), .int x1] (WM Y ad F) (WM Y ad F) (some (.int r)) := by
  refine MGi (cc := cX5_keptTo) (maxL := 2) (ty := .int) (by decide) rfl (Nat.le_of_ble_eq_true rfl) (fun {p e s m args below meth c A} ls Q X hW hl hQ => ?_)
  have hx := X.x
  have hb := X.b
  have hl : lv_has ls 2 [(0, .ref (ad 0)), (1, .int x1)] := hl
  unfold dnX5_keptTo at hd
  refine lv_aload_n hx hb dX5_keptTo_0 rfl (lv_at hl 0 rfl) ?_
  refine lv_sipush (v := 292) hx hb dX5_keptTo_1 (by decide) ?_
  refine lv_iconst (v := 2) hx hb dX5_keptTo_4 (by decide) ?_
  refine lv_iload_n hx hb dX5_keptTo_5 rfl (lv_at hl 1 rfl) ?_
  refine lv_imul hx hb dX5_keptTo_6 ?_
  refine lv_iadd hx hb dX5_keptTo_7 ?_
  refine lv_iconst (v := 1) hx hb dX5_keptTo_8 (by decide) ?_
  refine lv_iadd hx hb dX5_keptTo_9 ?_
  obtain ⟨r2, h1, hd⟩ := bp_e hd
  refine cVi_ (rest := []) X (kX5_get l Dd Y ad F ((292 + (2 * x1)) + 1) r2 h1) (cwV 1 X.1.2.2.2.2 gX5_keptTo_X5_get rfl rfl rfl (by decide +kernel) ⟨Nat.le_of_ble_eq_true rfl, Nat.le_of_ble_eq_true rfl⟩) hW 0 5 rfl rfl rfl rfl hl.1 rfl (Nat.le_of_ble_eq_true rfl) dX5_keptTo_10 ⟨Nat.zero_le _, Nat.zero_le _⟩ (fun H locs hW => ?_)
  have hd := Option.some.inj hd
  subst hd
  exact hQ _ _ _ _ rfl hW dX5_keptTo_13
abbrev rmX5_keeps : Room := { frames := 2, cells := 0, slots := 0, locals := 44 }
set_option maxRecDepth 100000 in
set_option maxHeartbeats 4000000 in
theorem kX5_keeps (l : Launch) (Dd : va_G) (Y : yT) (ad : Nat → Nat) (F : gF) (x1 : Int32) (x2 : Int32) (r : Int32) (F' : gF) (hd : dnX5_keeps F x1 x2 = some (r, F')) : MG l yX5_keeps wsX5_keeps rmX5_keeps Dd Y [.ref (ad 0), .int x1, .int x2] (WM Y ad F) (WM Y ad F') (some (.int r)) := by
  refine MGi (cc := cX5_keeps) (maxL := 4) (ty := .int) (by decide) rfl (Nat.le_of_ble_eq_true rfl) (fun {p e s m args below meth c A} ls Q X hW hl hQ => ?_)
  have hx := X.x
  have hb := X.b
  have hl : lv_has ls 4 [(0, .ref (ad 0)), (1, .int x1), (2, .int x2)] := hl
  unfold dnX5_keeps at hd
  refine lv_sipush (v := 292) hx hb dX5_keeps_0 (by decide) ?_
  refine lv_iconst (v := 2) hx hb dX5_keeps_3 (by decide) ?_
  refine lv_aload_n hx hb dX5_keeps_4 rfl (lv_at hl 0 rfl) ?_
  refine lv_bipush (v := 6) hx hb dX5_keeps_5 (by decide) ?_
  obtain ⟨r2, h1, hd⟩ := bp_e hd
  refine cVi_ (rest := [.int 2, .int 292]) X (kX5_get l Dd Y ad F 6 r2 h1) (cwV 1 X.1.2.2.2.2 gX5_keeps_X5_get rfl rfl rfl (by decide +kernel) ⟨Nat.le_of_ble_eq_true rfl, Nat.le_of_ble_eq_true rfl⟩) hW 0 5 rfl rfl rfl rfl hl.1 rfl (Nat.le_of_ble_eq_true rfl) dX5_keeps_7 ⟨Nat.zero_le _, Nat.zero_le _⟩ (fun H locs hW => ?_)
  refine lv_imul hx hb dX5_keeps_10 ?_
  refine lv_iadd hx hb dX5_keeps_11 ?_
  refine lv_istore_n (lv' := [(3, .int (292 + (2 * r2))), (0, .ref (ad 0)), (1, .int x1), (2, .int x2)]) hx hb dX5_keeps_12 rfl hl (by decide) rfl (fun ls hl => ?_)
  refine lv_aload_n hx hb dX5_keeps_13 rfl (lv_at hl 1 rfl) ?_
  refine lv_iload_n hx hb dX5_keeps_14 rfl (lv_at hl 0 rfl) ?_
  refine lv_iload_n hx hb dX5_keeps_15 rfl (lv_at hl 2 rfl) ?_
  obtain ⟨F4, h3, hd⟩ := bp_e hd
  refine cVv_ (rest := []) X (kX5_put0 l Dd Y ad F (292 + (2 * r2)) x1 F4 h3) (cwV 2 X.1.2.2.2.2 gX5_keeps_X5_put0 rfl rfl rfl (by decide +kernel) ⟨Nat.le_of_ble_eq_true rfl, Nat.le_of_ble_eq_true rfl⟩) hW 0 5 rfl rfl rfl rfl hl.1 rfl (Nat.le_of_ble_eq_true rfl) dX5_keeps_16 ⟨Nat.zero_le _, Nat.zero_le _⟩ (fun H locs hW => ?_)
  refine lv_aload_n hx hb dX5_keeps_19 rfl (lv_at hl 1 rfl) ?_
  refine lv_iload_n hx hb dX5_keeps_20 rfl (lv_at hl 0 rfl) ?_
  refine lv_iconst (v := 1) hx hb dX5_keeps_21 (by decide) ?_
  refine lv_iadd hx hb dX5_keeps_22 ?_
  refine lv_iload_n hx hb dX5_keeps_23 rfl (lv_at hl 3 rfl) ?_
  obtain ⟨F6, h5, hd⟩ := bp_e hd
  refine cVv_ (rest := []) X (kX5_put0 l Dd Y ad F4 ((292 + (2 * r2)) + 1) x2 F6 h5) (cwV 2 X.1.2.2.2.2 gX5_keeps_X5_put0 rfl rfl rfl (by decide +kernel) ⟨Nat.le_of_ble_eq_true rfl, Nat.le_of_ble_eq_true rfl⟩) hW 0 5 rfl rfl rfl rfl hl.1 rfl (Nat.le_of_ble_eq_true rfl) dX5_keeps_24 ⟨Nat.zero_le _, Nat.zero_le _⟩ (fun H locs hW => ?_)
  refine lv_aload_n hx hb dX5_keeps_27 rfl (lv_at hl 1 rfl) ?_
  refine lv_bipush (v := 6) hx hb dX5_keeps_28 (by decide) ?_
  refine lv_iconst (v := 1) hx hb dX5_keeps_30 (by decide) ?_
  obtain ⟨F8, h7, hd⟩ := bp_e hd
  refine cVv_ (rest := []) X (kX5_adds l Dd Y ad F6 6 1 F8 h7) (cwV 2 X.1.2.2.2.2 gX5_keeps_X5_adds rfl rfl rfl (by decide +kernel) ⟨Nat.le_of_ble_eq_true rfl, Nat.le_of_ble_eq_true rfl⟩) hW 0 5 rfl rfl rfl rfl hl.1 rfl (Nat.le_of_ble_eq_true rfl) dX5_keeps_31 ⟨Nat.zero_le _, Nat.zero_le _⟩ (fun H locs hW => ?_)
  refine lv_aload_n hx hb dX5_keeps_34 rfl (lv_at hl 1 rfl) ?_
  refine lv_bipush (v := 6) hx hb dX5_keeps_35 (by decide) ?_
  obtain ⟨r10, h9, hd⟩ := bp_e hd
  refine cVi_ (rest := []) X (kX5_get l Dd Y ad F8 6 r10 h9) (cwV 1 X.1.2.2.2.2 gX5_keeps_X5_get rfl rfl rfl (by decide +kernel) ⟨Nat.le_of_ble_eq_true rfl, Nat.le_of_ble_eq_true rfl⟩) hW 0 5 rfl rfl rfl rfl hl.1 rfl (Nat.le_of_ble_eq_true rfl) dX5_keeps_37 ⟨Nat.zero_le _, Nat.zero_le _⟩ (fun H locs hW => ?_)
  obtain ⟨rfl, rfl⟩ := Prod.mk.inj (Option.some.inj hd)
  exact hQ _ _ _ _ rfl hW dX5_keeps_40
abbrev rmX5_forgets : Room := { frames := 2, cells := 0, slots := 0, locals := 44 }
set_option maxRecDepth 100000 in
set_option maxHeartbeats 4000000 in
theorem kX5_forgets (l : Launch) (Dd : va_G) (Y : yT) (ad : Nat → Nat) (F : gF) (x1 : Int32) (r : Int32) (F' : gF) (hd : dnX5_forgets F x1 = some (r, F')) : MG l yX5_forgets wsX5_forgets rmX5_forgets Dd Y [.ref (ad 0), .int x1] (WM Y ad F) (WM Y ad F') (some (.int r)) := by
  refine MGi (cc := cX5_forgets) (maxL := 3) (ty := .int) (by decide) rfl (Nat.le_of_ble_eq_true rfl) (fun {p e s m args below meth c A} ls Q X hW hl hQ => ?_)
  have hx := X.x
  have hb := X.b
  have hl : lv_has ls 3 [(0, .ref (ad 0)), (1, .int x1)] := hl
  unfold dnX5_forgets at hd
  have K8 : ∀ (n : Nat) (x2 : Int32) (F : gF) (z : Nat × gF), lpX5_forgets_8 n x2 F = some z → ∀ (H : Heap) (locs : List Loc) (ls : Array Slot), Wd Dd A s.heap (WM Y ad F) H locs → lv_has ls 3 [(0, .ref (ad 0)), (2, .int x2)] → (∀ (H : Heap) (locs : List Loc) (ls : Array Slot), z.1 = 0 → Wd Dd A s.heap (WM Y ad z.2) H locs → lv_has ls 3 [(0, .ref (ad 0))] → W p l e rmX5_forgets s m args below meth c H locs 0 0 Q (F0 m 44 ls [])) → W p l e rmX5_forgets s m args below meth c H locs 0 0 Q (F0 m 8 ls []) := by
    intro n
    induction n with
    | zero => intro x2 F z hd; cases hd
    | succ n ih =>
      intro x2 F z hd H locs ls hW hl kx0
      unfold lpX5_forgets_8 at hd
      refine lv_iload_n hx hb dX5_forgets_8 rfl (lv_at hl 1 rfl) ?_
      refine lv_sipush (v := 292) hx hb dX5_forgets_9 (by decide) ?_
      refine lv_iconst (v := 2) hx hb dX5_forgets_12 (by decide) ?_
      refine lv_aload_n hx hb dX5_forgets_13 rfl (lv_at hl 0 rfl) ?_
      refine lv_bipush (v := 6) hx hb dX5_forgets_14 (by decide) ?_
      obtain ⟨r2, h1, hd⟩ := bp_e hd
      refine cVi_ (rest := [.int 2, .int 292, .int x2]) X (kX5_get l Dd Y ad F 6 r2 h1) (cwV 1 X.1.2.2.2.2 gX5_forgets_X5_get rfl rfl rfl (by decide +kernel) ⟨Nat.le_of_ble_eq_true rfl, Nat.le_of_ble_eq_true rfl⟩) hW 0 5 rfl rfl rfl rfl hl.1 rfl (Nat.le_of_ble_eq_true rfl) dX5_forgets_16 ⟨Nat.zero_le _, Nat.zero_le _⟩ (fun H locs hW => ?_)
      refine lv_imul hx hb dX5_forgets_19 ?_
      refine lv_iadd hx hb dX5_forgets_20 ?_
      refine lv_iconst (v := 2) hx hb dX5_forgets_21 (by decide) ?_
      refine lv_isub hx hb dX5_forgets_22 ?_
      refine lv_icmp_ge (tgt := 44) hx hb dX5_forgets_23 (by decide) (fun c3 => ?_) (fun c3 => ?_)
      · replace hd := if_t c3 hd
        cases hd
        exact kx0 _ _ _ rfl hW (lv_sub hl [0] rfl)
      · replace hd := if_f c3 hd
        refine lv_aload_n hx hb dX5_forgets_26 rfl (lv_at hl 0 rfl) ?_
        refine lv_iload_n hx hb dX5_forgets_27 rfl (lv_at hl 1 rfl) ?_
        refine lv_aload_n hx hb dX5_forgets_28 rfl (lv_at hl 0 rfl) ?_
        refine lv_iload_n hx hb dX5_forgets_29 rfl (lv_at hl 1 rfl) ?_
        refine lv_iconst (v := 2) hx hb dX5_forgets_30 (by decide) ?_
        refine lv_iadd hx hb dX5_forgets_31 ?_
        obtain ⟨r5, h4, hd⟩ := bp_e hd
        refine cVi_ (rest := [.int x2, .ref (ad 0)]) X (kX5_get l Dd Y ad F (x2 + 2) r5 h4) (cwV 1 X.1.2.2.2.2 gX5_forgets_X5_get rfl rfl rfl (by decide +kernel) ⟨Nat.le_of_ble_eq_true rfl, Nat.le_of_ble_eq_true rfl⟩) hW 0 5 rfl rfl rfl rfl hl.1 rfl (Nat.le_of_ble_eq_true rfl) dX5_forgets_32 ⟨Nat.zero_le _, Nat.zero_le _⟩ (fun H locs hW => ?_)
        obtain ⟨F7, h6, hd⟩ := bp_e hd
        refine cVv_ (rest := []) X (kX5_put0 l Dd Y ad F x2 r5 F7 h6) (cwV 2 X.1.2.2.2.2 gX5_forgets_X5_put0 rfl rfl rfl (by decide +kernel) ⟨Nat.le_of_ble_eq_true rfl, Nat.le_of_ble_eq_true rfl⟩) hW 0 5 rfl rfl rfl rfl hl.1 rfl (Nat.le_of_ble_eq_true rfl) dX5_forgets_35 ⟨Nat.zero_le _, Nat.zero_le _⟩ (fun H locs hW => ?_)
        refine lv_iinc (v := x2 + 1) (lv' := [(2, .int (x2 + 1)), (0, .ref (ad 0))]) hx hb dX5_forgets_38 hl (k := 1) rfl rfl (by decide) rfl (fun ls hl => ?_)
        refine lv_goto (tgt := 8) hx hb dX5_forgets_41 (by decide) ?_
        exact ih (x2 + 1) F7 z hd _ _ _ hW (lv_sub hl [1, 0] rfl) kx0
  refine lv_sipush (v := 292) hx hb dX5_forgets_0 (by decide) ?_
  refine lv_iconst (v := 2) hx hb dX5_forgets_3 (by decide) ?_
  refine lv_iload_n hx hb dX5_forgets_4 rfl (lv_at hl 1 rfl) ?_
  refine lv_imul hx hb dX5_forgets_5 ?_
  refine lv_iadd hx hb dX5_forgets_6 ?_
  refine lv_istore_n (lv' := [(2, .int (292 + (2 * x1))), (0, .ref (ad 0)), (1, .int x1)]) hx hb dX5_forgets_7 rfl hl (by decide) rfl (fun ls hl => ?_)
  obtain ⟨z8_7, hz8_7, hd⟩ := bp_e hd
  refine K8 FU (292 + (2 * x1)) F z8_7 hz8_7 _ _ _ hW (lv_sub hl [1, 0] rfl) (fun H locs ls e8 hW hl => ?_)
  refine lv_aload_n hx hb dX5_forgets_44 rfl (lv_at hl 0 rfl) ?_
  refine lv_bipush (v := 6) hx hb dX5_forgets_45 (by decide) ?_
  refine lv_iconst (v := (-1)) hx hb dX5_forgets_47 (by decide) ?_
  obtain ⟨F10, h9, hd⟩ := bp_e hd
  refine cVv_ (rest := []) X (kX5_adds l Dd Y ad z8_7.2 6 (-1) F10 h9) (cwV 2 X.1.2.2.2.2 gX5_forgets_X5_adds rfl rfl rfl (by decide +kernel) ⟨Nat.le_of_ble_eq_true rfl, Nat.le_of_ble_eq_true rfl⟩) hW 0 5 rfl rfl rfl rfl hl.1 rfl (Nat.le_of_ble_eq_true rfl) dX5_forgets_48 ⟨Nat.zero_le _, Nat.zero_le _⟩ (fun H locs hW => ?_)
  refine lv_aload_n hx hb dX5_forgets_51 rfl (lv_at hl 0 rfl) ?_
  refine lv_bipush (v := 6) hx hb dX5_forgets_52 (by decide) ?_
  obtain ⟨r12, h11, hd⟩ := bp_e hd
  refine cVi_ (rest := []) X (kX5_get l Dd Y ad F10 6 r12 h11) (cwV 1 X.1.2.2.2.2 gX5_forgets_X5_get rfl rfl rfl (by decide +kernel) ⟨Nat.le_of_ble_eq_true rfl, Nat.le_of_ble_eq_true rfl⟩) hW 0 5 rfl rfl rfl rfl hl.1 rfl (Nat.le_of_ble_eq_true rfl) dX5_forgets_54 ⟨Nat.zero_le _, Nat.zero_le _⟩ (fun H locs hW => ?_)
  obtain ⟨rfl, rfl⟩ := Prod.mk.inj (Option.some.inj hd)
  exact hQ _ _ _ _ rfl hW dX5_forgets_57
abbrev rmX5_putsIn : Room := { frames := 5, cells := 0, slots := 0, locals := 110 }
set_option maxRecDepth 100000 in
set_option maxHeartbeats 4000000 in
theorem kX5_putsIn (l : Launch) (Dd : va_G) (Y : yT) (ad : Nat → Nat) (F : gF) (x1 : Int32) (x2 : Int32) (r : Int32) (F' : gF) (hd : dnX5_putsIn F x1 x2 = some (r, F')) : MG l yX5_putsIn wsX5_putsIn rmX5_putsIn Dd Y [.ref (ad 0), .int x1, .int x2] (WM Y ad F) (WM Y ad F') (some (.int r)) := by
  refine MGi (cc := cX5_putsIn) (maxL := 4) (ty := .int) (by decide) rfl (Nat.le_of_ble_eq_true rfl) (fun {p e s m args below meth c A} ls Q X hW hl hQ => ?_)
  have hx := X.x
  have hb := X.b
  have hl : lv_has ls 4 [(0, .ref (ad 0)), (1, .int x1), (2, .int x2)] := hl
  unfold dnX5_putsIn at hd
  have K5 : ∀ (x1 : Int32) (x2 : Int32) (n : Nat) (x3 : Int32) (F : gF) (z : Nat × gF), lpX5_putsIn_5 x1 x2 n x3 F = some z → ∀ (H : Heap) (locs : List Loc) (ls : Array Slot), Wd Dd A s.heap (WM Y ad F) H locs → lv_has ls 4 [(0, .ref (ad 0)), (1, .int x1), (2, .int x2), (3, .int x3)] → (∀ (H : Heap) (locs : List Loc) (ls : Array Slot), z.1 = 0 → Wd Dd A s.heap (WM Y ad z.2) H locs → lv_has ls 4 [(0, .ref (ad 0)), (1, .int x1), (2, .int x2)] → W p l e rmX5_putsIn s m args below meth c H locs 0 0 Q (F0 m 31 ls [])) → W p l e rmX5_putsIn s m args below meth c H locs 0 0 Q (F0 m 5 ls []) := by
    intro x1 x2 n
    induction n with
    | zero => intro x3 F z hd; cases hd
    | succ n ih =>
      intro x3 F z hd H locs ls hW hl kx0
      unfold lpX5_putsIn_5 at hd
      refine lv_iload_n hx hb dX5_putsIn_5 rfl (lv_at hl 3 rfl) ?_
      refine lv_iload_n hx hb dX5_putsIn_6 rfl (lv_at hl 1 rfl) ?_
      refine lv_icmp_le (tgt := 31) hx hb dX5_putsIn_7 (by decide) (fun c1 => ?_) (fun c1 => ?_)
      · replace hd := if_t c1 hd
        cases hd
        exact kx0 _ _ _ rfl hW (lv_sub hl [0, 1, 2] rfl)
      · replace hd := if_f c1 hd
        refine lv_aload_n hx hb dX5_putsIn_10 rfl (lv_at hl 0 rfl) ?_
        refine lv_bipush (v := 12) hx hb dX5_putsIn_11 (by decide) ?_
        refine lv_iload_n hx hb dX5_putsIn_13 rfl (lv_at hl 3 rfl) ?_
        refine lv_iadd hx hb dX5_putsIn_14 ?_
        refine lv_aload_n hx hb dX5_putsIn_15 rfl (lv_at hl 0 rfl) ?_
        refine lv_iload_n hx hb dX5_putsIn_16 rfl (lv_at hl 3 rfl) ?_
        refine lv_iconst (v := 1) hx hb dX5_putsIn_17 (by decide) ?_
        refine lv_isub hx hb dX5_putsIn_18 ?_
        obtain ⟨r3, h2, hd⟩ := bp_e hd
        refine cVi_ (rest := [.int (12 + x3), .ref (ad 0)]) X (kX5_valueAt l Dd Y ad F (x3 - 1) r3 h2) (cwV 1 X.1.2.2.2.2 gX5_putsIn_X5_valueAt rfl rfl rfl (by decide +kernel) ⟨Nat.le_of_ble_eq_true rfl, Nat.le_of_ble_eq_true rfl⟩) hW 0 5 rfl rfl rfl rfl hl.1 rfl (Nat.le_of_ble_eq_true rfl) dX5_putsIn_19 ⟨Nat.zero_le _, Nat.zero_le _⟩ (fun H locs hW => ?_)
        obtain ⟨F5, h4, hd⟩ := bp_e hd
        refine cVv_ (rest := []) X (kX5_put0 l Dd Y ad F (12 + x3) r3 F5 h4) (cwV 2 X.1.2.2.2.2 gX5_putsIn_X5_put0 rfl rfl rfl (by decide +kernel) ⟨Nat.le_of_ble_eq_true rfl, Nat.le_of_ble_eq_true rfl⟩) hW 0 5 rfl rfl rfl rfl hl.1 rfl (Nat.le_of_ble_eq_true rfl) dX5_putsIn_22 ⟨Nat.zero_le _, Nat.zero_le _⟩ (fun H locs hW => ?_)
        refine lv_iinc (v := x3 + (-1)) (lv' := [(3, .int (x3 + (-1))), (0, .ref (ad 0)), (1, .int x1), (2, .int x2)]) hx hb dX5_putsIn_25 hl (k := 3) rfl rfl (by decide) rfl (fun ls hl => ?_)
        refine lv_goto (tgt := 5) hx hb dX5_putsIn_28 (by decide) ?_
        exact ih (x3 + (-1)) F5 z hd _ _ _ hW (lv_sub hl [1, 2, 3, 0] rfl) kx0
  have K48 : ∀ (x1 : Int32) (n : Nat) (x3 : Int32) (F : gF) (z : Nat × gF), lpX5_putsIn_48 x1 n x3 F = some z → ∀ (H : Heap) (locs : List Loc) (ls : Array Slot), Wd Dd A s.heap (WM Y ad F) H locs → lv_has ls 4 [(0, .ref (ad 0)), (1, .int x1), (3, .int x3)] → (∀ (H : Heap) (locs : List Loc) (ls : Array Slot), z.1 = 0 → Wd Dd A s.heap (WM Y ad z.2) H locs → lv_has ls 4 [(0, .ref (ad 0))] → W p l e rmX5_putsIn s m args below meth c H locs 0 0 Q (F0 m 111 ls [])) → W p l e rmX5_putsIn s m args below meth c H locs 0 0 Q (F0 m 48 ls []) := by
    intro x1 n
    induction n with
    | zero => intro x3 F z hd; cases hd
    | succ n ih =>
      intro x3 F z hd H locs ls hW hl kx0
      unfold lpX5_putsIn_48 at hd
      refine lv_iload_n hx hb dX5_putsIn_48 rfl (lv_at hl 2 rfl) ?_
      refine lv_aload_n hx hb dX5_putsIn_49 rfl (lv_at hl 0 rfl) ?_
      refine lv_bipush (v := 6) hx hb dX5_putsIn_50 (by decide) ?_
      obtain ⟨r7, h6, hd⟩ := bp_e hd
      refine cVi_ (rest := [.int x3]) X (kX5_get l Dd Y ad F 6 r7 h6) (cwV 1 X.1.2.2.2.2 gX5_putsIn_X5_get rfl rfl rfl (by decide +kernel) ⟨Nat.le_of_ble_eq_true rfl, Nat.le_of_ble_eq_true rfl⟩) hW 0 5 rfl rfl rfl rfl hl.1 rfl (Nat.le_of_ble_eq_true rfl) dX5_putsIn_52 ⟨Nat.zero_le _, Nat.zero_le _⟩ (fun H locs hW => ?_)
      refine lv_icmp_ge (tgt := 111) hx hb dX5_putsIn_55 (by decide) (fun c8 => ?_) (fun c8 => ?_)
      · replace hd := if_t c8 hd
        cases hd
        exact kx0 _ _ _ rfl hW (lv_sub hl [0] rfl)
      · replace hd := if_f c8 hd
        refine lv_aload_n hx hb dX5_putsIn_58 rfl (lv_at hl 0 rfl) ?_
        refine lv_iload_n hx hb dX5_putsIn_59 rfl (lv_at hl 2 rfl) ?_
        obtain ⟨r10, h9, hd⟩ := bp_e hd
        refine cVi_ (rest := []) X (kX5_keptTo l Dd Y ad F x3 r10 h9) (cwV 1 X.1.2.2.2.2 gX5_putsIn_X5_keptTo rfl rfl rfl (by decide +kernel) ⟨Nat.le_of_ble_eq_true rfl, Nat.le_of_ble_eq_true rfl⟩) hW 0 5 rfl rfl rfl rfl hl.1 rfl (Nat.le_of_ble_eq_true rfl) dX5_putsIn_60 ⟨Nat.zero_le _, Nat.zero_le _⟩ (fun H locs hW => ?_)
        refine lv_iload_n hx hb dX5_putsIn_63 rfl (lv_at hl 1 rfl) ?_
        refine lv_icmp_ge (tgt := 70) hx hb dX5_putsIn_64 (by decide) (fun c11 => ?_) (fun c11 => ?_)
        · replace hd := if_t c11 hd
          refine lv_aload_n hx hb dX5_putsIn_70 rfl (lv_at hl 0 rfl) ?_
          refine lv_iload_n hx hb dX5_putsIn_71 rfl (lv_at hl 2 rfl) ?_
          obtain ⟨r13, h12, hd⟩ := bp_e hd
          refine cVi_ (rest := []) X (kX5_keptFrom l Dd Y ad F x3 r13 h12) (cwV 1 X.1.2.2.2.2 gX5_putsIn_X5_keptFrom rfl rfl rfl (by decide +kernel) ⟨Nat.le_of_ble_eq_true rfl, Nat.le_of_ble_eq_true rfl⟩) hW 0 5 rfl rfl rfl rfl hl.1 rfl (Nat.le_of_ble_eq_true rfl) dX5_putsIn_72 ⟨Nat.zero_le _, Nat.zero_le _⟩ (fun H locs hW => ?_)
          refine lv_iload_n hx hb dX5_putsIn_75 rfl (lv_at hl 1 rfl) ?_
          refine lv_icmp_lt (tgt := 91) hx hb dX5_putsIn_76 (by decide) (fun c14 => ?_) (fun c14 => ?_)
          · replace hd := if_t c14 hd
            refine lv_aload_n hx hb dX5_putsIn_91 rfl (lv_at hl 0 rfl) ?_
            refine lv_sipush (v := 292) hx hb dX5_putsIn_92 (by decide) ?_
            refine lv_iconst (v := 2) hx hb dX5_putsIn_95 (by decide) ?_
            refine lv_iload_n hx hb dX5_putsIn_96 rfl (lv_at hl 2 rfl) ?_
            refine lv_imul hx hb dX5_putsIn_97 ?_
            refine lv_iadd hx hb dX5_putsIn_98 ?_
            refine lv_iconst (v := 1) hx hb dX5_putsIn_99 (by decide) ?_
            refine lv_iadd hx hb dX5_putsIn_100 ?_
            refine lv_iconst (v := 1) hx hb dX5_putsIn_101 (by decide) ?_
            obtain ⟨F16, h15, hd⟩ := bp_e hd
            refine cVv_ (rest := []) X (kX5_adds l Dd Y ad F ((292 + (2 * x3)) + 1) 1 F16 h15) (cwV 2 X.1.2.2.2.2 gX5_putsIn_X5_adds rfl rfl rfl (by decide +kernel) ⟨Nat.le_of_ble_eq_true rfl, Nat.le_of_ble_eq_true rfl⟩) hW 0 5 rfl rfl rfl rfl hl.1 rfl (Nat.le_of_ble_eq_true rfl) dX5_putsIn_102 ⟨Nat.zero_le _, Nat.zero_le _⟩ (fun H locs hW => ?_)
            refine lv_iinc (v := x3 + 1) (lv' := [(3, .int (x3 + 1)), (0, .ref (ad 0)), (1, .int x1)]) hx hb dX5_putsIn_105 hl (k := 2) rfl rfl (by decide) rfl (fun ls hl => ?_)
            refine lv_goto (tgt := 48) hx hb dX5_putsIn_108 (by decide) ?_
            exact ih (x3 + 1) F16 z hd _ _ _ hW (lv_sub hl [1, 2, 0] rfl) kx0
          · replace hd := if_f c14 hd
            refine lv_aload_n hx hb dX5_putsIn_79 rfl (lv_at hl 0 rfl) ?_
            refine lv_sipush (v := 292) hx hb dX5_putsIn_80 (by decide) ?_
            refine lv_iconst (v := 2) hx hb dX5_putsIn_83 (by decide) ?_
            refine lv_iload_n hx hb dX5_putsIn_84 rfl (lv_at hl 2 rfl) ?_
            refine lv_imul hx hb dX5_putsIn_85 ?_
            refine lv_iadd hx hb dX5_putsIn_86 ?_
            refine lv_iconst (v := 1) hx hb dX5_putsIn_87 (by decide) ?_
            obtain ⟨F18, h17, hd⟩ := bp_e hd
            refine cVv_ (rest := []) X (kX5_adds l Dd Y ad F (292 + (2 * x3)) 1 F18 h17) (cwV 2 X.1.2.2.2.2 gX5_putsIn_X5_adds rfl rfl rfl (by decide +kernel) ⟨Nat.le_of_ble_eq_true rfl, Nat.le_of_ble_eq_true rfl⟩) hW 0 5 rfl rfl rfl rfl hl.1 rfl (Nat.le_of_ble_eq_true rfl) dX5_putsIn_88 ⟨Nat.zero_le _, Nat.zero_le _⟩ (fun H locs hW => ?_)
            refine lv_aload_n hx hb dX5_putsIn_91 rfl (lv_at hl 0 rfl) ?_
            refine lv_sipush (v := 292) hx hb dX5_putsIn_92 (by decide) ?_
            refine lv_iconst (v := 2) hx hb dX5_putsIn_95 (by decide) ?_
            refine lv_iload_n hx hb dX5_putsIn_96 rfl (lv_at hl 2 rfl) ?_
            refine lv_imul hx hb dX5_putsIn_97 ?_
            refine lv_iadd hx hb dX5_putsIn_98 ?_
            refine lv_iconst (v := 1) hx hb dX5_putsIn_99 (by decide) ?_
            refine lv_iadd hx hb dX5_putsIn_100 ?_
            refine lv_iconst (v := 1) hx hb dX5_putsIn_101 (by decide) ?_
            obtain ⟨F20, h19, hd⟩ := bp_e hd
            refine cVv_ (rest := []) X (kX5_adds l Dd Y ad F18 ((292 + (2 * x3)) + 1) 1 F20 h19) (cwV 2 X.1.2.2.2.2 gX5_putsIn_X5_adds rfl rfl rfl (by decide +kernel) ⟨Nat.le_of_ble_eq_true rfl, Nat.le_of_ble_eq_true rfl⟩) hW 0 5 rfl rfl rfl rfl hl.1 rfl (Nat.le_of_ble_eq_true rfl) dX5_putsIn_102 ⟨Nat.zero_le _, Nat.zero_le _⟩ (fun H locs hW => ?_)
            refine lv_iinc (v := x3 + 1) (lv' := [(3, .int (x3 + 1)), (0, .ref (ad 0)), (1, .int x1)]) hx hb dX5_putsIn_105 hl (k := 2) rfl rfl (by decide) rfl (fun ls hl => ?_)
            refine lv_goto (tgt := 48) hx hb dX5_putsIn_108 (by decide) ?_
            exact ih (x3 + 1) F20 z hd _ _ _ hW (lv_sub hl [1, 2, 0] rfl) kx0
        · replace hd := if_f c11 hd
          refine lv_goto (tgt := 105) hx hb dX5_putsIn_67 (by decide) ?_
          refine lv_iinc (v := x3 + 1) (lv' := [(3, .int (x3 + 1)), (0, .ref (ad 0)), (1, .int x1)]) hx hb dX5_putsIn_105 hl (k := 2) rfl rfl (by decide) rfl (fun ls hl => ?_)
          refine lv_goto (tgt := 48) hx hb dX5_putsIn_108 (by decide) ?_
          exact ih (x3 + 1) F z hd _ _ _ hW (lv_sub hl [1, 2, 0] rfl) kx0
  refine lv_aload_n hx hb dX5_putsIn_0 rfl (lv_at hl 0 rfl) ?_
  obtain ⟨r22, h21, hd⟩ := bp_e hd
  refine cVi_ (rest := []) X (kX5_size l Dd Y ad F r22 h21) (cwV 0 X.1.2.2.2.2 gX5_putsIn_X5_size rfl rfl rfl (by decide +kernel) ⟨Nat.le_of_ble_eq_true rfl, Nat.le_of_ble_eq_true rfl⟩) hW 0 5 rfl rfl rfl rfl hl.1 rfl (Nat.le_of_ble_eq_true rfl) dX5_putsIn_1 ⟨Nat.zero_le _, Nat.zero_le _⟩ (fun H locs hW => ?_)
  refine lv_istore_n (lv' := [(3, .int r22), (0, .ref (ad 0)), (1, .int x1), (2, .int x2)]) hx hb dX5_putsIn_4 rfl hl (by decide) rfl (fun ls hl => ?_)
  obtain ⟨z5_22, hz5_22, hd⟩ := bp_e hd
  refine K5 x1 x2 FU r22 F z5_22 hz5_22 _ _ _ hW (lv_sub hl [1, 2, 3, 0] rfl) (fun H locs ls e5 hW hl => ?_)
  refine lv_aload_n hx hb dX5_putsIn_31 rfl (lv_at hl 0 rfl) ?_
  refine lv_bipush (v := 12) hx hb dX5_putsIn_32 (by decide) ?_
  refine lv_iload_n hx hb dX5_putsIn_34 rfl (lv_at hl 1 rfl) ?_
  refine lv_iadd hx hb dX5_putsIn_35 ?_
  refine lv_iload_n hx hb dX5_putsIn_36 rfl (lv_at hl 2 rfl) ?_
  obtain ⟨F25, h24, hd⟩ := bp_e hd
  refine cVv_ (rest := []) X (kX5_put0 l Dd Y ad z5_22.2 (12 + x1) x2 F25 h24) (cwV 2 X.1.2.2.2.2 gX5_putsIn_X5_put0 rfl rfl rfl (by decide +kernel) ⟨Nat.le_of_ble_eq_true rfl, Nat.le_of_ble_eq_true rfl⟩) hW 0 5 rfl rfl rfl rfl hl.1 rfl (Nat.le_of_ble_eq_true rfl) dX5_putsIn_37 ⟨Nat.zero_le _, Nat.zero_le _⟩ (fun H locs hW => ?_)
  refine lv_aload_n hx hb dX5_putsIn_40 rfl (lv_at hl 0 rfl) ?_
  refine lv_iconst (v := 0) hx hb dX5_putsIn_41 (by decide) ?_
  refine lv_iconst (v := 1) hx hb dX5_putsIn_42 (by decide) ?_
  obtain ⟨F27, h26, hd⟩ := bp_e hd
  refine cVv_ (rest := []) X (kX5_adds l Dd Y ad F25 0 1 F27 h26) (cwV 2 X.1.2.2.2.2 gX5_putsIn_X5_adds rfl rfl rfl (by decide +kernel) ⟨Nat.le_of_ble_eq_true rfl, Nat.le_of_ble_eq_true rfl⟩) hW 0 5 rfl rfl rfl rfl hl.1 rfl (Nat.le_of_ble_eq_true rfl) dX5_putsIn_43 ⟨Nat.zero_le _, Nat.zero_le _⟩ (fun H locs hW => ?_)
  refine lv_iconst (v := 0) hx hb dX5_putsIn_46 (by decide) ?_
  refine lv_istore_n (lv' := [(3, .int 0), (0, .ref (ad 0)), (1, .int x1), (2, .int x2)]) hx hb dX5_putsIn_47 rfl hl (by decide) rfl (fun ls hl => ?_)
  obtain ⟨z48_27, hz48_27, hd⟩ := bp_e hd
  refine K48 x1 FU 0 F27 z48_27 hz48_27 _ _ _ hW (lv_sub hl [1, 2, 0] rfl) (fun H locs ls e48 hW hl => ?_)
  refine lv_aload_n hx hb dX5_putsIn_111 rfl (lv_at hl 0 rfl) ?_
  obtain ⟨F30, h29, hd⟩ := bp_e hd
  refine cVv_ (rest := []) X (kX5_builds l Dd Y ad z48_27.2 F30 h29) (cwV 0 X.1.2.2.2.2 gX5_putsIn_X5_builds rfl rfl rfl (by decide +kernel) ⟨Nat.le_of_ble_eq_true rfl, Nat.le_of_ble_eq_true rfl⟩) hW 0 5 rfl rfl rfl rfl hl.1 rfl (Nat.le_of_ble_eq_true rfl) dX5_putsIn_112 ⟨Nat.zero_le _, Nat.zero_le _⟩ (fun H locs hW => ?_)
  refine lv_aload_n hx hb dX5_putsIn_115 rfl (lv_at hl 0 rfl) ?_
  obtain ⟨r32, h31, hd⟩ := bp_e hd
  refine cVi_ (rest := []) X (kX5_size l Dd Y ad F30 r32 h31) (cwV 0 X.1.2.2.2.2 gX5_putsIn_X5_size rfl rfl rfl (by decide +kernel) ⟨Nat.le_of_ble_eq_true rfl, Nat.le_of_ble_eq_true rfl⟩) hW 0 5 rfl rfl rfl rfl hl.1 rfl (Nat.le_of_ble_eq_true rfl) dX5_putsIn_116 ⟨Nat.zero_le _, Nat.zero_le _⟩ (fun H locs hW => ?_)
  obtain ⟨rfl, rfl⟩ := Prod.mk.inj (Option.some.inj hd)
  exact hQ _ _ _ _ rfl hW dX5_putsIn_119
abbrev rmX5_takesOut : Room := { frames := 5, cells := 0, slots := 0, locals := 110 }
set_option maxRecDepth 100000 in
set_option maxHeartbeats 4000000 in
theorem kX5_takesOut (l : Launch) (Dd : va_G) (Y : yT) (ad : Nat → Nat) (F : gF) (x1 : Int32) (r : Int32) (F' : gF) (hd : dnX5_takesOut F x1 = some (r, F')) : MG l yX5_takesOut wsX5_takesOut rmX5_takesOut Dd Y [.ref (ad 0), .int x1] (WM Y ad F) (WM Y ad F') (some (.int r)) := by
  refine MGi (cc := cX5_takesOut) (maxL := 4) (ty := .int) (by decide) rfl (Nat.le_of_ble_eq_true rfl) (fun {p e s m args below meth c A} ls Q X hW hl hQ => ?_)
  have hx := X.x
  have hb := X.b
  have hl : lv_has ls 4 [(0, .ref (ad 0)), (1, .int x1)] := hl
  unfold dnX5_takesOut at hd
  have K8 : ∀ (x1 : Int32) (x2 : Int32) (n : Nat) (x3 : Int32) (F : gF) (z : Nat × gF), lpX5_takesOut_8 x1 x2 n x3 F = some z → ∀ (H : Heap) (locs : List Loc) (ls : Array Slot), Wd Dd A s.heap (WM Y ad F) H locs → lv_has ls 4 [(0, .ref (ad 0)), (1, .int x1), (2, .int x2), (3, .int x3)] → (∀ (H : Heap) (locs : List Loc) (ls : Array Slot), z.1 = 0 → Wd Dd A s.heap (WM Y ad z.2) H locs → lv_has ls 4 [(0, .ref (ad 0)), (1, .int x1), (2, .int x2)] → W p l e rmX5_takesOut s m args below meth c H locs 0 0 Q (F0 m 39 ls [])) → W p l e rmX5_takesOut s m args below meth c H locs 0 0 Q (F0 m 8 ls []) := by
    intro x1 x2 n
    induction n with
    | zero => intro x3 F z hd; cases hd
    | succ n ih =>
      intro x3 F z hd H locs ls hW hl kx0
      unfold lpX5_takesOut_8 at hd
      refine lv_iload_n hx hb dX5_takesOut_8 rfl (lv_at hl 3 rfl) ?_
      refine lv_aload_n hx hb dX5_takesOut_9 rfl (lv_at hl 0 rfl) ?_
      obtain ⟨r2, h1, hd⟩ := bp_e hd
      refine cVi_ (rest := [.int x3]) X (kX5_size l Dd Y ad F r2 h1) (cwV 0 X.1.2.2.2.2 gX5_takesOut_X5_size rfl rfl rfl (by decide +kernel) ⟨Nat.le_of_ble_eq_true rfl, Nat.le_of_ble_eq_true rfl⟩) hW 0 5 rfl rfl rfl rfl hl.1 rfl (Nat.le_of_ble_eq_true rfl) dX5_takesOut_10 ⟨Nat.zero_le _, Nat.zero_le _⟩ (fun H locs hW => ?_)
      refine lv_iconst (v := 1) hx hb dX5_takesOut_13 (by decide) ?_
      refine lv_isub hx hb dX5_takesOut_14 ?_
      refine lv_icmp_ge (tgt := 39) hx hb dX5_takesOut_15 (by decide) (fun c3 => ?_) (fun c3 => ?_)
      · replace hd := if_t c3 hd
        cases hd
        exact kx0 _ _ _ rfl hW (lv_sub hl [0, 1, 2] rfl)
      · replace hd := if_f c3 hd
        refine lv_aload_n hx hb dX5_takesOut_18 rfl (lv_at hl 0 rfl) ?_
        refine lv_bipush (v := 12) hx hb dX5_takesOut_19 (by decide) ?_
        refine lv_iload_n hx hb dX5_takesOut_21 rfl (lv_at hl 3 rfl) ?_
        refine lv_iadd hx hb dX5_takesOut_22 ?_
        refine lv_aload_n hx hb dX5_takesOut_23 rfl (lv_at hl 0 rfl) ?_
        refine lv_iload_n hx hb dX5_takesOut_24 rfl (lv_at hl 3 rfl) ?_
        refine lv_iconst (v := 1) hx hb dX5_takesOut_25 (by decide) ?_
        refine lv_iadd hx hb dX5_takesOut_26 ?_
        obtain ⟨r5, h4, hd⟩ := bp_e hd
        refine cVi_ (rest := [.int (12 + x3), .ref (ad 0)]) X (kX5_valueAt l Dd Y ad F (x3 + 1) r5 h4) (cwV 1 X.1.2.2.2.2 gX5_takesOut_X5_valueAt rfl rfl rfl (by decide +kernel) ⟨Nat.le_of_ble_eq_true rfl, Nat.le_of_ble_eq_true rfl⟩) hW 0 5 rfl rfl rfl rfl hl.1 rfl (Nat.le_of_ble_eq_true rfl) dX5_takesOut_27 ⟨Nat.zero_le _, Nat.zero_le _⟩ (fun H locs hW => ?_)
        obtain ⟨F7, h6, hd⟩ := bp_e hd
        refine cVv_ (rest := []) X (kX5_put0 l Dd Y ad F (12 + x3) r5 F7 h6) (cwV 2 X.1.2.2.2.2 gX5_takesOut_X5_put0 rfl rfl rfl (by decide +kernel) ⟨Nat.le_of_ble_eq_true rfl, Nat.le_of_ble_eq_true rfl⟩) hW 0 5 rfl rfl rfl rfl hl.1 rfl (Nat.le_of_ble_eq_true rfl) dX5_takesOut_30 ⟨Nat.zero_le _, Nat.zero_le _⟩ (fun H locs hW => ?_)
        refine lv_iinc (v := x3 + 1) (lv' := [(3, .int (x3 + 1)), (0, .ref (ad 0)), (1, .int x1), (2, .int x2)]) hx hb dX5_takesOut_33 hl (k := 3) rfl rfl (by decide) rfl (fun ls hl => ?_)
        refine lv_goto (tgt := 8) hx hb dX5_takesOut_36 (by decide) ?_
        exact ih (x3 + 1) F7 z hd _ _ _ hW (lv_sub hl [1, 2, 3, 0] rfl) kx0
  have K54 : ∀ (x1 : Int32) (x2 : Int32) (n : Nat) (x3 : Int32) (F : gF) (z : Nat × gF), lpX5_takesOut_54 x1 x2 n x3 F = some z → ∀ (H : Heap) (locs : List Loc) (ls : Array Slot), Wd Dd A s.heap (WM Y ad F) H locs → lv_has ls 4 [(0, .ref (ad 0)), (1, .int x1), (2, .int x2), (3, .int x3)] → (∀ (H : Heap) (locs : List Loc) (ls : Array Slot), z.1 = 0 → Wd Dd A s.heap (WM Y ad z.2) H locs → lv_has ls 4 [(2, .int x2)] → W p l e rmX5_takesOut s m args below meth c H locs 0 0 Q (F0 m 126 ls [])) → (∀ (H : Heap) (locs : List Loc) (ls : Array Slot), z.1 = 1 → Wd Dd A s.heap (WM Y ad z.2) H locs → lv_has ls 4 [(0, .ref (ad 0)), (2, .int x2)] → W p l e rmX5_takesOut s m args below meth c H locs 0 0 Q (F0 m 134 ls [])) → W p l e rmX5_takesOut s m args below meth c H locs 0 0 Q (F0 m 54 ls []) := by
    intro x1 x2 n
    induction n with
    | zero => intro x3 F z hd; cases hd
    | succ n ih =>
      intro x3 F z hd H locs ls hW hl kx0 kx1
      unfold lpX5_takesOut_54 at hd
      refine lv_iload_n hx hb dX5_takesOut_54 rfl (lv_at hl 3 rfl) ?_
      refine lv_if_lt (tgt := 134) hx hb dX5_takesOut_55 (by decide) (fun c8 => ?_) (fun c8 => ?_)
      · replace hd := if_t c8 hd
        cases hd
        exact kx1 _ _ _ rfl hW (lv_sub hl [0, 2] rfl)
      · replace hd := if_f c8 hd
        refine lv_aload_n hx hb dX5_takesOut_58 rfl (lv_at hl 0 rfl) ?_
        refine lv_iload_n hx hb dX5_takesOut_59 rfl (lv_at hl 3 rfl) ?_
        obtain ⟨r10, h9, hd⟩ := bp_e hd
        refine cVi_ (rest := []) X (kX5_keptTo l Dd Y ad F x3 r10 h9) (cwV 1 X.1.2.2.2.2 gX5_takesOut_X5_keptTo rfl rfl rfl (by decide +kernel) ⟨Nat.le_of_ble_eq_true rfl, Nat.le_of_ble_eq_true rfl⟩) hW 0 5 rfl rfl rfl rfl hl.1 rfl (Nat.le_of_ble_eq_true rfl) dX5_takesOut_60 ⟨Nat.zero_le _, Nat.zero_le _⟩ (fun H locs hW => ?_)
        refine lv_iload_n hx hb dX5_takesOut_63 rfl (lv_at hl 1 rfl) ?_
        refine lv_icmp_ge (tgt := 70) hx hb dX5_takesOut_64 (by decide) (fun c11 => ?_) (fun c11 => ?_)
        · replace hd := if_t c11 hd
          refine lv_aload_n hx hb dX5_takesOut_70 rfl (lv_at hl 0 rfl) ?_
          refine lv_iload_n hx hb dX5_takesOut_71 rfl (lv_at hl 3 rfl) ?_
          obtain ⟨r13, h12, hd⟩ := bp_e hd
          refine cVi_ (rest := []) X (kX5_keptFrom l Dd Y ad F x3 r13 h12) (cwV 1 X.1.2.2.2.2 gX5_takesOut_X5_keptFrom rfl rfl rfl (by decide +kernel) ⟨Nat.le_of_ble_eq_true rfl, Nat.le_of_ble_eq_true rfl⟩) hW 0 5 rfl rfl rfl rfl hl.1 rfl (Nat.le_of_ble_eq_true rfl) dX5_takesOut_72 ⟨Nat.zero_le _, Nat.zero_le _⟩ (fun H locs hW => ?_)
          refine lv_iload_n hx hb dX5_takesOut_75 rfl (lv_at hl 1 rfl) ?_
          refine lv_icmp_le (tgt := 91) hx hb dX5_takesOut_76 (by decide) (fun c14 => ?_) (fun c14 => ?_)
          · replace hd := if_t c14 hd
            refine lv_aload_n hx hb dX5_takesOut_91 rfl (lv_at hl 0 rfl) ?_
            refine lv_sipush (v := 292) hx hb dX5_takesOut_92 (by decide) ?_
            refine lv_iconst (v := 2) hx hb dX5_takesOut_95 (by decide) ?_
            refine lv_iload_n hx hb dX5_takesOut_96 rfl (lv_at hl 3 rfl) ?_
            refine lv_imul hx hb dX5_takesOut_97 ?_
            refine lv_iadd hx hb dX5_takesOut_98 ?_
            refine lv_iconst (v := 1) hx hb dX5_takesOut_99 (by decide) ?_
            refine lv_iadd hx hb dX5_takesOut_100 ?_
            refine lv_iconst (v := (-1)) hx hb dX5_takesOut_101 (by decide) ?_
            obtain ⟨F16, h15, hd⟩ := bp_e hd
            refine cVv_ (rest := []) X (kX5_adds l Dd Y ad F ((292 + (2 * x3)) + 1) (-1) F16 h15) (cwV 2 X.1.2.2.2.2 gX5_takesOut_X5_adds rfl rfl rfl (by decide +kernel) ⟨Nat.le_of_ble_eq_true rfl, Nat.le_of_ble_eq_true rfl⟩) hW 0 5 rfl rfl rfl rfl hl.1 rfl (Nat.le_of_ble_eq_true rfl) dX5_takesOut_102 ⟨Nat.zero_le _, Nat.zero_le _⟩ (fun H locs hW => ?_)
            refine lv_aload_n hx hb dX5_takesOut_105 rfl (lv_at hl 0 rfl) ?_
            refine lv_iload_n hx hb dX5_takesOut_106 rfl (lv_at hl 3 rfl) ?_
            obtain ⟨r18, h17, hd⟩ := bp_e hd
            refine cVi_ (rest := []) X (kX5_keptTo l Dd Y ad F16 x3 r18 h17) (cwV 1 X.1.2.2.2.2 gX5_takesOut_X5_keptTo rfl rfl rfl (by decide +kernel) ⟨Nat.le_of_ble_eq_true rfl, Nat.le_of_ble_eq_true rfl⟩) hW 0 5 rfl rfl rfl rfl hl.1 rfl (Nat.le_of_ble_eq_true rfl) dX5_takesOut_107 ⟨Nat.zero_le _, Nat.zero_le _⟩ (fun H locs hW => ?_)
            refine lv_aload_n hx hb dX5_takesOut_110 rfl (lv_at hl 0 rfl) ?_
            refine lv_iload_n hx hb dX5_takesOut_111 rfl (lv_at hl 3 rfl) ?_
            obtain ⟨r20, h19, hd⟩ := bp_e hd
            refine cVi_ (rest := [.int r18]) X (kX5_keptFrom l Dd Y ad F16 x3 r20 h19) (cwV 1 X.1.2.2.2.2 gX5_takesOut_X5_keptFrom rfl rfl rfl (by decide +kernel) ⟨Nat.le_of_ble_eq_true rfl, Nat.le_of_ble_eq_true rfl⟩) hW 0 5 rfl rfl rfl rfl hl.1 rfl (Nat.le_of_ble_eq_true rfl) dX5_takesOut_112 ⟨Nat.zero_le _, Nat.zero_le _⟩ (fun H locs hW => ?_)
            refine lv_icmp_ge (tgt := 128) hx hb dX5_takesOut_115 (by decide) (fun c21 => ?_) (fun c21 => ?_)
            · replace hd := if_t c21 hd
              refine lv_iinc (v := x3 + (-1)) (lv' := [(3, .int (x3 + (-1))), (0, .ref (ad 0)), (1, .int x1), (2, .int x2)]) hx hb dX5_takesOut_128 hl (k := 3) rfl rfl (by decide) rfl (fun ls hl => ?_)
              refine lv_goto (tgt := 54) hx hb dX5_takesOut_131 (by decide) ?_
              exact ih (x3 + (-1)) F16 z hd _ _ _ hW (lv_sub hl [1, 2, 3, 0] rfl) kx0 kx1
            · replace hd := if_f c21 hd
              refine lv_aload_n hx hb dX5_takesOut_118 rfl (lv_at hl 0 rfl) ?_
              refine lv_iload_n hx hb dX5_takesOut_119 rfl (lv_at hl 3 rfl) ?_
              obtain ⟨r23, F24, h22, hd⟩ := bs_e hd
              refine cVi_ (rest := []) X (kX5_forgets l Dd Y ad F16 x3 r23 F24 h22) (cwV 1 X.1.2.2.2.2 gX5_takesOut_X5_forgets rfl rfl rfl (by decide +kernel) ⟨Nat.le_of_ble_eq_true rfl, Nat.le_of_ble_eq_true rfl⟩) hW 0 5 rfl rfl rfl rfl hl.1 rfl (Nat.le_of_ble_eq_true rfl) dX5_takesOut_120 ⟨Nat.zero_le _, Nat.zero_le _⟩ (fun H locs hW => ?_)
              refine lv_if_ge (tgt := 128) hx hb dX5_takesOut_123 (by decide) (fun c25 => ?_) (fun c25 => ?_)
              · replace hd := if_t c25 hd
                refine lv_iinc (v := x3 + (-1)) (lv' := [(3, .int (x3 + (-1))), (0, .ref (ad 0)), (1, .int x1), (2, .int x2)]) hx hb dX5_takesOut_128 hl (k := 3) rfl rfl (by decide) rfl (fun ls hl => ?_)
                refine lv_goto (tgt := 54) hx hb dX5_takesOut_131 (by decide) ?_
                exact ih (x3 + (-1)) F24 z hd _ _ _ hW (lv_sub hl [1, 2, 3, 0] rfl) kx0 kx1
              · replace hd := if_f c25 hd
                cases hd
                exact kx0 _ _ _ rfl hW (lv_sub hl [2] rfl)
          · replace hd := if_f c14 hd
            refine lv_aload_n hx hb dX5_takesOut_79 rfl (lv_at hl 0 rfl) ?_
            refine lv_sipush (v := 292) hx hb dX5_takesOut_80 (by decide) ?_
            refine lv_iconst (v := 2) hx hb dX5_takesOut_83 (by decide) ?_
            refine lv_iload_n hx hb dX5_takesOut_84 rfl (lv_at hl 3 rfl) ?_
            refine lv_imul hx hb dX5_takesOut_85 ?_
            refine lv_iadd hx hb dX5_takesOut_86 ?_
            refine lv_iconst (v := (-1)) hx hb dX5_takesOut_87 (by decide) ?_
            obtain ⟨F27, h26, hd⟩ := bp_e hd
            refine cVv_ (rest := []) X (kX5_adds l Dd Y ad F (292 + (2 * x3)) (-1) F27 h26) (cwV 2 X.1.2.2.2.2 gX5_takesOut_X5_adds rfl rfl rfl (by decide +kernel) ⟨Nat.le_of_ble_eq_true rfl, Nat.le_of_ble_eq_true rfl⟩) hW 0 5 rfl rfl rfl rfl hl.1 rfl (Nat.le_of_ble_eq_true rfl) dX5_takesOut_88 ⟨Nat.zero_le _, Nat.zero_le _⟩ (fun H locs hW => ?_)
            refine lv_aload_n hx hb dX5_takesOut_91 rfl (lv_at hl 0 rfl) ?_
            refine lv_sipush (v := 292) hx hb dX5_takesOut_92 (by decide) ?_
            refine lv_iconst (v := 2) hx hb dX5_takesOut_95 (by decide) ?_
            refine lv_iload_n hx hb dX5_takesOut_96 rfl (lv_at hl 3 rfl) ?_
            refine lv_imul hx hb dX5_takesOut_97 ?_
            refine lv_iadd hx hb dX5_takesOut_98 ?_
            refine lv_iconst (v := 1) hx hb dX5_takesOut_99 (by decide) ?_
            refine lv_iadd hx hb dX5_takesOut_100 ?_
            refine lv_iconst (v := (-1)) hx hb dX5_takesOut_101 (by decide) ?_
            obtain ⟨F29, h28, hd⟩ := bp_e hd
            refine cVv_ (rest := []) X (kX5_adds l Dd Y ad F27 ((292 + (2 * x3)) + 1) (-1) F29 h28) (cwV 2 X.1.2.2.2.2 gX5_takesOut_X5_adds rfl rfl rfl (by decide +kernel) ⟨Nat.le_of_ble_eq_true rfl, Nat.le_of_ble_eq_true rfl⟩) hW 0 5 rfl rfl rfl rfl hl.1 rfl (Nat.le_of_ble_eq_true rfl) dX5_takesOut_102 ⟨Nat.zero_le _, Nat.zero_le _⟩ (fun H locs hW => ?_)
            refine lv_aload_n hx hb dX5_takesOut_105 rfl (lv_at hl 0 rfl) ?_
            refine lv_iload_n hx hb dX5_takesOut_106 rfl (lv_at hl 3 rfl) ?_
            obtain ⟨r31, h30, hd⟩ := bp_e hd
            refine cVi_ (rest := []) X (kX5_keptTo l Dd Y ad F29 x3 r31 h30) (cwV 1 X.1.2.2.2.2 gX5_takesOut_X5_keptTo rfl rfl rfl (by decide +kernel) ⟨Nat.le_of_ble_eq_true rfl, Nat.le_of_ble_eq_true rfl⟩) hW 0 5 rfl rfl rfl rfl hl.1 rfl (Nat.le_of_ble_eq_true rfl) dX5_takesOut_107 ⟨Nat.zero_le _, Nat.zero_le _⟩ (fun H locs hW => ?_)
            refine lv_aload_n hx hb dX5_takesOut_110 rfl (lv_at hl 0 rfl) ?_
            refine lv_iload_n hx hb dX5_takesOut_111 rfl (lv_at hl 3 rfl) ?_
            obtain ⟨r33, h32, hd⟩ := bp_e hd
            refine cVi_ (rest := [.int r31]) X (kX5_keptFrom l Dd Y ad F29 x3 r33 h32) (cwV 1 X.1.2.2.2.2 gX5_takesOut_X5_keptFrom rfl rfl rfl (by decide +kernel) ⟨Nat.le_of_ble_eq_true rfl, Nat.le_of_ble_eq_true rfl⟩) hW 0 5 rfl rfl rfl rfl hl.1 rfl (Nat.le_of_ble_eq_true rfl) dX5_takesOut_112 ⟨Nat.zero_le _, Nat.zero_le _⟩ (fun H locs hW => ?_)
            refine lv_icmp_ge (tgt := 128) hx hb dX5_takesOut_115 (by decide) (fun c34 => ?_) (fun c34 => ?_)
            · replace hd := if_t c34 hd
              refine lv_iinc (v := x3 + (-1)) (lv' := [(3, .int (x3 + (-1))), (0, .ref (ad 0)), (1, .int x1), (2, .int x2)]) hx hb dX5_takesOut_128 hl (k := 3) rfl rfl (by decide) rfl (fun ls hl => ?_)
              refine lv_goto (tgt := 54) hx hb dX5_takesOut_131 (by decide) ?_
              exact ih (x3 + (-1)) F29 z hd _ _ _ hW (lv_sub hl [1, 2, 3, 0] rfl) kx0 kx1
            · replace hd := if_f c34 hd
              refine lv_aload_n hx hb dX5_takesOut_118 rfl (lv_at hl 0 rfl) ?_
              refine lv_iload_n hx hb dX5_takesOut_119 rfl (lv_at hl 3 rfl) ?_
              obtain ⟨r36, F37, h35, hd⟩ := bs_e hd
              refine cVi_ (rest := []) X (kX5_forgets l Dd Y ad F29 x3 r36 F37 h35) (cwV 1 X.1.2.2.2.2 gX5_takesOut_X5_forgets rfl rfl rfl (by decide +kernel) ⟨Nat.le_of_ble_eq_true rfl, Nat.le_of_ble_eq_true rfl⟩) hW 0 5 rfl rfl rfl rfl hl.1 rfl (Nat.le_of_ble_eq_true rfl) dX5_takesOut_120 ⟨Nat.zero_le _, Nat.zero_le _⟩ (fun H locs hW => ?_)
              refine lv_if_ge (tgt := 128) hx hb dX5_takesOut_123 (by decide) (fun c38 => ?_) (fun c38 => ?_)
              · replace hd := if_t c38 hd
                refine lv_iinc (v := x3 + (-1)) (lv' := [(3, .int (x3 + (-1))), (0, .ref (ad 0)), (1, .int x1), (2, .int x2)]) hx hb dX5_takesOut_128 hl (k := 3) rfl rfl (by decide) rfl (fun ls hl => ?_)
                refine lv_goto (tgt := 54) hx hb dX5_takesOut_131 (by decide) ?_
                exact ih (x3 + (-1)) F37 z hd _ _ _ hW (lv_sub hl [1, 2, 3, 0] rfl) kx0 kx1
              · replace hd := if_f c38 hd
                cases hd
                exact kx0 _ _ _ rfl hW (lv_sub hl [2] rfl)
        · replace hd := if_f c11 hd
          refine lv_goto (tgt := 128) hx hb dX5_takesOut_67 (by decide) ?_
          refine lv_iinc (v := x3 + (-1)) (lv' := [(3, .int (x3 + (-1))), (0, .ref (ad 0)), (1, .int x1), (2, .int x2)]) hx hb dX5_takesOut_128 hl (k := 3) rfl rfl (by decide) rfl (fun ls hl => ?_)
          refine lv_goto (tgt := 54) hx hb dX5_takesOut_131 (by decide) ?_
          exact ih (x3 + (-1)) F z hd _ _ _ hW (lv_sub hl [1, 2, 3, 0] rfl) kx0 kx1
  refine lv_aload_n hx hb dX5_takesOut_0 rfl (lv_at hl 0 rfl) ?_
  refine lv_iload_n hx hb dX5_takesOut_1 rfl (lv_at hl 1 rfl) ?_
  obtain ⟨r40, h39, hd⟩ := bp_e hd
  refine cVi_ (rest := []) X (kX5_valueAt l Dd Y ad F x1 r40 h39) (cwV 1 X.1.2.2.2.2 gX5_takesOut_X5_valueAt rfl rfl rfl (by decide +kernel) ⟨Nat.le_of_ble_eq_true rfl, Nat.le_of_ble_eq_true rfl⟩) hW 0 5 rfl rfl rfl rfl hl.1 rfl (Nat.le_of_ble_eq_true rfl) dX5_takesOut_2 ⟨Nat.zero_le _, Nat.zero_le _⟩ (fun H locs hW => ?_)
  refine lv_istore_n (lv' := [(2, .int r40), (0, .ref (ad 0)), (1, .int x1)]) hx hb dX5_takesOut_5 rfl hl (by decide) rfl (fun ls hl => ?_)
  refine lv_iload_n hx hb dX5_takesOut_6 rfl (lv_at hl 2 rfl) ?_
  refine lv_istore_n (lv' := [(3, .int x1), (2, .int r40), (0, .ref (ad 0)), (1, .int x1)]) hx hb dX5_takesOut_7 rfl hl (by decide) rfl (fun ls hl => ?_)
  obtain ⟨z8_40, hz8_40, hd⟩ := bp_e hd
  refine K8 x1 r40 FU x1 F z8_40 hz8_40 _ _ _ hW (lv_sub hl [2, 3, 1, 0] rfl) (fun H locs ls e8 hW hl => ?_)
  refine lv_aload_n hx hb dX5_takesOut_39 rfl (lv_at hl 0 rfl) ?_
  refine lv_iconst (v := 0) hx hb dX5_takesOut_40 (by decide) ?_
  refine lv_iconst (v := (-1)) hx hb dX5_takesOut_41 (by decide) ?_
  obtain ⟨F43, h42, hd⟩ := bp_e hd
  refine cVv_ (rest := []) X (kX5_adds l Dd Y ad z8_40.2 0 (-1) F43 h42) (cwV 2 X.1.2.2.2.2 gX5_takesOut_X5_adds rfl rfl rfl (by decide +kernel) ⟨Nat.le_of_ble_eq_true rfl, Nat.le_of_ble_eq_true rfl⟩) hW 0 5 rfl rfl rfl rfl hl.1 rfl (Nat.le_of_ble_eq_true rfl) dX5_takesOut_42 ⟨Nat.zero_le _, Nat.zero_le _⟩ (fun H locs hW => ?_)
  refine lv_aload_n hx hb dX5_takesOut_45 rfl (lv_at hl 0 rfl) ?_
  refine lv_bipush (v := 6) hx hb dX5_takesOut_46 (by decide) ?_
  obtain ⟨r45, h44, hd⟩ := bp_e hd
  refine cVi_ (rest := []) X (kX5_get l Dd Y ad F43 6 r45 h44) (cwV 1 X.1.2.2.2.2 gX5_takesOut_X5_get rfl rfl rfl (by decide +kernel) ⟨Nat.le_of_ble_eq_true rfl, Nat.le_of_ble_eq_true rfl⟩) hW 0 5 rfl rfl rfl rfl hl.1 rfl (Nat.le_of_ble_eq_true rfl) dX5_takesOut_48 ⟨Nat.zero_le _, Nat.zero_le _⟩ (fun H locs hW => ?_)
  refine lv_iconst (v := 1) hx hb dX5_takesOut_51 (by decide) ?_
  refine lv_isub hx hb dX5_takesOut_52 ?_
  refine lv_istore_n (lv' := [(3, .int (r45 - 1)), (0, .ref (ad 0)), (1, .int x1), (2, .int r40)]) hx hb dX5_takesOut_53 rfl hl (by decide) rfl (fun ls hl => ?_)
  obtain ⟨z54_45, hz54_45, hd⟩ := bp_e hd
  refine K54 x1 r40 FU (r45 - 1) F43 z54_45 hz54_45 _ _ _ hW (lv_sub hl [1, 2, 3, 0] rfl) (fun H locs ls e54 hW hl => ?_) (fun H locs ls e54 hW hl => ?_)
  · replace hd := if_t e54 (hd)
    refine lv_iload_n hx hb dX5_takesOut_126 rfl (lv_at hl 0 rfl) ?_
    obtain ⟨rfl, rfl⟩ := Prod.mk.inj (Option.some.inj hd)
    exact hQ _ _ _ _ rfl hW dX5_takesOut_127
  · replace hd := if_f (by rw [e54]; decide) hd
    refine lv_aload_n hx hb dX5_takesOut_134 rfl (lv_at hl 0 rfl) ?_
    obtain ⟨F48, h47, hd⟩ := bp_e hd
    refine cVv_ (rest := []) X (kX5_builds l Dd Y ad z54_45.2 F48 h47) (cwV 0 X.1.2.2.2.2 gX5_takesOut_X5_builds rfl rfl rfl (by decide +kernel) ⟨Nat.le_of_ble_eq_true rfl, Nat.le_of_ble_eq_true rfl⟩) hW 0 5 rfl rfl rfl rfl hl.1 rfl (Nat.le_of_ble_eq_true rfl) dX5_takesOut_135 ⟨Nat.zero_le _, Nat.zero_le _⟩ (fun H locs hW => ?_)
    refine lv_iload_n hx hb dX5_takesOut_138 rfl (lv_at hl 1 rfl) ?_
    obtain ⟨rfl, rfl⟩ := Prod.mk.inj (Option.some.inj hd)
    exact hQ _ _ _ _ rfl hW dX5_takesOut_139
abbrev rmX5_four : Room := { frames := 0, cells := 0, slots := 0, locals := 0 }
set_option maxRecDepth 100000 in
set_option maxHeartbeats 4000000 in
theorem kX5_four (l : Launch) (Dd : va_G) (Y : yT) (ad : Nat → Nat) (F : gF) (x1 : Int32) (F' : gF) (hd : dnX5_four F x1 = some F') : MG l yX5_four wsX5_four rmX5_four Dd Y [.ref (ad 0), .int x1] (WM Y ad F) (WM Y ad F') none := by
  refine MGv (cc := cX5_four) (maxL := 3) (by decide) rfl (Nat.le_of_ble_eq_true rfl) (fun {p e s m args below meth c A} ls Q X hW hl hQ => ?_)
  have hx := X.x
  have hb := X.b
  have hl : lv_has ls 3 [(0, .ref (ad 0)), (1, .int x1)] := hl
  have hinX5 : ∀ w ∈ wsX50, w ∈ wsX5_four := fun w h => List.mem_cons_of_mem _ (List.mem_append_right _ h)
  unfold dnX5_four at hd
  have K3 : ∀ (x1 : Int32) (n : Nat) (x2 : Int32) (F : gF) (z : Nat × gF), lpX5_four_3 x1 n x2 F = some z → ∀ (H : Heap) (locs : List Loc) (ls : Array Slot), Wd Dd A s.heap (WM Y ad F) H locs → lv_has ls 3 [(0, .ref (ad 0)), (1, .int x1), (2, .int x2)] → (∀ (H : Heap) (locs : List Loc) (ls : Array Slot), z.1 = 0 → Wd Dd A s.heap (WM Y ad z.2) H locs → lv_has ls 3 [] → W p l e rmX5_four s m args below meth c H locs 0 0 Q (F0 m 39 ls [])) → W p l e rmX5_four s m args below meth c H locs 0 0 Q (F0 m 3 ls []) := by
    intro x1 n
    induction n with
    | zero => intro x2 F z hd; cases hd
    | succ n ih =>
      intro x2 F z hd H locs ls hW hl kx0
      unfold lpX5_four_3 at hd
      refine lv_iload_n hx hb dX5_four_3 rfl (lv_at hl 2 rfl) ?_
      refine lv_if_lt (tgt := 39) hx hb dX5_four_4 (by decide) (fun c1 => ?_) (fun c1 => ?_)
      · replace hd := if_t c1 hd
        cases hd
        exact kx0 _ _ _ rfl hW (lv_sub hl [] rfl)
      · replace hd := if_f c1 hd
        refine lv_aload_n hx hb dX5_four_7 rfl (lv_at hl 0 rfl) ?_
        refine g_ X hinX5 hW 0 rfl rfl 6 (by decide) 1 rfl rfl rfl dX5_four_8 ?_
        refine lv_aload_n hx hb dX5_four_11 rfl (lv_at hl 0 rfl) ?_
        refine g_ X hinX5 hW 0 rfl rfl 7 (by decide) 2 rfl rfl rfl dX5_four_12 ?_
        refine lv_iload_n hx hb dX5_four_15 rfl (lv_at hl 1 rfl) ?_
        refine lv_iload_n hx hb dX5_four_16 rfl (lv_at hl 2 rfl) ?_
        refine lv_ishr hx hb dX5_four_17 ?_
        refine lv_sipush (v := 255) hx hb dX5_four_18 (by decide) ?_
        refine lv_iand hx hb dX5_four_21 ?_
        obtain ⟨hi2, hd⟩ := wi_e hd
        obtain ⟨F3, eF3, hd⟩ := bw_e hd
        refine s_ X hW 4 rfl rfl hi2 dX5_four_22 (ws' := (WM Y ad F3)) (by rw [eF3]; rfl) (fun H locs hW => ?_)
        refine lv_aload_n hx hb dX5_four_23 rfl (lv_at hl 0 rfl) ?_
        refine lv_dup hx hb dX5_four_24 rfl ?_
        refine g_ X hinX5 hW 0 rfl rfl 7 (by decide) 2 rfl rfl rfl dX5_four_25 ?_
        refine lv_iconst (v := 1) hx hb dX5_four_28 (by decide) ?_
        refine lv_iadd hx hb dX5_four_29 ?_
        obtain ⟨F5, eF5, hd⟩ := bw_e hd
        refine p_ (ty := .int) X hinX5 tyX5 tyX5_ok nmX5 hW 0 rfl rfl 7 (by decide) 2 rfl rfl rfl (by decide +kernel) rfl rfl (Nat.le_of_ble_eq_true rfl) dX5_four_30 (ws' := (WM Y ad F5)) (by rw [eF5]; rfl) (fun H locs hW => ?_)
        refine lv_iinc (v := x2 + (-8)) (lv' := [(2, .int (x2 + (-8))), (0, .ref (ad 0)), (1, .int x1)]) hx hb dX5_four_33 hl (k := 2) rfl rfl (by decide) rfl (fun ls hl => ?_)
        refine lv_goto (tgt := 3) hx hb dX5_four_36 (by decide) ?_
        exact ih (x2 + (-8)) F5 z hd _ _ _ hW (lv_sub hl [1, 2, 0] rfl) kx0
  refine lv_bipush (v := 24) hx hb dX5_four_0 (by decide) ?_
  refine lv_istore_n (lv' := [(2, .int 24), (0, .ref (ad 0)), (1, .int x1)]) hx hb dX5_four_2 rfl hl (by decide) rfl (fun ls hl => ?_)
  obtain ⟨z3_5, hz3_5, hd⟩ := bp_e hd
  refine K3 x1 FU 24 F z3_5 hz3_5 _ _ _ hW (lv_sub hl [1, 2, 0] rfl) (fun H locs ls e3 hW hl => ?_)
  obtain rfl := Option.some.inj hd
  exact hQ _ _ _ _ hW dX5_four_39
abbrev rmX5_append : Room := { frames := 1, cells := 0, slots := 0, locals := 22 }
set_option maxRecDepth 100000 in
set_option maxHeartbeats 4000000 in
theorem kX5_append (l : Launch) (Dd : va_G) (Y : yT) (ad : Nat → Nat) (F : gF) (x1 : Int32) (x2 : Int32) (x3 : Int32) (x4 : Int32) (x5 : Int32) (r : Int32) (F' : gF) (hd : dnX5_append F x1 x2 x3 x4 x5 = some (r, F')) : MG l yX5_append wsX5_append rmX5_append Dd Y [.ref (ad 0), .int x1, .int x2, .int x3, .int x4, .int x5] (WM Y ad F) (WM Y ad F') (some (.int r)) := by
  refine MGi (cc := cX5_append) (maxL := 6) (ty := .int) (by decide) rfl (Nat.le_of_ble_eq_true rfl) (fun {p e s m args below meth c A} ls Q X hW hl hQ => ?_)
  have hx := X.x
  have hb := X.b
  have hl : lv_has ls 6 [(0, .ref (ad 0)), (1, .int x1), (2, .int x2), (3, .int x3), (4, .int x4), (5, .int x5)] := hl
  have hinX5 : ∀ w ∈ wsX50, w ∈ wsX5_append := fun w h => List.mem_cons_of_mem _ (List.mem_append_right _ h)
  unfold dnX5_append at hd
  refine lv_aload_n hx hb dX5_append_0 rfl (lv_at hl 0 rfl) ?_
  refine lv_iconst (v := 0) hx hb dX5_append_1 (by decide) ?_
  obtain ⟨F1, eF1, hd⟩ := bw_e hd
  refine p_ (ty := .int) X hinX5 tyX5 tyX5_ok nmX5 hW 0 rfl rfl 0 (by decide) 1 rfl rfl rfl (by decide +kernel) rfl rfl (Nat.le_of_ble_eq_true rfl) dX5_append_2 (ws' := (WM Y ad F1)) (by rw [eF1]; rfl) (fun H locs hW => ?_)
  refine lv_aload_n hx hb dX5_append_5 rfl (lv_at hl 0 rfl) ?_
  refine g_ X hinX5 hW 0 rfl rfl 7 (by decide) 2 rfl rfl rfl dX5_append_6 ?_
  refine lv_bipush (v := 20) hx hb dX5_append_9 (by decide) ?_
  refine lv_iadd hx hb dX5_append_11 ?_
  refine lv_sipush (v := 500) hx hb dX5_append_12 (by decide) ?_
  refine lv_icmp_le (tgt := 20) hx hb dX5_append_15 (by decide) (fun c2 => ?_) (fun c2 => ?_)
  · replace hd := if_t c2 hd
    refine lv_aload_n hx hb dX5_append_20 rfl (lv_at hl 0 rfl) ?_
    refine lv_iload_n hx hb dX5_append_21 rfl (lv_at hl 1 rfl) ?_
    obtain ⟨F4, h3, hd⟩ := bp_e hd
    refine cVv_ (rest := []) X (kX5_four l Dd Y ad F1 x1 F4 h3) (cwV 1 X.1.2.2.2.2 gX5_append_X5_four rfl rfl rfl (by decide +kernel) ⟨Nat.le_of_ble_eq_true rfl, Nat.le_of_ble_eq_true rfl⟩) hW 0 5 rfl rfl rfl rfl hl.1 rfl (Nat.le_of_ble_eq_true rfl) dX5_append_22 ⟨Nat.zero_le _, Nat.zero_le _⟩ (fun H locs hW => ?_)
    refine lv_aload_n hx hb dX5_append_25 rfl (lv_at hl 0 rfl) ?_
    refine lv_iload_n hx hb dX5_append_26 rfl (lv_at hl 2 rfl) ?_
    obtain ⟨F6, h5, hd⟩ := bp_e hd
    refine cVv_ (rest := []) X (kX5_four l Dd Y ad F4 x2 F6 h5) (cwV 1 X.1.2.2.2.2 gX5_append_X5_four rfl rfl rfl (by decide +kernel) ⟨Nat.le_of_ble_eq_true rfl, Nat.le_of_ble_eq_true rfl⟩) hW 0 5 rfl rfl rfl rfl hl.1 rfl (Nat.le_of_ble_eq_true rfl) dX5_append_27 ⟨Nat.zero_le _, Nat.zero_le _⟩ (fun H locs hW => ?_)
    refine lv_aload_n hx hb dX5_append_30 rfl (lv_at hl 0 rfl) ?_
    refine lv_iload_n hx hb dX5_append_31 rfl (lv_at hl 3 rfl) ?_
    obtain ⟨F8, h7, hd⟩ := bp_e hd
    refine cVv_ (rest := []) X (kX5_four l Dd Y ad F6 x3 F8 h7) (cwV 1 X.1.2.2.2.2 gX5_append_X5_four rfl rfl rfl (by decide +kernel) ⟨Nat.le_of_ble_eq_true rfl, Nat.le_of_ble_eq_true rfl⟩) hW 0 5 rfl rfl rfl rfl hl.1 rfl (Nat.le_of_ble_eq_true rfl) dX5_append_32 ⟨Nat.zero_le _, Nat.zero_le _⟩ (fun H locs hW => ?_)
    refine lv_aload_n hx hb dX5_append_35 rfl (lv_at hl 0 rfl) ?_
    refine lv_iload hx hb dX5_append_36 (lv_at hl 4 rfl) ?_
    obtain ⟨F10, h9, hd⟩ := bp_e hd
    refine cVv_ (rest := []) X (kX5_four l Dd Y ad F8 x4 F10 h9) (cwV 1 X.1.2.2.2.2 gX5_append_X5_four rfl rfl rfl (by decide +kernel) ⟨Nat.le_of_ble_eq_true rfl, Nat.le_of_ble_eq_true rfl⟩) hW 0 5 rfl rfl rfl rfl hl.1 rfl (Nat.le_of_ble_eq_true rfl) dX5_append_38 ⟨Nat.zero_le _, Nat.zero_le _⟩ (fun H locs hW => ?_)
    refine lv_aload_n hx hb dX5_append_41 rfl (lv_at hl 0 rfl) ?_
    refine lv_iload hx hb dX5_append_42 (lv_at hl 5 rfl) ?_
    obtain ⟨F12, h11, hd⟩ := bp_e hd
    refine cVv_ (rest := []) X (kX5_four l Dd Y ad F10 x5 F12 h11) (cwV 1 X.1.2.2.2.2 gX5_append_X5_four rfl rfl rfl (by decide +kernel) ⟨Nat.le_of_ble_eq_true rfl, Nat.le_of_ble_eq_true rfl⟩) hW 0 5 rfl rfl rfl rfl hl.1 rfl (Nat.le_of_ble_eq_true rfl) dX5_append_44 ⟨Nat.zero_le _, Nat.zero_le _⟩ (fun H locs hW => ?_)
    refine lv_aload_n hx hb dX5_append_47 rfl (lv_at hl 0 rfl) ?_
    refine g_ X hinX5 hW 0 rfl rfl 7 (by decide) 2 rfl rfl rfl dX5_append_48 ?_
    obtain ⟨rfl, rfl⟩ := Prod.mk.inj (Option.some.inj hd)
    exact hQ _ _ _ _ rfl hW dX5_append_51
  · replace hd := if_f c2 hd
    refine lv_iconst (v := (-1)) hx hb dX5_append_18 (by decide) ?_
    obtain ⟨rfl, rfl⟩ := Prod.mk.inj (Option.some.inj hd)
    exact hQ _ _ _ _ rfl hW dX5_append_19
abbrev rmX5_errorOffset : Room := { frames := 0, cells := 0, slots := 0, locals := 0 }
set_option maxRecDepth 100000 in
set_option maxHeartbeats 4000000 in
theorem kX5_errorOffset (l : Launch) (Dd : va_G) (Y : yT) (ad : Nat → Nat) (F : gF) (r : Int32) (F' : gF) (hd : dnX5_errorOffset F = some (r, F')) : MG l yX5_errorOffset wsX5_errorOffset rmX5_errorOffset Dd Y [.ref (ad 0)] (WM Y ad F) (WM Y ad F') (some (.int r)) := by
  refine MGi (cc := cX5_errorOffset) (maxL := 1) (ty := .int) (by decide) rfl (Nat.le_of_ble_eq_true rfl) (fun {p e s m args below meth c A} ls Q X hW hl hQ => ?_)
  have hx := X.x
  have hb := X.b
  have hl : lv_has ls 1 [(0, .ref (ad 0))] := hl
  have hinX5 : ∀ w ∈ wsX50, w ∈ wsX5_errorOffset := fun w h => List.mem_cons_of_mem _ (List.mem_append_right _ h)
  unfold dnX5_errorOffset at hd
  refine lv_aload_n hx hb dX5_errorOffset_0 rfl (lv_at hl 0 rfl) ?_
  refine lv_iconst (v := 0) hx hb dX5_errorOffset_1 (by decide) ?_
  obtain ⟨F1, eF1, hd⟩ := bw_e hd
  refine p_ (ty := .int) X hinX5 tyX5 tyX5_ok nmX5 hW 0 rfl rfl 0 (by decide) 1 rfl rfl rfl (by decide +kernel) rfl rfl (Nat.le_of_ble_eq_true rfl) dX5_errorOffset_2 (ws' := (WM Y ad F1)) (by rw [eF1]; rfl) (fun H locs hW => ?_)
  refine lv_aload_n hx hb dX5_errorOffset_5 rfl (lv_at hl 0 rfl) ?_
  refine g_ X hinX5 hW 0 rfl rfl 11 (by decide) 2 rfl rfl rfl dX5_errorOffset_6 ?_
  obtain ⟨rfl, rfl⟩ := Prod.mk.inj (Option.some.inj hd)
  exact hQ _ _ _ _ rfl hW dX5_errorOffset_9
abbrev rmX5_fails : Room := { frames := 0, cells := 0, slots := 0, locals := 0 }
set_option maxRecDepth 100000 in
set_option maxHeartbeats 4000000 in
theorem kX5_fails (l : Launch) (Dd : va_G) (Y : yT) (ad : Nat → Nat) (F : gF) (x1 : Int32) (x2 : Int32) (r : Int32) (F' : gF) (hd : dnX5_fails F x1 x2 = some (r, F')) : MG l yX5_fails wsX5_fails rmX5_fails Dd Y [.ref (ad 0), .int x1, .int x2] (WM Y ad F) (WM Y ad F') (some (.int r)) := by
  refine MGi (cc := cX5_fails) (maxL := 3) (ty := .boolean) (by decide) rfl (Nat.le_of_ble_eq_true rfl) (fun {p e s m args below meth c A} ls Q X hW hl hQ => ?_)
  have hx := X.x
  have hb := X.b
  have hl : lv_has ls 3 [(0, .ref (ad 0)), (1, .int x1), (2, .int x2)] := hl
  have hinX5 : ∀ w ∈ wsX50, w ∈ wsX5_fails := fun w h => List.mem_cons_of_mem _ (List.mem_append_right _ h)
  unfold dnX5_fails at hd
  refine lv_aload_n hx hb dX5_fails_0 rfl (lv_at hl 0 rfl) ?_
  refine g_ X hinX5 hW 0 rfl rfl 10 (by decide) 1 rfl rfl rfl dX5_fails_1 ?_
  refine lv_if_eq (tgt := 9) hx hb dX5_fails_4 (by decide) (fun c1 => ?_) (fun c1 => ?_)
  · replace hd := if_t c1 hd
    refine lv_aload_n hx hb dX5_fails_9 rfl (lv_at hl 0 rfl) ?_
    refine lv_iload_n hx hb dX5_fails_10 rfl (lv_at hl 1 rfl) ?_
    obtain ⟨F2, eF2, hd⟩ := bw_e hd
    refine p_ (ty := .int) X hinX5 tyX5 tyX5_ok nmX5 hW 0 rfl rfl 10 (by decide) 1 rfl rfl rfl (by decide +kernel) rfl rfl (Nat.le_of_ble_eq_true rfl) dX5_fails_11 (ws' := (WM Y ad F2)) (by rw [eF2]; rfl) (fun H locs hW => ?_)
    refine lv_aload_n hx hb dX5_fails_14 rfl (lv_at hl 0 rfl) ?_
    refine lv_iload_n hx hb dX5_fails_15 rfl (lv_at hl 2 rfl) ?_
    obtain ⟨F3, eF3, hd⟩ := bw_e hd
    refine p_ (ty := .int) X hinX5 tyX5 tyX5_ok nmX5 hW 0 rfl rfl 11 (by decide) 2 rfl rfl rfl (by decide +kernel) rfl rfl (Nat.le_of_ble_eq_true rfl) dX5_fails_16 (ws' := (WM Y ad F3)) (by rw [eF3]; rfl) (fun H locs hW => ?_)
    refine lv_iconst (v := 0) hx hb dX5_fails_19 (by decide) ?_
    obtain ⟨rfl, rfl⟩ := Prod.mk.inj (Option.some.inj hd)
    exact hQ _ _ _ _ (nz_b (Or.inl rfl)) hW dX5_fails_20
  · replace hd := if_f c1 hd
    refine lv_iconst (v := 0) hx hb dX5_fails_7 (by decide) ?_
    obtain ⟨rfl, rfl⟩ := Prod.mk.inj (Option.some.inj hd)
    exact hQ _ _ _ _ (nz_b (Or.inl rfl)) hW dX5_fails_8
abbrev rmX5_here : Room := { frames := 0, cells := 0, slots := 0, locals := 0 }
set_option maxRecDepth 100000 in
set_option maxHeartbeats 4000000 in
theorem kX5_here (l : Launch) (Dd : va_G) (Y : yT) (ad : Nat → Nat) (F : gF) (r : Int32) (F' : gF) (hd : dnX5_here F = some (r, F')) : MG l yX5_here wsX5_here rmX5_here Dd Y [.ref (ad 0)] (WM Y ad F) (WM Y ad F') (some (.int r)) := by
  refine MGi (cc := cX5_here) (maxL := 1) (ty := .int) (by decide) rfl (Nat.le_of_ble_eq_true rfl) (fun {p e s m args below meth c A} ls Q X hW hl hQ => ?_)
  have hx := X.x
  have hb := X.b
  have hl : lv_has ls 1 [(0, .ref (ad 0))] := hl
  have hinX5 : ∀ w ∈ wsX50, w ∈ wsX5_here := fun w h => List.mem_cons_of_mem _ (List.mem_append_right _ h)
  unfold dnX5_here at hd
  have K0 : ∀ (n : Nat) (F : gF) (z : Nat × gF), lpX5_here_0 n F = some z → ∀ (H : Heap) (locs : List Loc) (ls : Array Slot), Wd Dd A s.heap (WM Y ad F) H locs → lv_has ls 1 [(0, .ref (ad 0))] → (∀ (H : Heap) (locs : List Loc) (ls : Array Slot), z.1 = 0 → Wd Dd A s.heap (WM Y ad z.2) H locs → lv_has ls 1 [(0, .ref (ad 0))] → W p l e rmX5_here s m args below meth c H locs 0 0 Q (F0 m 38 ls [])) → W p l e rmX5_here s m args below meth c H locs 0 0 Q (F0 m 0 ls []) := by
    intro n
    induction n with
    | zero => intro F z hd; cases hd
    | succ n ih =>
      intro F z hd H locs ls hW hl kx0
      unfold lpX5_here_0 at hd
      refine lv_aload_n hx hb dX5_here_0 rfl (lv_at hl 0 rfl) ?_
      refine g_ X hinX5 hW 0 rfl rfl 9 (by decide) 1 rfl rfl rfl dX5_here_1 ?_
      refine lv_aload_n hx hb dX5_here_4 rfl (lv_at hl 0 rfl) ?_
      refine g_ X hinX5 hW 0 rfl rfl 8 (by decide) 2 rfl rfl rfl dX5_here_5 ?_
      refine lv_icmp_ge (tgt := 38) hx hb dX5_here_8 (by decide) (fun c1 => ?_) (fun c1 => ?_)
      · replace hd := if_t c1 hd
        cases hd
        exact kx0 _ _ _ rfl hW (lv_sub hl [0] rfl)
      · replace hd := if_f c1 hd
        refine lv_aload_n hx hb dX5_here_11 rfl (lv_at hl 0 rfl) ?_
        refine g_ X hinX5 hW 0 rfl rfl 6 (by decide) 3 rfl rfl rfl dX5_here_12 ?_
        refine lv_aload_n hx hb dX5_here_15 rfl (lv_at hl 0 rfl) ?_
        refine g_ X hinX5 hW 0 rfl rfl 9 (by decide) 1 rfl rfl rfl dX5_here_16 ?_
        obtain ⟨hi2, hd⟩ := ra_e hd
        refine a_ X hW 4 rfl rfl hi2 dX5_here_19 ?_
        generalize (F 4) (F 0 9).toNatClampNeg = v3 at hd ⊢
        refine lv_bipush (v := 32) hx hb dX5_here_20 (by decide) ?_
        refine lv_icmp_ne (tgt := 38) hx hb dX5_here_22 (by decide) (fun c4 => ?_) (fun c4 => ?_)
        · replace hd := if_f c4 hd
          cases hd
          exact kx0 _ _ _ rfl hW (lv_sub hl [0] rfl)
        · replace hd := if_t c4 hd
          refine lv_aload_n hx hb dX5_here_25 rfl (lv_at hl 0 rfl) ?_
          refine lv_dup hx hb dX5_here_26 rfl ?_
          refine g_ X hinX5 hW 0 rfl rfl 9 (by decide) 1 rfl rfl rfl dX5_here_27 ?_
          refine lv_iconst (v := 1) hx hb dX5_here_30 (by decide) ?_
          refine lv_iadd hx hb dX5_here_31 ?_
          obtain ⟨F5, eF5, hd⟩ := bw_e hd
          refine p_ (ty := .int) X hinX5 tyX5 tyX5_ok nmX5 hW 0 rfl rfl 9 (by decide) 1 rfl rfl rfl (by decide +kernel) rfl rfl (Nat.le_of_ble_eq_true rfl) dX5_here_32 (ws' := (WM Y ad F5)) (by rw [eF5]; rfl) (fun H locs hW => ?_)
          refine lv_goto (tgt := 0) hx hb dX5_here_35 (by decide) ?_
          exact ih  F5 z hd _ _ _ hW (lv_sub hl [0] rfl) kx0
  obtain ⟨z0_5, hz0_5, hd⟩ := bp_e hd
  refine K0 FU F z0_5 hz0_5 _ _ _ hW (lv_sub hl [0] rfl) (fun H locs ls e0 hW hl => ?_)
  refine lv_aload_n hx hb dX5_here_38 rfl (lv_at hl 0 rfl) ?_
  refine g_ X hinX5 hW 0 rfl rfl 9 (by decide) 1 rfl rfl rfl dX5_here_39 ?_
  refine lv_aload_n hx hb dX5_here_42 rfl (lv_at hl 0 rfl) ?_
  refine g_ X hinX5 hW 0 rfl rfl 8 (by decide) 2 rfl rfl rfl dX5_here_43 ?_
  refine lv_icmp_ge (tgt := 61) hx hb dX5_here_46 (by decide) (fun c7 => ?_) (fun c7 => ?_)
  · replace hd := if_t c7 hd
    refine lv_iconst (v := (-1)) hx hb dX5_here_61 (by decide) ?_
    obtain ⟨rfl, rfl⟩ := Prod.mk.inj (Option.some.inj hd)
    exact hQ _ _ _ _ rfl hW dX5_here_62
  · replace hd := if_f c7 hd
    refine lv_aload_n hx hb dX5_here_49 rfl (lv_at hl 0 rfl) ?_
    refine g_ X hinX5 hW 0 rfl rfl 6 (by decide) 3 rfl rfl rfl dX5_here_50 ?_
    refine lv_aload_n hx hb dX5_here_53 rfl (lv_at hl 0 rfl) ?_
    refine g_ X hinX5 hW 0 rfl rfl 9 (by decide) 1 rfl rfl rfl dX5_here_54 ?_
    obtain ⟨hi8, hd⟩ := ra_e hd
    refine a_ X hW 4 rfl rfl hi8 dX5_here_57 ?_
    generalize (z0_5.2 4) (z0_5.2 0 9).toNatClampNeg = v9 at hd ⊢
    refine lv_goto (tgt := 62) hx hb dX5_here_58 (by decide) ?_
    obtain ⟨rfl, rfl⟩ := Prod.mk.inj (Option.some.inj hd)
    exact hQ _ _ _ _ rfl hW dX5_here_62
abbrev rmX5_isSmall : Room := { frames := 0, cells := 0, slots := 0, locals := 0 }
set_option maxRecDepth 100000 in
set_option maxHeartbeats 4000000 in
theorem kX5_isSmall (l : Launch) (Dd : va_G) (Y : yT) (x0 : Int32) (r : Int32) (hd : dnX5_isSmall x0 = some r) : MG l yX5_isSmall wsX5_isSmall rmX5_isSmall Dd Y [.int x0] [] [] (some (.int r)) := by
  refine MGi (cc := cX5_isSmall) (maxL := 1) (ty := .boolean) (by decide) rfl (Nat.le_of_ble_eq_true rfl) (fun {p e s m args below meth c A} ls Q X hW hl hQ => ?_)
  have hx := X.x
  have hb := X.b
  have hl : lv_has ls 1 [(0, .int x0)] := hl
  unfold dnX5_isSmall at hd
  refine lv_iload_n hx hb dX5_isSmall_0 rfl (lv_at hl 0 rfl) ?_
  refine lv_bipush (v := 97) hx hb dX5_isSmall_1 (by decide) ?_
  refine lv_icmp_lt (tgt := 16) hx hb dX5_isSmall_3 (by decide) (fun c1 => ?_) (fun c1 => ?_)
  · replace hd := if_t c1 hd
    refine lv_iconst (v := 0) hx hb dX5_isSmall_16 (by decide) ?_
    have hd := Option.some.inj hd
    subst hd
    exact hQ _ _ _ _ (nz_b (Or.inl rfl)) hW dX5_isSmall_17
  · replace hd := if_f c1 hd
    refine lv_iload_n hx hb dX5_isSmall_6 rfl (lv_at hl 0 rfl) ?_
    refine lv_bipush (v := 122) hx hb dX5_isSmall_7 (by decide) ?_
    refine lv_icmp_gt (tgt := 16) hx hb dX5_isSmall_9 (by decide) (fun c2 => ?_) (fun c2 => ?_)
    · replace hd := if_t c2 hd
      refine lv_iconst (v := 0) hx hb dX5_isSmall_16 (by decide) ?_
      have hd := Option.some.inj hd
      subst hd
      exact hQ _ _ _ _ (nz_b (Or.inl rfl)) hW dX5_isSmall_17
    · replace hd := if_f c2 hd
      refine lv_iconst (v := 1) hx hb dX5_isSmall_12 (by decide) ?_
      refine lv_goto (tgt := 17) hx hb dX5_isSmall_13 (by decide) ?_
      have hd := Option.some.inj hd
      subst hd
      exact hQ _ _ _ _ (nz_b (Or.inr rfl)) hW dX5_isSmall_17
abbrev rmX5_isDigit : Room := { frames := 0, cells := 0, slots := 0, locals := 0 }
set_option maxRecDepth 100000 in
set_option maxHeartbeats 4000000 in
theorem kX5_isDigit (l : Launch) (Dd : va_G) (Y : yT) (x0 : Int32) (r : Int32) (hd : dnX5_isDigit x0 = some r) : MG l yX5_isDigit wsX5_isDigit rmX5_isDigit Dd Y [.int x0] [] [] (some (.int r)) := by
  refine MGi (cc := cX5_isDigit) (maxL := 1) (ty := .boolean) (by decide) rfl (Nat.le_of_ble_eq_true rfl) (fun {p e s m args below meth c A} ls Q X hW hl hQ => ?_)
  have hx := X.x
  have hb := X.b
  have hl : lv_has ls 1 [(0, .int x0)] := hl
  unfold dnX5_isDigit at hd
  refine lv_iload_n hx hb dX5_isDigit_0 rfl (lv_at hl 0 rfl) ?_
  refine lv_bipush (v := 48) hx hb dX5_isDigit_1 (by decide) ?_
  refine lv_icmp_lt (tgt := 16) hx hb dX5_isDigit_3 (by decide) (fun c1 => ?_) (fun c1 => ?_)
  · replace hd := if_t c1 hd
    refine lv_iconst (v := 0) hx hb dX5_isDigit_16 (by decide) ?_
    have hd := Option.some.inj hd
    subst hd
    exact hQ _ _ _ _ (nz_b (Or.inl rfl)) hW dX5_isDigit_17
  · replace hd := if_f c1 hd
    refine lv_iload_n hx hb dX5_isDigit_6 rfl (lv_at hl 0 rfl) ?_
    refine lv_bipush (v := 57) hx hb dX5_isDigit_7 (by decide) ?_
    refine lv_icmp_gt (tgt := 16) hx hb dX5_isDigit_9 (by decide) (fun c2 => ?_) (fun c2 => ?_)
    · replace hd := if_t c2 hd
      refine lv_iconst (v := 0) hx hb dX5_isDigit_16 (by decide) ?_
      have hd := Option.some.inj hd
      subst hd
      exact hQ _ _ _ _ (nz_b (Or.inl rfl)) hW dX5_isDigit_17
    · replace hd := if_f c2 hd
      refine lv_iconst (v := 1) hx hb dX5_isDigit_12 (by decide) ?_
      refine lv_goto (tgt := 17) hx hb dX5_isDigit_13 (by decide) ?_
      have hd := Option.some.inj hd
      subst hd
      exact hQ _ _ _ _ (nz_b (Or.inr rfl)) hW dX5_isDigit_17
abbrev rmX5_passes : Room := { frames := 4, cells := 0, slots := 0, locals := 85 }
set_option maxRecDepth 100000 in
set_option maxHeartbeats 4000000 in
theorem kX5_passes (l : Launch) (Dd : va_G) (Y : yT) (ad : Nat → Nat) (F : gF) (x1 : Nat) (hw : x1 < 6) (r : Int32) (F' : gF) (hd : dnX5_passes F x1 = some (r, F')) : MG l yX5_passes wsX5_passes rmX5_passes Dd Y [.ref (ad 0), .ref (Y.2.2.2.1 x1)] (WM Y ad F) (WM Y ad F') (some (.int r)) := by
  refine MGi (cc := cX5_passes) (maxL := 4) (ty := .boolean) (by decide) rfl (Nat.le_of_ble_eq_true rfl) (fun {p e s m args below meth c A} ls Q X hW hl hQ => ?_)
  have hx := X.x
  have hb := X.b
  have hl : lv_has ls 4 [(0, .ref (ad 0)), (1, .ref (Y.2.2.2.1 x1))] := hl
  have hinX5 : ∀ w ∈ wsX50, w ∈ wsX5_passes := fun w h => List.mem_cons_of_mem _ (List.mem_append_right _ h)
  unfold dnX5_passes at hd
  have K55 : ∀ (F : gF) (x2 : Int32) (n : Nat) (x3 : Int32) (z : Nat), lpX5_passes_55 F x1 x2 n x3 = some z → ∀ (H : Heap) (locs : List Loc) (ls : Array Slot), Wd Dd A s.heap (WM Y ad F) H locs → lv_has ls 4 [(0, .ref (ad 0)), (1, .ref (Y.2.2.2.1 x1)), (2, .int x2), (3, .int x3)] → (∀ (H : Heap) (locs : List Loc) (ls : Array Slot), z = 0 → Wd Dd A s.heap (WM Y ad F) H locs → lv_has ls 4 [] → W p l e rmX5_passes s m args below meth c H locs 0 0 Q (F0 m 79 ls [])) → (∀ (H : Heap) (locs : List Loc) (ls : Array Slot), z = 1 → Wd Dd A s.heap (WM Y ad F) H locs → lv_has ls 4 [(0, .ref (ad 0)), (2, .int x2)] → W p l e rmX5_passes s m args below meth c H locs 0 0 Q (F0 m 87 ls [])) → W p l e rmX5_passes s m args below meth c H locs 0 0 Q (F0 m 55 ls []) := by
    intro F x2 n
    induction n with
    | zero => intro x3 z hd; cases hd
    | succ n ih =>
      intro x3 z hd H locs ls hW hl kx0 kx1
      unfold lpX5_passes_55 at hd
      refine lv_iload_n hx hb dX5_passes_55 rfl (lv_at hl 3 rfl) ?_
      refine lv_iload_n hx hb dX5_passes_56 rfl (lv_at hl 2 rfl) ?_
      refine lv_icmp_ge (tgt := 87) hx hb dX5_passes_57 (by decide) (fun c1 => ?_) (fun c1 => ?_)
      · replace hd := if_t c1 hd
        cases hd
        exact kx1 _ _ _ rfl hW (lv_sub hl [0, 2] rfl)
      · replace hd := if_f c1 hd
        refine lv_aload_n hx hb dX5_passes_60 rfl (lv_at hl 0 rfl) ?_
        refine g_ X hinX5 hW 0 rfl rfl 6 (by decide) 3 rfl rfl rfl dX5_passes_61 ?_
        refine lv_aload_n hx hb dX5_passes_64 rfl (lv_at hl 0 rfl) ?_
        refine g_ X hinX5 hW 0 rfl rfl 9 (by decide) 1 rfl rfl rfl dX5_passes_65 ?_
        refine lv_iload_n hx hb dX5_passes_68 rfl (lv_at hl 3 rfl) ?_
        refine lv_iadd hx hb dX5_passes_69 ?_
        obtain ⟨hi2, hd⟩ := ra_e hd
        refine a_ X hW 4 rfl rfl hi2 dX5_passes_70 ?_
        generalize (F 4) ((F 0 9) + x3).toNatClampNeg = v3 at hd ⊢
        refine lv_aload_n hx hb dX5_passes_71 rfl (lv_at hl 1 rfl) ?_
        refine lv_iload_n hx hb dX5_passes_72 rfl (lv_at hl 3 rfl) ?_
        obtain ⟨hi4, hd⟩ := sc_e hd
        refine cK_ (rest := [.int v3]) X (kJ0_charAt_5068e l Dd Y x1 hw x3 hi4) (cwV 1 X.1.2.2.2.2 gX5_passes_J0_charAt_5068e rfl rfl rfl (by decide +kernel) ⟨Nat.le_of_ble_eq_true rfl, Nat.le_of_ble_eq_true rfl⟩) hW hw rfl hl.1 rfl (Nat.le_of_ble_eq_true rfl) dX5_passes_73 ⟨Nat.zero_le _, Nat.zero_le _⟩ (fun H locs hW => ?_)
        generalize sCh x1 x3 = v5 at hd ⊢
        refine lv_icmp_eq (tgt := 81) hx hb dX5_passes_76 (by decide) (fun c6 => ?_) (fun c6 => ?_)
        · replace hd := if_t c6 hd
          refine lv_iinc (v := x3 + 1) (lv' := [(3, .int (x3 + 1)), (0, .ref (ad 0)), (1, .ref (Y.2.2.2.1 x1)), (2, .int x2)]) hx hb dX5_passes_81 hl (k := 3) rfl rfl (by decide) rfl (fun ls hl => ?_)
          refine lv_goto (tgt := 55) hx hb dX5_passes_84 (by decide) ?_
          exact ih (x3 + 1) z hd _ _ _ hW (lv_sub hl [1, 2, 3, 0] rfl) kx0 kx1
        · replace hd := if_f c6 hd
          cases hd
          exact kx0 _ _ _ rfl hW (lv_sub hl [] rfl)
  have K7 : ∀ (F : gF) (n : Nat) (x2 : Int32) (z : Nat × Int32), lpX5_passes_7 F x1 n x2 = some z → ∀ (H : Heap) (locs : List Loc) (ls : Array Slot), Wd Dd A s.heap (WM Y ad F) H locs → lv_has ls 4 [(0, .ref (ad 0)), (1, .ref (Y.2.2.2.1 x1)), (2, .int x2)] → (∀ (H : Heap) (locs : List Loc) (ls : Array Slot), z.1 = 0 → Wd Dd A s.heap (WM Y ad F) H locs → lv_has ls 4 [(0, .ref (ad 0)), (1, .ref (Y.2.2.2.1 x1)), (2, .int z.2)] → W p l e rmX5_passes s m args below meth c H locs 0 0 Q (F0 m 43 ls [])) → W p l e rmX5_passes s m args below meth c H locs 0 0 Q (F0 m 7 ls []) := by
    intro F n
    induction n with
    | zero => intro x2 z hd; cases hd
    | succ n ih =>
      intro x2 z hd H locs ls hW hl kx0
      unfold lpX5_passes_7 at hd
      refine lv_aload_n hx hb dX5_passes_7 rfl (lv_at hl 0 rfl) ?_
      refine g_ X hinX5 hW 0 rfl rfl 9 (by decide) 1 rfl rfl rfl dX5_passes_8 ?_
      refine lv_iload_n hx hb dX5_passes_11 rfl (lv_at hl 2 rfl) ?_
      refine lv_iadd hx hb dX5_passes_12 ?_
      refine lv_aload_n hx hb dX5_passes_13 rfl (lv_at hl 0 rfl) ?_
      refine g_ X hinX5 hW 0 rfl rfl 8 (by decide) 2 rfl rfl rfl dX5_passes_14 ?_
      refine lv_icmp_ge (tgt := 43) hx hb dX5_passes_17 (by decide) (fun c7 => ?_) (fun c7 => ?_)
      · replace hd := if_t c7 hd
        cases hd
        exact kx0 _ _ _ rfl hW (lv_sub hl [0, 1, 2] rfl)
      · replace hd := if_f c7 hd
        refine lv_aload_n hx hb dX5_passes_20 rfl (lv_at hl 0 rfl) ?_
        refine g_ X hinX5 hW 0 rfl rfl 6 (by decide) 3 rfl rfl rfl dX5_passes_21 ?_
        refine lv_aload_n hx hb dX5_passes_24 rfl (lv_at hl 0 rfl) ?_
        refine g_ X hinX5 hW 0 rfl rfl 9 (by decide) 1 rfl rfl rfl dX5_passes_25 ?_
        refine lv_iload_n hx hb dX5_passes_28 rfl (lv_at hl 2 rfl) ?_
        refine lv_iadd hx hb dX5_passes_29 ?_
        obtain ⟨hi8, hd⟩ := ra_e hd
        refine a_ X hW 4 rfl rfl hi8 dX5_passes_30 ?_
        generalize (F 4) ((F 0 9) + x2).toNatClampNeg = v9 at hd ⊢
        obtain ⟨r11, h10, hd⟩ := bp_e hd
        refine cSi_ (rest := []) X (kX5_isSmall l Dd Y v9 r11 h10) (va_cwS 1 X.1.2.2.2.2 gX5_passes_X5_isSmall rfl rfl rfl (by decide +kernel) ⟨Nat.le_of_ble_eq_true rfl, Nat.le_of_ble_eq_true rfl⟩) hW rfl hl.1 rfl (Nat.le_of_ble_eq_true rfl) dX5_passes_31 ⟨Nat.zero_le _, Nat.zero_le _⟩ (fun H locs hW => ?_)
        refine lv_if_eq (tgt := 43) hx hb dX5_passes_34 (by decide) (fun c12 => ?_) (fun c12 => ?_)
        · replace hd := if_t c12 hd
          cases hd
          exact kx0 _ _ _ rfl hW (lv_sub hl [0, 1, 2] rfl)
        · replace hd := if_f c12 hd
          refine lv_iinc (v := x2 + 1) (lv' := [(2, .int (x2 + 1)), (0, .ref (ad 0)), (1, .ref (Y.2.2.2.1 x1))]) hx hb dX5_passes_37 hl (k := 2) rfl rfl (by decide) rfl (fun ls hl => ?_)
          refine lv_goto (tgt := 7) hx hb dX5_passes_40 (by decide) ?_
          exact ih (x2 + 1) z hd _ _ _ hW (lv_sub hl [1, 2, 0] rfl) kx0
  refine lv_aload_n hx hb dX5_passes_0 rfl (lv_at hl 0 rfl) ?_
  obtain ⟨r14, F15, h13, hd⟩ := bs_e hd
  refine cVi_ (rest := []) X (kX5_here l Dd Y ad F r14 F15 h13) (cwV 0 X.1.2.2.2.2 gX5_passes_X5_here rfl rfl rfl (by decide +kernel) ⟨Nat.le_of_ble_eq_true rfl, Nat.le_of_ble_eq_true rfl⟩) hW 0 5 rfl rfl rfl rfl hl.1 rfl (Nat.le_of_ble_eq_true rfl) dX5_passes_1 ⟨Nat.zero_le _, Nat.zero_le _⟩ (fun H locs hW => ?_)
  refine lv_pop hx hb dX5_passes_4 rfl ?_
  refine lv_iconst (v := 0) hx hb dX5_passes_5 (by decide) ?_
  refine lv_istore_n (lv' := [(2, .int 0), (0, .ref (ad 0)), (1, .ref (Y.2.2.2.1 x1))]) hx hb dX5_passes_6 rfl hl (by decide) rfl (fun ls hl => ?_)
  obtain ⟨z7_15, hz7_15, hd⟩ := bp_e hd
  refine K7 F15 FU 0 z7_15 hz7_15 _ _ _ hW (lv_sub hl [1, 2, 0] rfl) (fun H locs ls e7 hW hl => ?_)
  refine lv_iload_n hx hb dX5_passes_43 rfl (lv_at hl 2 rfl) ?_
  refine lv_aload_n hx hb dX5_passes_44 rfl (lv_at hl 1 rfl) ?_
  refine cK_ (rest := [.int z7_15.2]) X (kJ0_length_8abf5 l Dd Y x1 hw) (cwV 0 X.1.2.2.2.2 gX5_passes_J0_length_8abf5 rfl rfl rfl (by decide +kernel) ⟨Nat.le_of_ble_eq_true rfl, Nat.le_of_ble_eq_true rfl⟩) hW hw rfl hl.1 rfl (Nat.le_of_ble_eq_true rfl) dX5_passes_45 ⟨Nat.zero_le _, Nat.zero_le _⟩ (fun H locs hW => ?_)
  refine lv_icmp_eq (tgt := 53) hx hb dX5_passes_48 (by decide) (fun c17 => ?_) (fun c17 => ?_)
  · replace hd := if_t c17 hd
    refine lv_iconst (v := 0) hx hb dX5_passes_53 (by decide) ?_
    refine lv_istore_n (lv' := [(3, .int 0), (0, .ref (ad 0)), (1, .ref (Y.2.2.2.1 x1)), (2, .int z7_15.2)]) hx hb dX5_passes_54 rfl hl (by decide) rfl (fun ls hl => ?_)
    obtain ⟨z55_17, hz55_17, hd⟩ := bp_e hd
    refine K55 F15 z7_15.2 FU 0 z55_17 hz55_17 _ _ _ hW (lv_sub hl [1, 2, 3, 0] rfl) (fun H locs ls e55 hW hl => ?_) (fun H locs ls e55 hW hl => ?_)
    · replace hd := if_t e55 (hd)
      refine lv_iconst (v := 0) hx hb dX5_passes_79 (by decide) ?_
      obtain ⟨rfl, rfl⟩ := Prod.mk.inj (Option.some.inj hd)
      exact hQ _ _ _ _ (nz_b (Or.inl rfl)) hW dX5_passes_80
    · replace hd := if_f (by rw [e55]; decide) hd
      refine lv_aload_n hx hb dX5_passes_87 rfl (lv_at hl 0 rfl) ?_
      refine lv_dup hx hb dX5_passes_88 rfl ?_
      refine g_ X hinX5 hW 0 rfl rfl 9 (by decide) 1 rfl rfl rfl dX5_passes_89 ?_
      refine lv_iload_n hx hb dX5_passes_92 rfl (lv_at hl 1 rfl) ?_
      refine lv_iadd hx hb dX5_passes_93 ?_
      obtain ⟨F19, eF19, hd⟩ := bw_e hd
      refine p_ (ty := .int) X hinX5 tyX5 tyX5_ok nmX5 hW 0 rfl rfl 9 (by decide) 1 rfl rfl rfl (by decide +kernel) rfl rfl (Nat.le_of_ble_eq_true rfl) dX5_passes_94 (ws' := (WM Y ad F19)) (by rw [eF19]; rfl) (fun H locs hW => ?_)
      refine lv_iconst (v := 1) hx hb dX5_passes_97 (by decide) ?_
      obtain ⟨rfl, rfl⟩ := Prod.mk.inj (Option.some.inj hd)
      exact hQ _ _ _ _ (nz_b (Or.inr rfl)) hW dX5_passes_98
  · replace hd := if_f c17 hd
    refine lv_iconst (v := 0) hx hb dX5_passes_51 (by decide) ?_
    obtain ⟨rfl, rfl⟩ := Prod.mk.inj (Option.some.inj hd)
    exact hQ _ _ _ _ (nz_b (Or.inl rfl)) hW dX5_passes_52
abbrev rmX5_sign : Room := { frames := 1, cells := 0, slots := 0, locals := 22 }
set_option maxRecDepth 100000 in
set_option maxHeartbeats 4000000 in
theorem kX5_sign (l : Launch) (Dd : va_G) (Y : yT) (ad : Nat → Nat) (F : gF) (x1 : Int32) (r : Int32) (F' : gF) (hd : dnX5_sign F x1 = some (r, F')) : MG l yX5_sign wsX5_sign rmX5_sign Dd Y [.ref (ad 0), .int x1] (WM Y ad F) (WM Y ad F') (some (.int r)) := by
  refine MGi (cc := cX5_sign) (maxL := 2) (ty := .boolean) (by decide) rfl (Nat.le_of_ble_eq_true rfl) (fun {p e s m args below meth c A} ls Q X hW hl hQ => ?_)
  have hx := X.x
  have hb := X.b
  have hl : lv_has ls 2 [(0, .ref (ad 0)), (1, .int x1)] := hl
  have hinX5 : ∀ w ∈ wsX50, w ∈ wsX5_sign := fun w h => List.mem_cons_of_mem _ (List.mem_append_right _ h)
  unfold dnX5_sign at hd
  refine lv_aload_n hx hb dX5_sign_0 rfl (lv_at hl 0 rfl) ?_
  obtain ⟨r2, F3, h1, hd⟩ := bs_e hd
  refine cVi_ (rest := []) X (kX5_here l Dd Y ad F r2 F3 h1) (cwV 0 X.1.2.2.2.2 gX5_sign_X5_here rfl rfl rfl (by decide +kernel) ⟨Nat.le_of_ble_eq_true rfl, Nat.le_of_ble_eq_true rfl⟩) hW 0 5 rfl rfl rfl rfl hl.1 rfl (Nat.le_of_ble_eq_true rfl) dX5_sign_1 ⟨Nat.zero_le _, Nat.zero_le _⟩ (fun H locs hW => ?_)
  refine lv_iload_n hx hb dX5_sign_4 rfl (lv_at hl 1 rfl) ?_
  refine lv_icmp_eq (tgt := 19) hx hb dX5_sign_5 (by decide) (fun c4 => ?_) (fun c4 => ?_)
  · replace hd := if_t c4 hd
    refine lv_aload_n hx hb dX5_sign_19 rfl (lv_at hl 0 rfl) ?_
    refine lv_dup hx hb dX5_sign_20 rfl ?_
    refine g_ X hinX5 hW 0 rfl rfl 9 (by decide) 1 rfl rfl rfl dX5_sign_21 ?_
    refine lv_iconst (v := 1) hx hb dX5_sign_24 (by decide) ?_
    refine lv_iadd hx hb dX5_sign_25 ?_
    obtain ⟨F5, eF5, hd⟩ := bw_e hd
    refine p_ (ty := .int) X hinX5 tyX5 tyX5_ok nmX5 hW 0 rfl rfl 9 (by decide) 1 rfl rfl rfl (by decide +kernel) rfl rfl (Nat.le_of_ble_eq_true rfl) dX5_sign_26 (ws' := (WM Y ad F5)) (by rw [eF5]; rfl) (fun H locs hW => ?_)
    refine lv_iconst (v := 1) hx hb dX5_sign_29 (by decide) ?_
    obtain ⟨rfl, rfl⟩ := Prod.mk.inj (Option.some.inj hd)
    exact hQ _ _ _ _ (nz_b (Or.inr rfl)) hW dX5_sign_30
  · replace hd := if_f c4 hd
    refine lv_aload_n hx hb dX5_sign_8 rfl (lv_at hl 0 rfl) ?_
    refine lv_bipush (v := (-2)) hx hb dX5_sign_9 (by decide) ?_
    refine lv_aload_n hx hb dX5_sign_11 rfl (lv_at hl 0 rfl) ?_
    refine g_ X hinX5 hW 0 rfl rfl 9 (by decide) 1 rfl rfl rfl dX5_sign_12 ?_
    obtain ⟨r7, F8, h6, hd⟩ := bs_e hd
    refine cVi_ (rest := []) X (kX5_fails l Dd Y ad F3 (-2) (F3 0 9) r7 F8 h6) (cwV 2 X.1.2.2.2.2 gX5_sign_X5_fails rfl rfl rfl (by decide +kernel) ⟨Nat.le_of_ble_eq_true rfl, Nat.le_of_ble_eq_true rfl⟩) hW 0 5 rfl rfl rfl rfl hl.1 rfl (Nat.le_of_ble_eq_true rfl) dX5_sign_15 ⟨Nat.zero_le _, Nat.zero_le _⟩ (fun H locs hW => ?_)
    obtain ⟨hz9, hd⟩ := rzs_e hd
    obtain ⟨rfl, rfl⟩ := Prod.mk.inj hd
    exact hQ _ _ _ _ (nz_b hz9) hW dX5_sign_18
abbrev rmX5_reads : Room := { frames := 1, cells := 0, slots := 0, locals := 22 }
set_option maxRecDepth 100000 in
set_option maxHeartbeats 4000000 in
theorem kX5_reads (l : Launch) (Dd : va_G) (Y : yT) (ad : Nat → Nat) (F : gF) (x1 : Int32) (x2 : Int32) (r : Int32) (F' : gF) (hd : dnX5_reads F x1 x2 = some (r, F')) : MG l yX5_reads wsX5_reads rmX5_reads Dd Y [.ref (ad 0), .int x1, .int x2] (WM Y ad F) (WM Y ad F') (some (.int r)) := by
  refine MGi (cc := cX5_reads) (maxL := 3) (ty := .boolean) (by decide) rfl (Nat.le_of_ble_eq_true rfl) (fun {p e s m args below meth c A} ls Q X hW hl hQ => ?_)
  have hx := X.x
  have hb := X.b
  have hl : lv_has ls 3 [(0, .ref (ad 0)), (1, .int x1), (2, .int x2)] := hl
  have hinX5 : ∀ w ∈ wsX50, w ∈ wsX5_reads := fun w h => List.mem_cons_of_mem _ (List.mem_append_right _ h)
  unfold dnX5_reads at hd
  have K34 : ∀ (x1 : Int32) (x2 : Int32) (n : Nat) (F : gF) (z : Nat × gF), lpX5_reads_34 x1 x2 n F = some z → ∀ (H : Heap) (locs : List Loc) (ls : Array Slot), Wd Dd A s.heap (WM Y ad F) H locs → lv_has ls 3 [(0, .ref (ad 0)), (1, .int x1), (2, .int x2)] → (∀ (H : Heap) (locs : List Loc) (ls : Array Slot), z.1 = 0 → Wd Dd A s.heap (WM Y ad z.2) H locs → lv_has ls 3 [(0, .ref (ad 0)), (1, .int x1), (2, .int x2)] → W p l e rmX5_reads s m args below meth c H locs 0 0 Q (F0 m 113 ls [])) → W p l e rmX5_reads s m args below meth c H locs 0 0 Q (F0 m 34 ls []) := by
    intro x1 x2 n
    induction n with
    | zero => intro F z hd; cases hd
    | succ n ih =>
      intro F z hd H locs ls hW hl kx0
      unfold lpX5_reads_34 at hd
      refine lv_aload_n hx hb dX5_reads_34 rfl (lv_at hl 0 rfl) ?_
      refine g_ X hinX5 hW 0 rfl rfl 9 (by decide) 1 rfl rfl rfl dX5_reads_35 ?_
      refine lv_aload_n hx hb dX5_reads_38 rfl (lv_at hl 0 rfl) ?_
      refine g_ X hinX5 hW 0 rfl rfl 8 (by decide) 4 rfl rfl rfl dX5_reads_39 ?_
      refine lv_icmp_ge (tgt := 113) hx hb dX5_reads_42 (by decide) (fun c1 => ?_) (fun c1 => ?_)
      · replace hd := if_t c1 hd
        cases hd
        exact kx0 _ _ _ rfl hW (lv_sub hl [0, 1, 2] rfl)
      · replace hd := if_f c1 hd
        refine lv_aload_n hx hb dX5_reads_45 rfl (lv_at hl 0 rfl) ?_
        refine g_ X hinX5 hW 0 rfl rfl 6 (by decide) 5 rfl rfl rfl dX5_reads_46 ?_
        refine lv_aload_n hx hb dX5_reads_49 rfl (lv_at hl 0 rfl) ?_
        refine g_ X hinX5 hW 0 rfl rfl 9 (by decide) 1 rfl rfl rfl dX5_reads_50 ?_
        obtain ⟨hi2, hd⟩ := ra_e hd
        refine a_ X hW 4 rfl rfl hi2 dX5_reads_53 ?_
        generalize (F 4) (F 0 9).toNatClampNeg = v3 at hd ⊢
        obtain ⟨r5, h4, hd⟩ := bp_e hd
        refine cSi_ (rest := []) X (kX5_isDigit l Dd Y v3 r5 h4) (va_cwS 1 X.1.2.2.2.2 gX5_reads_X5_isDigit rfl rfl rfl (by decide +kernel) ⟨Nat.le_of_ble_eq_true rfl, Nat.le_of_ble_eq_true rfl⟩) hW rfl hl.1 rfl (Nat.le_of_ble_eq_true rfl) dX5_reads_54 ⟨Nat.zero_le _, Nat.zero_le _⟩ (fun H locs hW => ?_)
        refine lv_if_eq (tgt := 113) hx hb dX5_reads_57 (by decide) (fun c6 => ?_) (fun c6 => ?_)
        · replace hd := if_t c6 hd
          cases hd
          exact kx0 _ _ _ rfl hW (lv_sub hl [0, 1, 2] rfl)
        · replace hd := if_f c6 hd
          refine lv_aload_n hx hb dX5_reads_60 rfl (lv_at hl 0 rfl) ?_
          refine lv_aload_n hx hb dX5_reads_61 rfl (lv_at hl 0 rfl) ?_
          refine g_ X hinX5 hW 0 rfl rfl 12 (by decide) 3 rfl rfl rfl dX5_reads_62 ?_
          refine lv_ldc hx hb X.1.2.2.2.1 (X.w (i := 6) rfl) dX5_reads_65 ?_
          refine lv_icmp_le (tgt := 77) hx hb dX5_reads_67 (by decide) (fun c7 => ?_) (fun c7 => ?_)
          · replace hd := if_t c7 hd
            refine lv_bipush (v := 10) hx hb dX5_reads_77 (by decide) ?_
            refine lv_aload_n hx hb dX5_reads_79 rfl (lv_at hl 0 rfl) ?_
            refine g_ X hinX5 hW 0 rfl rfl 12 (by decide) 3 rfl rfl rfl dX5_reads_80 ?_
            refine lv_imul hx hb dX5_reads_83 ?_
            refine lv_aload_n hx hb dX5_reads_84 rfl (lv_at hl 0 rfl) ?_
            refine g_ X hinX5 hW 0 rfl rfl 6 (by decide) 5 rfl rfl rfl dX5_reads_85 ?_
            refine lv_aload_n hx hb dX5_reads_88 rfl (lv_at hl 0 rfl) ?_
            refine g_ X hinX5 hW 0 rfl rfl 9 (by decide) 1 rfl rfl rfl dX5_reads_89 ?_
            obtain ⟨hi8, hd⟩ := ra_e hd
            refine a_ X hW 4 rfl rfl hi8 dX5_reads_92 ?_
            generalize (F 4) (F 0 9).toNatClampNeg = v9 at hd ⊢
            refine lv_iadd hx hb dX5_reads_93 ?_
            refine lv_bipush (v := 48) hx hb dX5_reads_94 (by decide) ?_
            refine lv_isub hx hb dX5_reads_96 ?_
            obtain ⟨F10, eF10, hd⟩ := bw_e hd
            refine p_ (ty := .int) X hinX5 tyX5 tyX5_ok nmX5 hW 0 rfl rfl 12 (by decide) 3 rfl rfl rfl (by decide +kernel) rfl rfl (Nat.le_of_ble_eq_true rfl) dX5_reads_97 (ws' := (WM Y ad F10)) (by rw [eF10]; rfl) (fun H locs hW => ?_)
            refine lv_aload_n hx hb dX5_reads_100 rfl (lv_at hl 0 rfl) ?_
            refine lv_dup hx hb dX5_reads_101 rfl ?_
            refine g_ X hinX5 hW 0 rfl rfl 9 (by decide) 1 rfl rfl rfl dX5_reads_102 ?_
            refine lv_iconst (v := 1) hx hb dX5_reads_105 (by decide) ?_
            refine lv_iadd hx hb dX5_reads_106 ?_
            obtain ⟨F11, eF11, hd⟩ := bw_e hd
            refine p_ (ty := .int) X hinX5 tyX5 tyX5_ok nmX5 hW 0 rfl rfl 9 (by decide) 1 rfl rfl rfl (by decide +kernel) rfl rfl (Nat.le_of_ble_eq_true rfl) dX5_reads_107 (ws' := (WM Y ad F11)) (by rw [eF11]; rfl) (fun H locs hW => ?_)
            refine lv_goto (tgt := 34) hx hb dX5_reads_110 (by decide) ?_
            exact ih  F11 z hd _ _ _ hW (lv_sub hl [0, 1, 2] rfl) kx0
          · replace hd := if_f c7 hd
            refine lv_aload_n hx hb dX5_reads_70 rfl (lv_at hl 0 rfl) ?_
            refine g_ X hinX5 hW 0 rfl rfl 12 (by decide) 3 rfl rfl rfl dX5_reads_71 ?_
            refine lv_goto (tgt := 97) hx hb dX5_reads_74 (by decide) ?_
            obtain ⟨F12, eF12, hd⟩ := bw_e hd
            refine p_ (ty := .int) X hinX5 tyX5 tyX5_ok nmX5 hW 0 rfl rfl 12 (by decide) 3 rfl rfl rfl (by decide +kernel) rfl rfl (Nat.le_of_ble_eq_true rfl) dX5_reads_97 (ws' := (WM Y ad F12)) (by rw [eF12]; rfl) (fun H locs hW => ?_)
            refine lv_aload_n hx hb dX5_reads_100 rfl (lv_at hl 0 rfl) ?_
            refine lv_dup hx hb dX5_reads_101 rfl ?_
            refine g_ X hinX5 hW 0 rfl rfl 9 (by decide) 1 rfl rfl rfl dX5_reads_102 ?_
            refine lv_iconst (v := 1) hx hb dX5_reads_105 (by decide) ?_
            refine lv_iadd hx hb dX5_reads_106 ?_
            obtain ⟨F13, eF13, hd⟩ := bw_e hd
            refine p_ (ty := .int) X hinX5 tyX5 tyX5_ok nmX5 hW 0 rfl rfl 9 (by decide) 1 rfl rfl rfl (by decide +kernel) rfl rfl (Nat.le_of_ble_eq_true rfl) dX5_reads_107 (ws' := (WM Y ad F13)) (by rw [eF13]; rfl) (fun H locs hW => ?_)
            refine lv_goto (tgt := 34) hx hb dX5_reads_110 (by decide) ?_
            exact ih  F13 z hd _ _ _ hW (lv_sub hl [0, 1, 2] rfl) kx0
  refine lv_aload_n hx hb dX5_reads_0 rfl (lv_at hl 0 rfl) ?_
  obtain ⟨r15, F16, h14, hd⟩ := bs_e hd
  refine cVi_ (rest := []) X (kX5_here l Dd Y ad F r15 F16 h14) (cwV 0 X.1.2.2.2.2 gX5_reads_X5_here rfl rfl rfl (by decide +kernel) ⟨Nat.le_of_ble_eq_true rfl, Nat.le_of_ble_eq_true rfl⟩) hW 0 5 rfl rfl rfl rfl hl.1 rfl (Nat.le_of_ble_eq_true rfl) dX5_reads_1 ⟨Nat.zero_le _, Nat.zero_le _⟩ (fun H locs hW => ?_)
  obtain ⟨r18, h17, hd⟩ := bp_e hd
  refine cSi_ (rest := []) X (kX5_isDigit l Dd Y r15 r18 h17) (va_cwS 1 X.1.2.2.2.2 gX5_reads_X5_isDigit rfl rfl rfl (by decide +kernel) ⟨Nat.le_of_ble_eq_true rfl, Nat.le_of_ble_eq_true rfl⟩) hW rfl hl.1 rfl (Nat.le_of_ble_eq_true rfl) dX5_reads_4 ⟨Nat.zero_le _, Nat.zero_le _⟩ (fun H locs hW => ?_)
  refine lv_if_ne (tgt := 21) hx hb dX5_reads_7 (by decide) (fun c19 => ?_) (fun c19 => ?_)
  · replace hd := if_f c19 hd
    refine lv_aload_n hx hb dX5_reads_21 rfl (lv_at hl 0 rfl) ?_
    refine lv_aload_n hx hb dX5_reads_22 rfl (lv_at hl 0 rfl) ?_
    refine g_ X hinX5 hW 0 rfl rfl 9 (by decide) 1 rfl rfl rfl dX5_reads_23 ?_
    obtain ⟨F20, eF20, hd⟩ := bw_e hd
    refine p_ (ty := .int) X hinX5 tyX5 tyX5_ok nmX5 hW 0 rfl rfl 13 (by decide) 2 rfl rfl rfl (by decide +kernel) rfl rfl (Nat.le_of_ble_eq_true rfl) dX5_reads_26 (ws' := (WM Y ad F20)) (by rw [eF20]; rfl) (fun H locs hW => ?_)
    refine lv_aload_n hx hb dX5_reads_29 rfl (lv_at hl 0 rfl) ?_
    refine lv_iconst (v := 0) hx hb dX5_reads_30 (by decide) ?_
    obtain ⟨F21, eF21, hd⟩ := bw_e hd
    refine p_ (ty := .int) X hinX5 tyX5 tyX5_ok nmX5 hW 0 rfl rfl 12 (by decide) 3 rfl rfl rfl (by decide +kernel) rfl rfl (Nat.le_of_ble_eq_true rfl) dX5_reads_31 (ws' := (WM Y ad F21)) (by rw [eF21]; rfl) (fun H locs hW => ?_)
    obtain ⟨z34_21, hz34_21, hd⟩ := bp_e hd
    refine K34 x1 x2 FU F21 z34_21 hz34_21 _ _ _ hW (lv_sub hl [0, 1, 2] rfl) (fun H locs ls e34 hW hl => ?_)
    refine lv_aload_n hx hb dX5_reads_113 rfl (lv_at hl 0 rfl) ?_
    refine g_ X hinX5 hW 0 rfl rfl 12 (by decide) 3 rfl rfl rfl dX5_reads_114 ?_
    refine lv_iload_n hx hb dX5_reads_117 rfl (lv_at hl 1 rfl) ?_
    refine lv_iload_n hx hb dX5_reads_118 rfl (lv_at hl 2 rfl) ?_
    obtain ⟨r24, h23, hd⟩ := bp_e hd
    refine cSi_ (rest := []) X (kX5_isIn l Dd Y (z34_21.2 0 12) x1 x2 r24 h23) (va_cwS 3 X.1.2.2.2.2 gX5_reads_X5_isIn rfl rfl rfl (by decide +kernel) ⟨Nat.le_of_ble_eq_true rfl, Nat.le_of_ble_eq_true rfl⟩) hW rfl hl.1 rfl (Nat.le_of_ble_eq_true rfl) dX5_reads_119 ⟨Nat.zero_le _, Nat.zero_le _⟩ (fun H locs hW => ?_)
    refine lv_if_ne (tgt := 138) hx hb dX5_reads_122 (by decide) (fun c25 => ?_) (fun c25 => ?_)
    · replace hd := if_f c25 hd
      refine lv_iconst (v := 1) hx hb dX5_reads_138 (by decide) ?_
      refine lv_goto (tgt := 143) hx hb dX5_reads_139 (by decide) ?_
      obtain ⟨rfl, rfl⟩ := Prod.mk.inj (Option.some.inj hd)
      exact hQ _ _ _ _ (nz_b (Or.inr rfl)) hW dX5_reads_143
    · replace hd := if_t c25 hd
      refine lv_aload_n hx hb dX5_reads_125 rfl (lv_at hl 0 rfl) ?_
      refine lv_bipush (v := (-3)) hx hb dX5_reads_126 (by decide) ?_
      refine lv_aload_n hx hb dX5_reads_128 rfl (lv_at hl 0 rfl) ?_
      refine g_ X hinX5 hW 0 rfl rfl 13 (by decide) 2 rfl rfl rfl dX5_reads_129 ?_
      obtain ⟨r27, F28, h26, hd⟩ := bs_e hd
      refine cVi_ (rest := []) X (kX5_fails l Dd Y ad z34_21.2 (-3) (z34_21.2 0 13) r27 F28 h26) (cwV 2 X.1.2.2.2.2 gX5_reads_X5_fails rfl rfl rfl (by decide +kernel) ⟨Nat.le_of_ble_eq_true rfl, Nat.le_of_ble_eq_true rfl⟩) hW 0 5 rfl rfl rfl rfl hl.1 rfl (Nat.le_of_ble_eq_true rfl) dX5_reads_132 ⟨Nat.zero_le _, Nat.zero_le _⟩ (fun H locs hW => ?_)
      refine lv_if_eq (tgt := 142) hx hb dX5_reads_135 (by decide) (fun c29 => ?_) (fun c29 => ?_)
      · replace hd := if_t c29 hd
        refine lv_iconst (v := 0) hx hb dX5_reads_142 (by decide) ?_
        obtain ⟨rfl, rfl⟩ := Prod.mk.inj (Option.some.inj hd)
        exact hQ _ _ _ _ (nz_b (Or.inl rfl)) hW dX5_reads_143
      · replace hd := if_f c29 hd
        refine lv_iconst (v := 1) hx hb dX5_reads_138 (by decide) ?_
        refine lv_goto (tgt := 143) hx hb dX5_reads_139 (by decide) ?_
        obtain ⟨rfl, rfl⟩ := Prod.mk.inj (Option.some.inj hd)
        exact hQ _ _ _ _ (nz_b (Or.inr rfl)) hW dX5_reads_143
  · replace hd := if_t c19 hd
    refine lv_aload_n hx hb dX5_reads_10 rfl (lv_at hl 0 rfl) ?_
    refine lv_bipush (v := (-2)) hx hb dX5_reads_11 (by decide) ?_
    refine lv_aload_n hx hb dX5_reads_13 rfl (lv_at hl 0 rfl) ?_
    refine g_ X hinX5 hW 0 rfl rfl 9 (by decide) 1 rfl rfl rfl dX5_reads_14 ?_
    obtain ⟨r31, F32, h30, hd⟩ := bs_e hd
    refine cVi_ (rest := []) X (kX5_fails l Dd Y ad F16 (-2) (F16 0 9) r31 F32 h30) (cwV 2 X.1.2.2.2.2 gX5_reads_X5_fails rfl rfl rfl (by decide +kernel) ⟨Nat.le_of_ble_eq_true rfl, Nat.le_of_ble_eq_true rfl⟩) hW 0 5 rfl rfl rfl rfl hl.1 rfl (Nat.le_of_ble_eq_true rfl) dX5_reads_17 ⟨Nat.zero_le _, Nat.zero_le _⟩ (fun H locs hW => ?_)
    obtain ⟨hz33, hd⟩ := rzs_e hd
    obtain ⟨rfl, rfl⟩ := Prod.mk.inj hd
    exact hQ _ _ _ _ (nz_b hz33) hW dX5_reads_20
abbrev rmX5_readsValue : Room := { frames := 2, cells := 0, slots := 0, locals := 44 }
set_option maxRecDepth 100000 in
set_option maxHeartbeats 4000000 in
theorem kX5_readsValue (l : Launch) (Dd : va_G) (Y : yT) (ad : Nat → Nat) (F : gF) (r : Int32) (F' : gF) (hd : dnX5_readsValue F = some (r, F')) : MG l yX5_readsValue wsX5_readsValue rmX5_readsValue Dd Y [.ref (ad 0)] (WM Y ad F) (WM Y ad F') (some (.int r)) := by
  refine MGi (cc := cX5_readsValue) (maxL := 2) (ty := .boolean) (by decide) rfl (Nat.le_of_ble_eq_true rfl) (fun {p e s m args below meth c A} ls Q X hW hl hQ => ?_)
  have hx := X.x
  have hb := X.b
  have hl : lv_has ls 2 [(0, .ref (ad 0))] := hl
  have hinX5 : ∀ w ∈ wsX50, w ∈ wsX5_readsValue := fun w h => List.mem_cons_of_mem _ (List.mem_append_right _ h)
  unfold dnX5_readsValue at hd
  refine lv_aload_n hx hb dX5_readsValue_0 rfl (lv_at hl 0 rfl) ?_
  obtain ⟨r2, F3, h1, hd⟩ := bs_e hd
  refine cVi_ (rest := []) X (kX5_here l Dd Y ad F r2 F3 h1) (cwV 0 X.1.2.2.2.2 gX5_readsValue_X5_here rfl rfl rfl (by decide +kernel) ⟨Nat.le_of_ble_eq_true rfl, Nat.le_of_ble_eq_true rfl⟩) hW 0 5 rfl rfl rfl rfl hl.1 rfl (Nat.le_of_ble_eq_true rfl) dX5_readsValue_1 ⟨Nat.zero_le _, Nat.zero_le _⟩ (fun H locs hW => ?_)
  refine lv_bipush (v := 45) hx hb dX5_readsValue_4 (by decide) ?_
  refine lv_icmp_ne (tgt := 13) hx hb dX5_readsValue_6 (by decide) (fun c4 => ?_) (fun c4 => ?_)
  · replace hd := if_f c4 hd
    refine lv_iconst (v := 0) hx hb dX5_readsValue_13 (by decide) ?_
    refine lv_istore_n (lv' := [(1, .int 0), (0, .ref (ad 0))]) hx hb dX5_readsValue_14 rfl hl (by decide) rfl (fun ls hl => ?_)
    refine lv_aload_n hx hb dX5_readsValue_15 rfl (lv_at hl 1 rfl) ?_
    refine lv_dup hx hb dX5_readsValue_16 rfl ?_
    refine g_ X hinX5 hW 0 rfl rfl 9 (by decide) 1 rfl rfl rfl dX5_readsValue_17 ?_
    refine lv_iload_n hx hb dX5_readsValue_20 rfl (lv_at hl 0 rfl) ?_
    refine lv_if_eq (tgt := 28) hx hb dX5_readsValue_21 (by decide) (fun _ => ?_) (fun h => absurd (by decide) h)
    refine lv_iconst (v := 0) hx hb dX5_readsValue_28 (by decide) ?_
    refine lv_iadd hx hb dX5_readsValue_29 ?_
    obtain ⟨F5, eF5, hd⟩ := bw_e hd
    refine p_ (ty := .int) X hinX5 tyX5 tyX5_ok nmX5 hW 0 rfl rfl 9 (by decide) 1 rfl rfl rfl (by decide +kernel) rfl rfl (Nat.le_of_ble_eq_true rfl) dX5_readsValue_30 (ws' := (WM Y ad F5)) (by rw [eF5]; rfl) (fun H locs hW => ?_)
    refine lv_aload_n hx hb dX5_readsValue_33 rfl (lv_at hl 1 rfl) ?_
    refine lv_iconst (v := 0) hx hb dX5_readsValue_34 (by decide) ?_
    refine lv_sipush (v := 999) hx hb dX5_readsValue_35 (by decide) ?_
    obtain ⟨r7, F8, h6, hd⟩ := bs_e hd
    refine cVi_ (rest := []) X (kX5_reads l Dd Y ad F5 0 999 r7 F8 h6) (cwV 2 X.1.2.2.2.2 gX5_readsValue_X5_reads rfl rfl rfl (by decide +kernel) ⟨Nat.le_of_ble_eq_true rfl, Nat.le_of_ble_eq_true rfl⟩) hW 0 5 rfl rfl rfl rfl hl.1 rfl (Nat.le_of_ble_eq_true rfl) dX5_readsValue_38 ⟨Nat.zero_le _, Nat.zero_le _⟩ (fun H locs hW => ?_)
    refine lv_if_ne (tgt := 46) hx hb dX5_readsValue_41 (by decide) (fun c9 => ?_) (fun c9 => ?_)
    · replace hd := if_f c9 hd
      refine lv_aload_n hx hb dX5_readsValue_46 rfl (lv_at hl 1 rfl) ?_
      refine lv_iload_n hx hb dX5_readsValue_47 rfl (lv_at hl 0 rfl) ?_
      refine lv_if_eq (tgt := 59) hx hb dX5_readsValue_48 (by decide) (fun _ => ?_) (fun h => absurd (by decide) h)
      refine lv_aload_n hx hb dX5_readsValue_59 rfl (lv_at hl 1 rfl) ?_
      refine g_ X hinX5 hW 0 rfl rfl 12 (by decide) 2 rfl rfl rfl dX5_readsValue_60 ?_
      obtain ⟨F10, eF10, hd⟩ := bw_e hd
      refine p_ (ty := .int) X hinX5 tyX5 tyX5_ok nmX5 hW 0 rfl rfl 12 (by decide) 2 rfl rfl rfl (by decide +kernel) rfl rfl (Nat.le_of_ble_eq_true rfl) dX5_readsValue_63 (ws' := (WM Y ad F10)) (by rw [eF10]; rfl) (fun H locs hW => ?_)
      refine lv_iconst (v := 1) hx hb dX5_readsValue_66 (by decide) ?_
      obtain ⟨rfl, rfl⟩ := Prod.mk.inj (Option.some.inj hd)
      exact hQ _ _ _ _ (nz_b (Or.inr rfl)) hW dX5_readsValue_67
    · replace hd := if_t c9 hd
      refine lv_iconst (v := 0) hx hb dX5_readsValue_44 (by decide) ?_
      obtain ⟨rfl, rfl⟩ := Prod.mk.inj (Option.some.inj hd)
      exact hQ _ _ _ _ (nz_b (Or.inl rfl)) hW dX5_readsValue_45
  · replace hd := if_t c4 hd
    refine lv_iconst (v := 1) hx hb dX5_readsValue_9 (by decide) ?_
    refine lv_goto (tgt := 14) hx hb dX5_readsValue_10 (by decide) ?_
    refine lv_istore_n (lv' := [(1, .int 1), (0, .ref (ad 0))]) hx hb dX5_readsValue_14 rfl hl (by decide) rfl (fun ls hl => ?_)
    refine lv_aload_n hx hb dX5_readsValue_15 rfl (lv_at hl 1 rfl) ?_
    refine lv_dup hx hb dX5_readsValue_16 rfl ?_
    refine g_ X hinX5 hW 0 rfl rfl 9 (by decide) 1 rfl rfl rfl dX5_readsValue_17 ?_
    refine lv_iload_n hx hb dX5_readsValue_20 rfl (lv_at hl 0 rfl) ?_
    refine lv_if_eq (tgt := 28) hx hb dX5_readsValue_21 (by decide) (fun h => absurd h (by decide)) (fun _ => ?_)
    refine lv_iconst (v := 1) hx hb dX5_readsValue_24 (by decide) ?_
    refine lv_goto (tgt := 29) hx hb dX5_readsValue_25 (by decide) ?_
    refine lv_iadd hx hb dX5_readsValue_29 ?_
    obtain ⟨F11, eF11, hd⟩ := bw_e hd
    refine p_ (ty := .int) X hinX5 tyX5 tyX5_ok nmX5 hW 0 rfl rfl 9 (by decide) 1 rfl rfl rfl (by decide +kernel) rfl rfl (Nat.le_of_ble_eq_true rfl) dX5_readsValue_30 (ws' := (WM Y ad F11)) (by rw [eF11]; rfl) (fun H locs hW => ?_)
    refine lv_aload_n hx hb dX5_readsValue_33 rfl (lv_at hl 1 rfl) ?_
    refine lv_iconst (v := 0) hx hb dX5_readsValue_34 (by decide) ?_
    refine lv_sipush (v := 999) hx hb dX5_readsValue_35 (by decide) ?_
    obtain ⟨r13, F14, h12, hd⟩ := bs_e hd
    refine cVi_ (rest := []) X (kX5_reads l Dd Y ad F11 0 999 r13 F14 h12) (cwV 2 X.1.2.2.2.2 gX5_readsValue_X5_reads rfl rfl rfl (by decide +kernel) ⟨Nat.le_of_ble_eq_true rfl, Nat.le_of_ble_eq_true rfl⟩) hW 0 5 rfl rfl rfl rfl hl.1 rfl (Nat.le_of_ble_eq_true rfl) dX5_readsValue_38 ⟨Nat.zero_le _, Nat.zero_le _⟩ (fun H locs hW => ?_)
    refine lv_if_ne (tgt := 46) hx hb dX5_readsValue_41 (by decide) (fun c15 => ?_) (fun c15 => ?_)
    · replace hd := if_f c15 hd
      refine lv_aload_n hx hb dX5_readsValue_46 rfl (lv_at hl 1 rfl) ?_
      refine lv_iload_n hx hb dX5_readsValue_47 rfl (lv_at hl 0 rfl) ?_
      refine lv_if_eq (tgt := 59) hx hb dX5_readsValue_48 (by decide) (fun h => absurd h (by decide)) (fun _ => ?_)
      refine lv_aload_n hx hb dX5_readsValue_51 rfl (lv_at hl 1 rfl) ?_
      refine g_ X hinX5 hW 0 rfl rfl 12 (by decide) 2 rfl rfl rfl dX5_readsValue_52 ?_
      refine lv_ineg hx hb dX5_readsValue_55 ?_
      refine lv_goto (tgt := 63) hx hb dX5_readsValue_56 (by decide) ?_
      obtain ⟨F16, eF16, hd⟩ := bw_e hd
      refine p_ (ty := .int) X hinX5 tyX5 tyX5_ok nmX5 hW 0 rfl rfl 12 (by decide) 2 rfl rfl rfl (by decide +kernel) rfl rfl (Nat.le_of_ble_eq_true rfl) dX5_readsValue_63 (ws' := (WM Y ad F16)) (by rw [eF16]; rfl) (fun H locs hW => ?_)
      refine lv_iconst (v := 1) hx hb dX5_readsValue_66 (by decide) ?_
      obtain ⟨rfl, rfl⟩ := Prod.mk.inj (Option.some.inj hd)
      exact hQ _ _ _ _ (nz_b (Or.inr rfl)) hW dX5_readsValue_67
    · replace hd := if_t c15 hd
      refine lv_iconst (v := 0) hx hb dX5_readsValue_44 (by decide) ?_
      obtain ⟨rfl, rfl⟩ := Prod.mk.inj (Option.some.inj hd)
      exact hQ _ _ _ _ (nz_b (Or.inl rfl)) hW dX5_readsValue_45
abbrev rmX5_isValueHere : Room := { frames := 1, cells := 0, slots := 0, locals := 20 }
set_option maxRecDepth 100000 in
set_option maxHeartbeats 4000000 in
theorem kX5_isValueHere (l : Launch) (Dd : va_G) (Y : yT) (ad : Nat → Nat) (F : gF) (r : Int32) (F' : gF) (hd : dnX5_isValueHere F = some (r, F')) : MG l yX5_isValueHere wsX5_isValueHere rmX5_isValueHere Dd Y [.ref (ad 0)] (WM Y ad F) (WM Y ad F') (some (.int r)) := by
  refine MGi (cc := cX5_isValueHere) (maxL := 1) (ty := .boolean) (by decide) rfl (Nat.le_of_ble_eq_true rfl) (fun {p e s m args below meth c A} ls Q X hW hl hQ => ?_)
  have hx := X.x
  have hb := X.b
  have hl : lv_has ls 1 [(0, .ref (ad 0))] := hl
  unfold dnX5_isValueHere at hd
  refine lv_aload_n hx hb dX5_isValueHere_0 rfl (lv_at hl 0 rfl) ?_
  obtain ⟨r2, F3, h1, hd⟩ := bs_e hd
  refine cVi_ (rest := []) X (kX5_here l Dd Y ad F r2 F3 h1) (cwV 0 X.1.2.2.2.2 gX5_isValueHere_X5_here rfl rfl rfl (by decide +kernel) ⟨Nat.le_of_ble_eq_true rfl, Nat.le_of_ble_eq_true rfl⟩) hW 0 5 rfl rfl rfl rfl hl.1 rfl (Nat.le_of_ble_eq_true rfl) dX5_isValueHere_1 ⟨Nat.zero_le _, Nat.zero_le _⟩ (fun H locs hW => ?_)
  refine lv_bipush (v := 45) hx hb dX5_isValueHere_4 (by decide) ?_
  refine lv_icmp_eq (tgt := 19) hx hb dX5_isValueHere_6 (by decide) (fun c4 => ?_) (fun c4 => ?_)
  · replace hd := if_t c4 hd
    refine lv_iconst (v := 1) hx hb dX5_isValueHere_19 (by decide) ?_
    refine lv_goto (tgt := 24) hx hb dX5_isValueHere_20 (by decide) ?_
    obtain ⟨rfl, rfl⟩ := Prod.mk.inj (Option.some.inj hd)
    exact hQ _ _ _ _ (nz_b (Or.inr rfl)) hW dX5_isValueHere_24
  · replace hd := if_f c4 hd
    refine lv_aload_n hx hb dX5_isValueHere_9 rfl (lv_at hl 0 rfl) ?_
    obtain ⟨r6, F7, h5, hd⟩ := bs_e hd
    refine cVi_ (rest := []) X (kX5_here l Dd Y ad F3 r6 F7 h5) (cwV 0 X.1.2.2.2.2 gX5_isValueHere_X5_here rfl rfl rfl (by decide +kernel) ⟨Nat.le_of_ble_eq_true rfl, Nat.le_of_ble_eq_true rfl⟩) hW 0 5 rfl rfl rfl rfl hl.1 rfl (Nat.le_of_ble_eq_true rfl) dX5_isValueHere_10 ⟨Nat.zero_le _, Nat.zero_le _⟩ (fun H locs hW => ?_)
    obtain ⟨r9, h8, hd⟩ := bp_e hd
    refine cSi_ (rest := []) X (kX5_isDigit l Dd Y r6 r9 h8) (va_cwS 1 X.1.2.2.2.2 gX5_isValueHere_X5_isDigit rfl rfl rfl (by decide +kernel) ⟨Nat.le_of_ble_eq_true rfl, Nat.le_of_ble_eq_true rfl⟩) hW rfl hl.1 rfl (Nat.le_of_ble_eq_true rfl) dX5_isValueHere_13 ⟨Nat.zero_le _, Nat.zero_le _⟩ (fun H locs hW => ?_)
    refine lv_if_eq (tgt := 23) hx hb dX5_isValueHere_16 (by decide) (fun c10 => ?_) (fun c10 => ?_)
    · replace hd := if_t c10 hd
      refine lv_iconst (v := 0) hx hb dX5_isValueHere_23 (by decide) ?_
      obtain ⟨rfl, rfl⟩ := Prod.mk.inj (Option.some.inj hd)
      exact hQ _ _ _ _ (nz_b (Or.inl rfl)) hW dX5_isValueHere_24
    · replace hd := if_f c10 hd
      refine lv_iconst (v := 1) hx hb dX5_isValueHere_19 (by decide) ?_
      refine lv_goto (tgt := 24) hx hb dX5_isValueHere_20 (by decide) ?_
      obtain ⟨rfl, rfl⟩ := Prod.mk.inj (Option.some.inj hd)
      exact hQ _ _ _ _ (nz_b (Or.inr rfl)) hW dX5_isValueHere_24
abbrev rmX5_readsValues : Room := { frames := 3, cells := 0, slots := 0, locals := 65 }
set_option maxRecDepth 100000 in
set_option maxHeartbeats 4000000 in
theorem kX5_readsValues (l : Launch) (Dd : va_G) (Y : yT) (ad : Nat → Nat) (F : gF) (r : Int32) (F' : gF) (hd : dnX5_readsValues F = some (r, F')) : MG l yX5_readsValues wsX5_readsValues rmX5_readsValues Dd Y [.ref (ad 0)] (WM Y ad F) (WM Y ad F') (some (.int r)) := by
  refine MGi (cc := cX5_readsValues) (maxL := 2) (ty := .boolean) (by decide) rfl (Nat.le_of_ble_eq_true rfl) (fun {p e s m args below meth c A} ls Q X hW hl hQ => ?_)
  have hx := X.x
  have hb := X.b
  have hl : lv_has ls 2 [(0, .ref (ad 0))] := hl
  have hinX5 : ∀ w ∈ wsX50, w ∈ wsX5_readsValues := fun w h => List.mem_cons_of_mem _ (List.mem_append_right _ h)
  unfold dnX5_readsValues at hd
  have K18 : ∀ (n : Nat) (F : gF) (z : Nat × Int32 × gF), lpX5_readsValues_18 n F = some z → ∀ (H : Heap) (locs : List Loc) (ls : Array Slot), Wd Dd A s.heap (WM Y ad F) H locs → lv_has ls 2 [(0, .ref (ad 0))] → (∀ (H : Heap) (locs : List Loc) (ls : Array Slot), z.1 = 0 → Wd Dd A s.heap (WM Y ad z.2.2) H locs → lv_has ls 2 [(0, .ref (ad 0)), (1, .int z.2.1)] → W p l e rmX5_readsValues s m args below meth c H locs 0 0 Q (F0 m 55 ls [])) → (∀ (H : Heap) (locs : List Loc) (ls : Array Slot), z.1 = 1 → Wd Dd A s.heap (WM Y ad z.2.2) H locs → lv_has ls 2 [(0, .ref (ad 0)), (1, .int z.2.1)] → W p l e rmX5_readsValues s m args below meth c H locs 0 0 Q (F0 m 72 ls [])) → (∀ (H : Heap) (locs : List Loc) (ls : Array Slot), z.1 = 2 → Wd Dd A s.heap (WM Y ad z.2.2) H locs → lv_has ls 2 [] → W p l e rmX5_readsValues s m args below meth c H locs 0 0 Q (F0 m 104 ls [])) → W p l e rmX5_readsValues s m args below meth c H locs 0 0 Q (F0 m 18 ls []) := by
    intro n
    induction n with
    | zero => intro F z hd; cases hd
    | succ n ih =>
      intro F z hd H locs ls hW hl kx0 kx1 kx2
      unfold lpX5_readsValues_18 at hd
      refine lv_aload_n hx hb dX5_readsValues_18 rfl (lv_at hl 0 rfl) ?_
      obtain ⟨r2, F3, h1, hd⟩ := bs_e hd
      refine cVi_ (rest := []) X (kX5_isValueHere l Dd Y ad F r2 F3 h1) (cwV 0 X.1.2.2.2.2 gX5_readsValues_X5_isValueHere rfl rfl rfl (by decide +kernel) ⟨Nat.le_of_ble_eq_true rfl, Nat.le_of_ble_eq_true rfl⟩) hW 0 5 rfl rfl rfl rfl hl.1 rfl (Nat.le_of_ble_eq_true rfl) dX5_readsValues_19 ⟨Nat.zero_le _, Nat.zero_le _⟩ (fun H locs hW => ?_)
      refine lv_if_eq (tgt := 104) hx hb dX5_readsValues_22 (by decide) (fun c4 => ?_) (fun c4 => ?_)
      · replace hd := if_t c4 hd
        cases hd
        exact kx2 _ _ _ rfl hW (lv_sub hl [] rfl)
      · replace hd := if_f c4 hd
        refine lv_aload_n hx hb dX5_readsValues_25 rfl (lv_at hl 0 rfl) ?_
        refine g_ X hinX5 hW 0 rfl rfl 9 (by decide) 1 rfl rfl rfl dX5_readsValues_26 ?_
        refine lv_istore_n (lv' := [(1, .int (F3 0 9)), (0, .ref (ad 0))]) hx hb dX5_readsValues_29 rfl hl (by decide) rfl (fun ls hl => ?_)
        refine lv_aload_n hx hb dX5_readsValues_30 rfl (lv_at hl 1 rfl) ?_
        obtain ⟨r6, h5, hd⟩ := bp_e hd
        refine cVi_ (rest := []) X (kX5_size l Dd Y ad F3 r6 h5) (cwV 0 X.1.2.2.2.2 gX5_readsValues_X5_size rfl rfl rfl (by decide +kernel) ⟨Nat.le_of_ble_eq_true rfl, Nat.le_of_ble_eq_true rfl⟩) hW 0 5 rfl rfl rfl rfl hl.1 rfl (Nat.le_of_ble_eq_true rfl) dX5_readsValues_31 ⟨Nat.zero_le _, Nat.zero_le _⟩ (fun H locs hW => ?_)
        refine lv_bipush (v := 40) hx hb dX5_readsValues_34 (by decide) ?_
        refine lv_icmp_ne (tgt := 48) hx hb dX5_readsValues_36 (by decide) (fun c7 => ?_) (fun c7 => ?_)
        · replace hd := if_f c7 hd
          refine lv_aload_n hx hb dX5_readsValues_48 rfl (lv_at hl 1 rfl) ?_
          obtain ⟨r9, F10, h8, hd⟩ := bs_e hd
          refine cVi_ (rest := []) X (kX5_readsValue l Dd Y ad F3 r9 F10 h8) (cwV 0 X.1.2.2.2.2 gX5_readsValues_X5_readsValue rfl rfl rfl (by decide +kernel) ⟨Nat.le_of_ble_eq_true rfl, Nat.le_of_ble_eq_true rfl⟩) hW 0 5 rfl rfl rfl rfl hl.1 rfl (Nat.le_of_ble_eq_true rfl) dX5_readsValues_49 ⟨Nat.zero_le _, Nat.zero_le _⟩ (fun H locs hW => ?_)
          refine lv_if_ne (tgt := 63) hx hb dX5_readsValues_52 (by decide) (fun c11 => ?_) (fun c11 => ?_)
          · replace hd := if_f c11 hd
            refine lv_aload_n hx hb dX5_readsValues_63 rfl (lv_at hl 1 rfl) ?_
            obtain ⟨r13, h12, hd⟩ := bp_e hd
            refine cVi_ (rest := []) X (kX5_size l Dd Y ad F10 r13 h12) (cwV 0 X.1.2.2.2.2 gX5_readsValues_X5_size rfl rfl rfl (by decide +kernel) ⟨Nat.le_of_ble_eq_true rfl, Nat.le_of_ble_eq_true rfl⟩) hW 0 5 rfl rfl rfl rfl hl.1 rfl (Nat.le_of_ble_eq_true rfl) dX5_readsValues_64 ⟨Nat.zero_le _, Nat.zero_le _⟩ (fun H locs hW => ?_)
            refine lv_bipush (v := 40) hx hb dX5_readsValues_67 (by decide) ?_
            refine lv_icmp_ne (tgt := 80) hx hb dX5_readsValues_69 (by decide) (fun c14 => ?_) (fun c14 => ?_)
            · replace hd := if_f c14 hd
              refine lv_aload_n hx hb dX5_readsValues_80 rfl (lv_at hl 1 rfl) ?_
              refine lv_bipush (v := 12) hx hb dX5_readsValues_81 (by decide) ?_
              refine lv_aload_n hx hb dX5_readsValues_83 rfl (lv_at hl 1 rfl) ?_
              obtain ⟨r16, h15, hd⟩ := bp_e hd
              refine cVi_ (rest := [.int 12, .ref (ad 0)]) X (kX5_size l Dd Y ad F10 r16 h15) (cwV 0 X.1.2.2.2.2 gX5_readsValues_X5_size rfl rfl rfl (by decide +kernel) ⟨Nat.le_of_ble_eq_true rfl, Nat.le_of_ble_eq_true rfl⟩) hW 0 5 rfl rfl rfl rfl hl.1 rfl (Nat.le_of_ble_eq_true rfl) dX5_readsValues_84 ⟨Nat.zero_le _, Nat.zero_le _⟩ (fun H locs hW => ?_)
              refine lv_iadd hx hb dX5_readsValues_87 ?_
              refine lv_aload_n hx hb dX5_readsValues_88 rfl (lv_at hl 1 rfl) ?_
              refine g_ X hinX5 hW 0 rfl rfl 12 (by decide) 2 rfl rfl rfl dX5_readsValues_89 ?_
              obtain ⟨F18, h17, hd⟩ := bp_e hd
              refine cVv_ (rest := []) X (kX5_put0 l Dd Y ad F10 (12 + r16) (F10 0 12) F18 h17) (cwV 2 X.1.2.2.2.2 gX5_readsValues_X5_put0 rfl rfl rfl (by decide +kernel) ⟨Nat.le_of_ble_eq_true rfl, Nat.le_of_ble_eq_true rfl⟩) hW 0 5 rfl rfl rfl rfl hl.1 rfl (Nat.le_of_ble_eq_true rfl) dX5_readsValues_92 ⟨Nat.zero_le _, Nat.zero_le _⟩ (fun H locs hW => ?_)
              refine lv_aload_n hx hb dX5_readsValues_95 rfl (lv_at hl 1 rfl) ?_
              refine lv_iconst (v := 0) hx hb dX5_readsValues_96 (by decide) ?_
              refine lv_iconst (v := 1) hx hb dX5_readsValues_97 (by decide) ?_
              obtain ⟨F20, h19, hd⟩ := bp_e hd
              refine cVv_ (rest := []) X (kX5_adds l Dd Y ad F18 0 1 F20 h19) (cwV 2 X.1.2.2.2.2 gX5_readsValues_X5_adds rfl rfl rfl (by decide +kernel) ⟨Nat.le_of_ble_eq_true rfl, Nat.le_of_ble_eq_true rfl⟩) hW 0 5 rfl rfl rfl rfl hl.1 rfl (Nat.le_of_ble_eq_true rfl) dX5_readsValues_98 ⟨Nat.zero_le _, Nat.zero_le _⟩ (fun H locs hW => ?_)
              refine lv_goto (tgt := 18) hx hb dX5_readsValues_101 (by decide) ?_
              exact ih  F20 z hd _ _ _ hW (lv_sub hl [1] rfl) kx0 kx1 kx2
            · replace hd := if_t c14 hd
              cases hd
              exact kx1 _ _ _ rfl hW (lv_sub hl [1, 0] rfl)
          · replace hd := if_t c11 hd
            cases hd
            exact kx0 _ _ _ rfl hW (lv_sub hl [1, 0] rfl)
        · replace hd := if_t c7 hd
          refine lv_aload_n hx hb dX5_readsValues_39 rfl (lv_at hl 1 rfl) ?_
          obtain ⟨r22, F23, h21, hd⟩ := bs_e hd
          refine cVi_ (rest := []) X (kX5_here l Dd Y ad F3 r22 F23 h21) (cwV 0 X.1.2.2.2.2 gX5_readsValues_X5_here rfl rfl rfl (by decide +kernel) ⟨Nat.le_of_ble_eq_true rfl, Nat.le_of_ble_eq_true rfl⟩) hW 0 5 rfl rfl rfl rfl hl.1 rfl (Nat.le_of_ble_eq_true rfl) dX5_readsValues_40 ⟨Nat.zero_le _, Nat.zero_le _⟩ (fun H locs hW => ?_)
          refine lv_bipush (v := 45) hx hb dX5_readsValues_43 (by decide) ?_
          refine lv_icmp_eq (tgt := 55) hx hb dX5_readsValues_45 (by decide) (fun c24 => ?_) (fun c24 => ?_)
          · replace hd := if_t c24 hd
            cases hd
            exact kx0 _ _ _ rfl hW (lv_sub hl [1, 0] rfl)
          · replace hd := if_f c24 hd
            refine lv_aload_n hx hb dX5_readsValues_48 rfl (lv_at hl 1 rfl) ?_
            obtain ⟨r26, F27, h25, hd⟩ := bs_e hd
            refine cVi_ (rest := []) X (kX5_readsValue l Dd Y ad F23 r26 F27 h25) (cwV 0 X.1.2.2.2.2 gX5_readsValues_X5_readsValue rfl rfl rfl (by decide +kernel) ⟨Nat.le_of_ble_eq_true rfl, Nat.le_of_ble_eq_true rfl⟩) hW 0 5 rfl rfl rfl rfl hl.1 rfl (Nat.le_of_ble_eq_true rfl) dX5_readsValues_49 ⟨Nat.zero_le _, Nat.zero_le _⟩ (fun H locs hW => ?_)
            refine lv_if_ne (tgt := 63) hx hb dX5_readsValues_52 (by decide) (fun c28 => ?_) (fun c28 => ?_)
            · replace hd := if_f c28 hd
              refine lv_aload_n hx hb dX5_readsValues_63 rfl (lv_at hl 1 rfl) ?_
              obtain ⟨r30, h29, hd⟩ := bp_e hd
              refine cVi_ (rest := []) X (kX5_size l Dd Y ad F27 r30 h29) (cwV 0 X.1.2.2.2.2 gX5_readsValues_X5_size rfl rfl rfl (by decide +kernel) ⟨Nat.le_of_ble_eq_true rfl, Nat.le_of_ble_eq_true rfl⟩) hW 0 5 rfl rfl rfl rfl hl.1 rfl (Nat.le_of_ble_eq_true rfl) dX5_readsValues_64 ⟨Nat.zero_le _, Nat.zero_le _⟩ (fun H locs hW => ?_)
              refine lv_bipush (v := 40) hx hb dX5_readsValues_67 (by decide) ?_
              refine lv_icmp_ne (tgt := 80) hx hb dX5_readsValues_69 (by decide) (fun c31 => ?_) (fun c31 => ?_)
              · replace hd := if_f c31 hd
                refine lv_aload_n hx hb dX5_readsValues_80 rfl (lv_at hl 1 rfl) ?_
                refine lv_bipush (v := 12) hx hb dX5_readsValues_81 (by decide) ?_
                refine lv_aload_n hx hb dX5_readsValues_83 rfl (lv_at hl 1 rfl) ?_
                obtain ⟨r33, h32, hd⟩ := bp_e hd
                refine cVi_ (rest := [.int 12, .ref (ad 0)]) X (kX5_size l Dd Y ad F27 r33 h32) (cwV 0 X.1.2.2.2.2 gX5_readsValues_X5_size rfl rfl rfl (by decide +kernel) ⟨Nat.le_of_ble_eq_true rfl, Nat.le_of_ble_eq_true rfl⟩) hW 0 5 rfl rfl rfl rfl hl.1 rfl (Nat.le_of_ble_eq_true rfl) dX5_readsValues_84 ⟨Nat.zero_le _, Nat.zero_le _⟩ (fun H locs hW => ?_)
                refine lv_iadd hx hb dX5_readsValues_87 ?_
                refine lv_aload_n hx hb dX5_readsValues_88 rfl (lv_at hl 1 rfl) ?_
                refine g_ X hinX5 hW 0 rfl rfl 12 (by decide) 2 rfl rfl rfl dX5_readsValues_89 ?_
                obtain ⟨F35, h34, hd⟩ := bp_e hd
                refine cVv_ (rest := []) X (kX5_put0 l Dd Y ad F27 (12 + r33) (F27 0 12) F35 h34) (cwV 2 X.1.2.2.2.2 gX5_readsValues_X5_put0 rfl rfl rfl (by decide +kernel) ⟨Nat.le_of_ble_eq_true rfl, Nat.le_of_ble_eq_true rfl⟩) hW 0 5 rfl rfl rfl rfl hl.1 rfl (Nat.le_of_ble_eq_true rfl) dX5_readsValues_92 ⟨Nat.zero_le _, Nat.zero_le _⟩ (fun H locs hW => ?_)
                refine lv_aload_n hx hb dX5_readsValues_95 rfl (lv_at hl 1 rfl) ?_
                refine lv_iconst (v := 0) hx hb dX5_readsValues_96 (by decide) ?_
                refine lv_iconst (v := 1) hx hb dX5_readsValues_97 (by decide) ?_
                obtain ⟨F37, h36, hd⟩ := bp_e hd
                refine cVv_ (rest := []) X (kX5_adds l Dd Y ad F35 0 1 F37 h36) (cwV 2 X.1.2.2.2.2 gX5_readsValues_X5_adds rfl rfl rfl (by decide +kernel) ⟨Nat.le_of_ble_eq_true rfl, Nat.le_of_ble_eq_true rfl⟩) hW 0 5 rfl rfl rfl rfl hl.1 rfl (Nat.le_of_ble_eq_true rfl) dX5_readsValues_98 ⟨Nat.zero_le _, Nat.zero_le _⟩ (fun H locs hW => ?_)
                refine lv_goto (tgt := 18) hx hb dX5_readsValues_101 (by decide) ?_
                exact ih  F37 z hd _ _ _ hW (lv_sub hl [1] rfl) kx0 kx1 kx2
              · replace hd := if_t c31 hd
                cases hd
                exact kx1 _ _ _ rfl hW (lv_sub hl [1, 0] rfl)
            · replace hd := if_t c28 hd
              cases hd
              exact kx0 _ _ _ rfl hW (lv_sub hl [1, 0] rfl)
  refine lv_aload_n hx hb dX5_readsValues_0 rfl (lv_at hl 0 rfl) ?_
  obtain ⟨r39, F40, h38, hd⟩ := bs_e hd
  refine cVi_ (rest := []) X (kX5_isValueHere l Dd Y ad F r39 F40 h38) (cwV 0 X.1.2.2.2.2 gX5_readsValues_X5_isValueHere rfl rfl rfl (by decide +kernel) ⟨Nat.le_of_ble_eq_true rfl, Nat.le_of_ble_eq_true rfl⟩) hW 0 5 rfl rfl rfl rfl hl.1 rfl (Nat.le_of_ble_eq_true rfl) dX5_readsValues_1 ⟨Nat.zero_le _, Nat.zero_le _⟩ (fun H locs hW => ?_)
  refine lv_if_ne (tgt := 18) hx hb dX5_readsValues_4 (by decide) (fun c41 => ?_) (fun c41 => ?_)
  · replace hd := if_f c41 hd
    obtain ⟨z18_41, hz18_41, hd⟩ := bp_e hd
    refine K18 FU F40 z18_41 hz18_41 _ _ _ hW (lv_sub hl [0] rfl) (fun H locs ls e18 hW hl => ?_) (fun H locs ls e18 hW hl => ?_) (fun H locs ls e18 hW hl => ?_)
    · replace hd := if_t e18 (hd)
      refine lv_aload_n hx hb dX5_readsValues_55 rfl (lv_at hl 0 rfl) ?_
      refine lv_bipush (v := (-4)) hx hb dX5_readsValues_56 (by decide) ?_
      refine lv_iload_n hx hb dX5_readsValues_58 rfl (lv_at hl 1 rfl) ?_
      obtain ⟨r44, F45, h43, hd⟩ := bs_e hd
      refine cVi_ (rest := []) X (kX5_fails l Dd Y ad z18_41.2.2 (-4) z18_41.2.1 r44 F45 h43) (cwV 2 X.1.2.2.2.2 gX5_readsValues_X5_fails rfl rfl rfl (by decide +kernel) ⟨Nat.le_of_ble_eq_true rfl, Nat.le_of_ble_eq_true rfl⟩) hW 0 5 rfl rfl rfl rfl hl.1 rfl (Nat.le_of_ble_eq_true rfl) dX5_readsValues_59 ⟨Nat.zero_le _, Nat.zero_le _⟩ (fun H locs hW => ?_)
      obtain ⟨hz46, hd⟩ := rzs_e hd
      obtain ⟨rfl, rfl⟩ := Prod.mk.inj hd
      exact hQ _ _ _ _ (nz_b hz46) hW dX5_readsValues_62
    · replace hd := if_t e18 (if_f (by rw [e18]; decide) hd)
      refine lv_aload_n hx hb dX5_readsValues_72 rfl (lv_at hl 0 rfl) ?_
      refine lv_bipush (v := (-4)) hx hb dX5_readsValues_73 (by decide) ?_
      refine lv_iload_n hx hb dX5_readsValues_75 rfl (lv_at hl 1 rfl) ?_
      obtain ⟨r48, F49, h47, hd⟩ := bs_e hd
      refine cVi_ (rest := []) X (kX5_fails l Dd Y ad z18_41.2.2 (-4) z18_41.2.1 r48 F49 h47) (cwV 2 X.1.2.2.2.2 gX5_readsValues_X5_fails rfl rfl rfl (by decide +kernel) ⟨Nat.le_of_ble_eq_true rfl, Nat.le_of_ble_eq_true rfl⟩) hW 0 5 rfl rfl rfl rfl hl.1 rfl (Nat.le_of_ble_eq_true rfl) dX5_readsValues_76 ⟨Nat.zero_le _, Nat.zero_le _⟩ (fun H locs hW => ?_)
      obtain ⟨hz50, hd⟩ := rzs_e hd
      obtain ⟨rfl, rfl⟩ := Prod.mk.inj hd
      exact hQ _ _ _ _ (nz_b hz50) hW dX5_readsValues_79
    · replace hd := if_f (by rw [e18]; decide) (if_f (by rw [e18]; decide) hd)
      refine lv_iconst (v := 1) hx hb dX5_readsValues_104 (by decide) ?_
      obtain ⟨rfl, rfl⟩ := Prod.mk.inj (Option.some.inj hd)
      exact hQ _ _ _ _ (nz_b (Or.inr rfl)) hW dX5_readsValues_105
  · replace hd := if_t c41 hd
    refine lv_aload_n hx hb dX5_readsValues_7 rfl (lv_at hl 0 rfl) ?_
    refine lv_bipush (v := (-2)) hx hb dX5_readsValues_8 (by decide) ?_
    refine lv_aload_n hx hb dX5_readsValues_10 rfl (lv_at hl 0 rfl) ?_
    refine g_ X hinX5 hW 0 rfl rfl 9 (by decide) 1 rfl rfl rfl dX5_readsValues_11 ?_
    obtain ⟨r52, F53, h51, hd⟩ := bs_e hd
    refine cVi_ (rest := []) X (kX5_fails l Dd Y ad F40 (-2) (F40 0 9) r52 F53 h51) (cwV 2 X.1.2.2.2.2 gX5_readsValues_X5_fails rfl rfl rfl (by decide +kernel) ⟨Nat.le_of_ble_eq_true rfl, Nat.le_of_ble_eq_true rfl⟩) hW 0 5 rfl rfl rfl rfl hl.1 rfl (Nat.le_of_ble_eq_true rfl) dX5_readsValues_14 ⟨Nat.zero_le _, Nat.zero_le _⟩ (fun H locs hW => ?_)
    obtain ⟨hz54, hd⟩ := rzs_e hd
    obtain ⟨rfl, rfl⟩ := Prod.mk.inj hd
    exact hQ _ _ _ _ (nz_b hz54) hW dX5_readsValues_17
abbrev rmX5_readsPlace : Room := { frames := 2, cells := 0, slots := 0, locals := 44 }
set_option maxRecDepth 100000 in
set_option maxHeartbeats 4000000 in
theorem kX5_readsPlace (l : Launch) (Dd : va_G) (Y : yT) (ad : Nat → Nat) (F : gF) (x1 : Int32) (r : Int32) (F' : gF) (hd : dnX5_readsPlace F x1 = some (r, F')) : MG l yX5_readsPlace wsX5_readsPlace rmX5_readsPlace Dd Y [.ref (ad 0), .int x1] (WM Y ad F) (WM Y ad F') (some (.int r)) := by
  refine MGi (cc := cX5_readsPlace) (maxL := 2) (ty := .boolean) (by decide) rfl (Nat.le_of_ble_eq_true rfl) (fun {p e s m args below meth c A} ls Q X hW hl hQ => ?_)
  have hx := X.x
  have hb := X.b
  have hl : lv_has ls 2 [(0, .ref (ad 0)), (1, .int x1)] := hl
  unfold dnX5_readsPlace at hd
  refine lv_aload_n hx hb dX5_readsPlace_0 rfl (lv_at hl 0 rfl) ?_
  refine lv_iload_n hx hb dX5_readsPlace_1 rfl (lv_at hl 1 rfl) ?_
  refine lv_aload_n hx hb dX5_readsPlace_2 rfl (lv_at hl 0 rfl) ?_
  obtain ⟨r2, h1, hd⟩ := bp_e hd
  refine cVi_ (rest := [.int x1, .ref (ad 0)]) X (kX5_size l Dd Y ad F r2 h1) (cwV 0 X.1.2.2.2.2 gX5_readsPlace_X5_size rfl rfl rfl (by decide +kernel) ⟨Nat.le_of_ble_eq_true rfl, Nat.le_of_ble_eq_true rfl⟩) hW 0 5 rfl rfl rfl rfl hl.1 rfl (Nat.le_of_ble_eq_true rfl) dX5_readsPlace_3 ⟨Nat.zero_le _, Nat.zero_le _⟩ (fun H locs hW => ?_)
  refine lv_iconst (v := 1) hx hb dX5_readsPlace_6 (by decide) ?_
  refine lv_isub hx hb dX5_readsPlace_7 ?_
  obtain ⟨r4, F5, h3, hd⟩ := bs_e hd
  refine cVi_ (rest := []) X (kX5_reads l Dd Y ad F x1 (r2 - 1) r4 F5 h3) (cwV 2 X.1.2.2.2.2 gX5_readsPlace_X5_reads rfl rfl rfl (by decide +kernel) ⟨Nat.le_of_ble_eq_true rfl, Nat.le_of_ble_eq_true rfl⟩) hW 0 5 rfl rfl rfl rfl hl.1 rfl (Nat.le_of_ble_eq_true rfl) dX5_readsPlace_8 ⟨Nat.zero_le _, Nat.zero_le _⟩ (fun H locs hW => ?_)
  obtain ⟨hz6, hd⟩ := rzs_e hd
  obtain ⟨rfl, rfl⟩ := Prod.mk.inj hd
  exact hQ _ _ _ _ (nz_b hz6) hW dX5_readsPlace_11
abbrev rmX5_readsSet : Room := { frames := 6, cells := 0, slots := 0, locals := 135 }
set_option maxRecDepth 100000 in
set_option maxHeartbeats 4000000 in
theorem kX5_readsSet (l : Launch) (Dd : va_G) (Y : yT) (ad : Nat → Nat) (F : gF) (r : Int32) (F' : gF) (hd : dnX5_readsSet F = some (r, F')) : MG l yX5_readsSet wsX5_readsSet rmX5_readsSet Dd Y [.ref (ad 0)] (WM Y ad F) (WM Y ad F') (some (.int r)) := by
  refine MGi (cc := cX5_readsSet) (maxL := 2) (ty := .boolean) (by decide) rfl (Nat.le_of_ble_eq_true rfl) (fun {p e s m args below meth c A} ls Q X hW hl hQ => ?_)
  have hx := X.x
  have hb := X.b
  have hl : lv_has ls 2 [(0, .ref (ad 0))] := hl
  have hinX5 : ∀ w ∈ wsX50, w ∈ wsX5_readsSet := fun w h => List.mem_cons_of_mem _ (List.mem_append_right _ h)
  unfold dnX5_readsSet at hd
  refine lv_aload_n hx hb dX5_readsSet_0 rfl (lv_at hl 0 rfl) ?_
  refine lv_iconst (v := 0) hx hb dX5_readsSet_1 (by decide) ?_
  obtain ⟨r2, F3, h1, hd⟩ := bs_e hd
  refine cVi_ (rest := []) X (kX5_readsPlace l Dd Y ad F 0 r2 F3 h1) (cwV 1 X.1.2.2.2.2 gX5_readsSet_X5_readsPlace rfl rfl rfl (by decide +kernel) ⟨Nat.le_of_ble_eq_true rfl, Nat.le_of_ble_eq_true rfl⟩) hW 0 5 rfl rfl rfl rfl hl.1 rfl (Nat.le_of_ble_eq_true rfl) dX5_readsSet_2 ⟨Nat.zero_le _, Nat.zero_le _⟩ (fun H locs hW => ?_)
  refine lv_if_ne (tgt := 10) hx hb dX5_readsSet_5 (by decide) (fun c4 => ?_) (fun c4 => ?_)
  · replace hd := if_f c4 hd
    refine lv_aload_n hx hb dX5_readsSet_10 rfl (lv_at hl 0 rfl) ?_
    refine g_ X hinX5 hW 0 rfl rfl 12 (by decide) 1 rfl rfl rfl dX5_readsSet_11 ?_
    refine lv_istore_n (lv' := [(1, .int (F3 0 12)), (0, .ref (ad 0))]) hx hb dX5_readsSet_14 rfl hl (by decide) rfl (fun ls hl => ?_)
    refine lv_aload_n hx hb dX5_readsSet_15 rfl (lv_at hl 1 rfl) ?_
    obtain ⟨r6, F7, h5, hd⟩ := bs_e hd
    refine cVi_ (rest := []) X (kX5_readsValue l Dd Y ad F3 r6 F7 h5) (cwV 0 X.1.2.2.2.2 gX5_readsSet_X5_readsValue rfl rfl rfl (by decide +kernel) ⟨Nat.le_of_ble_eq_true rfl, Nat.le_of_ble_eq_true rfl⟩) hW 0 5 rfl rfl rfl rfl hl.1 rfl (Nat.le_of_ble_eq_true rfl) dX5_readsSet_16 ⟨Nat.zero_le _, Nat.zero_le _⟩ (fun H locs hW => ?_)
    refine lv_if_eq (tgt := 41) hx hb dX5_readsSet_19 (by decide) (fun c8 => ?_) (fun c8 => ?_)
    · replace hd := if_t c8 hd
      refine lv_iconst (v := 0) hx hb dX5_readsSet_41 (by decide) ?_
      obtain ⟨rfl, rfl⟩ := Prod.mk.inj (Option.some.inj hd)
      exact hQ _ _ _ _ (nz_b (Or.inl rfl)) hW dX5_readsSet_42
    · replace hd := if_f c8 hd
      refine lv_aload_n hx hb dX5_readsSet_22 rfl (lv_at hl 1 rfl) ?_
      refine lv_iload_n hx hb dX5_readsSet_23 rfl (lv_at hl 0 rfl) ?_
      refine lv_aload_n hx hb dX5_readsSet_24 rfl (lv_at hl 1 rfl) ?_
      refine g_ X hinX5 hW 0 rfl rfl 12 (by decide) 1 rfl rfl rfl dX5_readsSet_25 ?_
      obtain ⟨r10, F11, h9, hd⟩ := bs_e hd
      refine cVi_ (rest := []) X (kX5_sets l Dd Y ad F7 (F3 0 12) (F7 0 12) r10 F11 h9) (cwV 2 X.1.2.2.2.2 gX5_readsSet_X5_sets rfl rfl rfl (by decide +kernel) ⟨Nat.le_of_ble_eq_true rfl, Nat.le_of_ble_eq_true rfl⟩) hW 0 5 rfl rfl rfl rfl hl.1 rfl (Nat.le_of_ble_eq_true rfl) dX5_readsSet_28 ⟨Nat.zero_le _, Nat.zero_le _⟩ (fun H locs hW => ?_)
      refine lv_sipush (v := 999) hx hb dX5_readsSet_31 (by decide) ?_
      refine lv_icmp_gt (tgt := 41) hx hb dX5_readsSet_34 (by decide) (fun c12 => ?_) (fun c12 => ?_)
      · replace hd := if_t c12 hd
        refine lv_iconst (v := 0) hx hb dX5_readsSet_41 (by decide) ?_
        obtain ⟨rfl, rfl⟩ := Prod.mk.inj (Option.some.inj hd)
        exact hQ _ _ _ _ (nz_b (Or.inl rfl)) hW dX5_readsSet_42
      · replace hd := if_f c12 hd
        refine lv_iconst (v := 1) hx hb dX5_readsSet_37 (by decide) ?_
        refine lv_goto (tgt := 42) hx hb dX5_readsSet_38 (by decide) ?_
        obtain ⟨rfl, rfl⟩ := Prod.mk.inj (Option.some.inj hd)
        exact hQ _ _ _ _ (nz_b (Or.inr rfl)) hW dX5_readsSet_42
  · replace hd := if_t c4 hd
    refine lv_iconst (v := 0) hx hb dX5_readsSet_8 (by decide) ?_
    obtain ⟨rfl, rfl⟩ := Prod.mk.inj (Option.some.inj hd)
    exact hQ _ _ _ _ (nz_b (Or.inl rfl)) hW dX5_readsSet_9
abbrev rmX5_readsAsk : Room := { frames := 6, cells := 0, slots := 0, locals := 136 }
set_option maxRecDepth 100000 in
set_option maxHeartbeats 4000000 in
theorem kX5_readsAsk (l : Launch) (Dd : va_G) (Y : yT) (ad : Nat → Nat) (F : gF) (r : Int32) (F' : gF) (hd : dnX5_readsAsk F = some (r, F')) : MG l yX5_readsAsk wsX5_readsAsk rmX5_readsAsk Dd Y [.ref (ad 0)] (WM Y ad F) (WM Y ad F') (some (.int r)) := by
  refine MGi (cc := cX5_readsAsk) (maxL := 2) (ty := .boolean) (by decide) rfl (Nat.le_of_ble_eq_true rfl) (fun {p e s m args below meth c A} ls Q X hW hl hQ => ?_)
  have hx := X.x
  have hb := X.b
  have hl : lv_has ls 2 [(0, .ref (ad 0))] := hl
  have hinX5 : ∀ w ∈ wsX50, w ∈ wsX5_readsAsk := fun w h => List.mem_cons_of_mem _ (List.mem_append_right _ h)
  unfold dnX5_readsAsk at hd
  refine lv_aload_n hx hb dX5_readsAsk_0 rfl (lv_at hl 0 rfl) ?_
  refine lv_iconst (v := 0) hx hb dX5_readsAsk_1 (by decide) ?_
  obtain ⟨r2, F3, h1, hd⟩ := bs_e hd
  refine cVi_ (rest := []) X (kX5_readsPlace l Dd Y ad F 0 r2 F3 h1) (cwV 1 X.1.2.2.2.2 gX5_readsAsk_X5_readsPlace rfl rfl rfl (by decide +kernel) ⟨Nat.le_of_ble_eq_true rfl, Nat.le_of_ble_eq_true rfl⟩) hW 0 5 rfl rfl rfl rfl hl.1 rfl (Nat.le_of_ble_eq_true rfl) dX5_readsAsk_2 ⟨Nat.zero_le _, Nat.zero_le _⟩ (fun H locs hW => ?_)
  refine lv_if_ne (tgt := 10) hx hb dX5_readsAsk_5 (by decide) (fun c4 => ?_) (fun c4 => ?_)
  · replace hd := if_f c4 hd
    refine lv_aload_n hx hb dX5_readsAsk_10 rfl (lv_at hl 0 rfl) ?_
    refine g_ X hinX5 hW 0 rfl rfl 12 (by decide) 1 rfl rfl rfl dX5_readsAsk_11 ?_
    refine lv_istore_n (lv' := [(1, .int (F3 0 12)), (0, .ref (ad 0))]) hx hb dX5_readsAsk_14 rfl hl (by decide) rfl (fun ls hl => ?_)
    refine lv_aload_n hx hb dX5_readsAsk_15 rfl (lv_at hl 1 rfl) ?_
    refine lv_iload_n hx hb dX5_readsAsk_16 rfl (lv_at hl 0 rfl) ?_
    obtain ⟨r6, F7, h5, hd⟩ := bs_e hd
    refine cVi_ (rest := []) X (kX5_readsPlace l Dd Y ad F3 (F3 0 12) r6 F7 h5) (cwV 1 X.1.2.2.2.2 gX5_readsAsk_X5_readsPlace rfl rfl rfl (by decide +kernel) ⟨Nat.le_of_ble_eq_true rfl, Nat.le_of_ble_eq_true rfl⟩) hW 0 5 rfl rfl rfl rfl hl.1 rfl (Nat.le_of_ble_eq_true rfl) dX5_readsAsk_17 ⟨Nat.zero_le _, Nat.zero_le _⟩ (fun H locs hW => ?_)
    refine lv_if_eq (tgt := 39) hx hb dX5_readsAsk_20 (by decide) (fun c8 => ?_) (fun c8 => ?_)
    · replace hd := if_t c8 hd
      refine lv_iconst (v := 0) hx hb dX5_readsAsk_39 (by decide) ?_
      obtain ⟨rfl, rfl⟩ := Prod.mk.inj (Option.some.inj hd)
      exact hQ _ _ _ _ (nz_b (Or.inl rfl)) hW dX5_readsAsk_40
    · replace hd := if_f c8 hd
      refine lv_aload_n hx hb dX5_readsAsk_23 rfl (lv_at hl 1 rfl) ?_
      refine lv_iload_n hx hb dX5_readsAsk_24 rfl (lv_at hl 0 rfl) ?_
      refine lv_aload_n hx hb dX5_readsAsk_25 rfl (lv_at hl 1 rfl) ?_
      refine g_ X hinX5 hW 0 rfl rfl 12 (by decide) 1 rfl rfl rfl dX5_readsAsk_26 ?_
      obtain ⟨r10, F11, h9, hd⟩ := bs_e hd
      refine cVi_ (rest := []) X (kX5_asks l Dd Y ad F7 (F3 0 12) (F7 0 12) r10 F11 h9) (cwV 2 X.1.2.2.2.2 gX5_readsAsk_X5_asks rfl rfl rfl (by decide +kernel) ⟨Nat.le_of_ble_eq_true rfl, Nat.le_of_ble_eq_true rfl⟩) hW 0 5 rfl rfl rfl rfl hl.1 rfl (Nat.le_of_ble_eq_true rfl) dX5_readsAsk_29 ⟨Nat.zero_le _, Nat.zero_le _⟩ (fun H locs hW => ?_)
      refine lv_if_lt (tgt := 39) hx hb dX5_readsAsk_32 (by decide) (fun c12 => ?_) (fun c12 => ?_)
      · replace hd := if_t c12 hd
        refine lv_iconst (v := 0) hx hb dX5_readsAsk_39 (by decide) ?_
        obtain ⟨rfl, rfl⟩ := Prod.mk.inj (Option.some.inj hd)
        exact hQ _ _ _ _ (nz_b (Or.inl rfl)) hW dX5_readsAsk_40
      · replace hd := if_f c12 hd
        refine lv_iconst (v := 1) hx hb dX5_readsAsk_35 (by decide) ?_
        refine lv_goto (tgt := 40) hx hb dX5_readsAsk_36 (by decide) ?_
        obtain ⟨rfl, rfl⟩ := Prod.mk.inj (Option.some.inj hd)
        exact hQ _ _ _ _ (nz_b (Or.inr rfl)) hW dX5_readsAsk_40
  · replace hd := if_t c4 hd
    refine lv_iconst (v := 0) hx hb dX5_readsAsk_8 (by decide) ?_
    obtain ⟨rfl, rfl⟩ := Prod.mk.inj (Option.some.inj hd)
    exact hQ _ _ _ _ (nz_b (Or.inl rfl)) hW dX5_readsAsk_9
abbrev rmX5_readsKeep : Room := { frames := 3, cells := 0, slots := 0, locals := 67 }
set_option maxRecDepth 100000 in
set_option maxHeartbeats 4000000 in
theorem kX5_readsKeep (l : Launch) (Dd : va_G) (Y : yT) (ad : Nat → Nat) (F : gF) (r : Int32) (F' : gF) (hd : dnX5_readsKeep F = some (r, F')) : MG l yX5_readsKeep wsX5_readsKeep rmX5_readsKeep Dd Y [.ref (ad 0)] (WM Y ad F) (WM Y ad F') (some (.int r)) := by
  refine MGi (cc := cX5_readsKeep) (maxL := 2) (ty := .boolean) (by decide) rfl (Nat.le_of_ble_eq_true rfl) (fun {p e s m args below meth c A} ls Q X hW hl hQ => ?_)
  have hx := X.x
  have hb := X.b
  have hl : lv_has ls 2 [(0, .ref (ad 0))] := hl
  have hinX5 : ∀ w ∈ wsX50, w ∈ wsX5_readsKeep := fun w h => List.mem_cons_of_mem _ (List.mem_append_right _ h)
  unfold dnX5_readsKeep at hd
  refine lv_aload_n hx hb dX5_readsKeep_0 rfl (lv_at hl 0 rfl) ?_
  refine lv_iconst (v := 0) hx hb dX5_readsKeep_1 (by decide) ?_
  obtain ⟨r2, F3, h1, hd⟩ := bs_e hd
  refine cVi_ (rest := []) X (kX5_readsPlace l Dd Y ad F 0 r2 F3 h1) (cwV 1 X.1.2.2.2.2 gX5_readsKeep_X5_readsPlace rfl rfl rfl (by decide +kernel) ⟨Nat.le_of_ble_eq_true rfl, Nat.le_of_ble_eq_true rfl⟩) hW 0 5 rfl rfl rfl rfl hl.1 rfl (Nat.le_of_ble_eq_true rfl) dX5_readsKeep_2 ⟨Nat.zero_le _, Nat.zero_le _⟩ (fun H locs hW => ?_)
  refine lv_if_ne (tgt := 10) hx hb dX5_readsKeep_5 (by decide) (fun c4 => ?_) (fun c4 => ?_)
  · replace hd := if_f c4 hd
    refine lv_aload_n hx hb dX5_readsKeep_10 rfl (lv_at hl 0 rfl) ?_
    refine lv_bipush (v := 6) hx hb dX5_readsKeep_11 (by decide) ?_
    obtain ⟨r6, h5, hd⟩ := bp_e hd
    refine cVi_ (rest := []) X (kX5_get l Dd Y ad F3 6 r6 h5) (cwV 1 X.1.2.2.2.2 gX5_readsKeep_X5_get rfl rfl rfl (by decide +kernel) ⟨Nat.le_of_ble_eq_true rfl, Nat.le_of_ble_eq_true rfl⟩) hW 0 5 rfl rfl rfl rfl hl.1 rfl (Nat.le_of_ble_eq_true rfl) dX5_readsKeep_13 ⟨Nat.zero_le _, Nat.zero_le _⟩ (fun H locs hW => ?_)
    refine lv_bipush (v := 8) hx hb dX5_readsKeep_16 (by decide) ?_
    refine lv_icmp_ne (tgt := 32) hx hb dX5_readsKeep_18 (by decide) (fun c7 => ?_) (fun c7 => ?_)
    · replace hd := if_f c7 hd
      refine lv_aload_n hx hb dX5_readsKeep_32 rfl (lv_at hl 0 rfl) ?_
      refine g_ X hinX5 hW 0 rfl rfl 12 (by decide) 2 rfl rfl rfl dX5_readsKeep_33 ?_
      refine lv_istore_n (lv' := [(1, .int (F3 0 12)), (0, .ref (ad 0))]) hx hb dX5_readsKeep_36 rfl hl (by decide) rfl (fun ls hl => ?_)
      refine lv_aload_n hx hb dX5_readsKeep_37 rfl (lv_at hl 1 rfl) ?_
      refine lv_iload_n hx hb dX5_readsKeep_38 rfl (lv_at hl 0 rfl) ?_
      obtain ⟨r9, F10, h8, hd⟩ := bs_e hd
      refine cVi_ (rest := []) X (kX5_readsPlace l Dd Y ad F3 (F3 0 12) r9 F10 h8) (cwV 1 X.1.2.2.2.2 gX5_readsKeep_X5_readsPlace rfl rfl rfl (by decide +kernel) ⟨Nat.le_of_ble_eq_true rfl, Nat.le_of_ble_eq_true rfl⟩) hW 0 5 rfl rfl rfl rfl hl.1 rfl (Nat.le_of_ble_eq_true rfl) dX5_readsKeep_39 ⟨Nat.zero_le _, Nat.zero_le _⟩ (fun H locs hW => ?_)
      refine lv_if_eq (tgt := 61) hx hb dX5_readsKeep_42 (by decide) (fun c11 => ?_) (fun c11 => ?_)
      · replace hd := if_t c11 hd
        refine lv_iconst (v := 0) hx hb dX5_readsKeep_61 (by decide) ?_
        obtain ⟨rfl, rfl⟩ := Prod.mk.inj (Option.some.inj hd)
        exact hQ _ _ _ _ (nz_b (Or.inl rfl)) hW dX5_readsKeep_62
      · replace hd := if_f c11 hd
        refine lv_aload_n hx hb dX5_readsKeep_45 rfl (lv_at hl 1 rfl) ?_
        refine lv_iload_n hx hb dX5_readsKeep_46 rfl (lv_at hl 0 rfl) ?_
        refine lv_aload_n hx hb dX5_readsKeep_47 rfl (lv_at hl 1 rfl) ?_
        refine g_ X hinX5 hW 0 rfl rfl 12 (by decide) 2 rfl rfl rfl dX5_readsKeep_48 ?_
        obtain ⟨r13, F14, h12, hd⟩ := bs_e hd
        refine cVi_ (rest := []) X (kX5_keeps l Dd Y ad F10 (F3 0 12) (F10 0 12) r13 F14 h12) (cwV 2 X.1.2.2.2.2 gX5_readsKeep_X5_keeps rfl rfl rfl (by decide +kernel) ⟨Nat.le_of_ble_eq_true rfl, Nat.le_of_ble_eq_true rfl⟩) hW 0 5 rfl rfl rfl rfl hl.1 rfl (Nat.le_of_ble_eq_true rfl) dX5_readsKeep_51 ⟨Nat.zero_le _, Nat.zero_le _⟩ (fun H locs hW => ?_)
        refine lv_if_le (tgt := 61) hx hb dX5_readsKeep_54 (by decide) (fun c15 => ?_) (fun c15 => ?_)
        · replace hd := if_t c15 hd
          refine lv_iconst (v := 0) hx hb dX5_readsKeep_61 (by decide) ?_
          obtain ⟨rfl, rfl⟩ := Prod.mk.inj (Option.some.inj hd)
          exact hQ _ _ _ _ (nz_b (Or.inl rfl)) hW dX5_readsKeep_62
        · replace hd := if_f c15 hd
          refine lv_iconst (v := 1) hx hb dX5_readsKeep_57 (by decide) ?_
          refine lv_goto (tgt := 62) hx hb dX5_readsKeep_58 (by decide) ?_
          obtain ⟨rfl, rfl⟩ := Prod.mk.inj (Option.some.inj hd)
          exact hQ _ _ _ _ (nz_b (Or.inr rfl)) hW dX5_readsKeep_62
    · replace hd := if_t c7 hd
      refine lv_aload_n hx hb dX5_readsKeep_21 rfl (lv_at hl 0 rfl) ?_
      refine lv_bipush (v := (-4)) hx hb dX5_readsKeep_22 (by decide) ?_
      refine lv_aload_n hx hb dX5_readsKeep_24 rfl (lv_at hl 0 rfl) ?_
      refine g_ X hinX5 hW 0 rfl rfl 13 (by decide) 1 rfl rfl rfl dX5_readsKeep_25 ?_
      obtain ⟨r17, F18, h16, hd⟩ := bs_e hd
      refine cVi_ (rest := []) X (kX5_fails l Dd Y ad F3 (-4) (F3 0 13) r17 F18 h16) (cwV 2 X.1.2.2.2.2 gX5_readsKeep_X5_fails rfl rfl rfl (by decide +kernel) ⟨Nat.le_of_ble_eq_true rfl, Nat.le_of_ble_eq_true rfl⟩) hW 0 5 rfl rfl rfl rfl hl.1 rfl (Nat.le_of_ble_eq_true rfl) dX5_readsKeep_28 ⟨Nat.zero_le _, Nat.zero_le _⟩ (fun H locs hW => ?_)
      obtain ⟨hz19, hd⟩ := rzs_e hd
      obtain ⟨rfl, rfl⟩ := Prod.mk.inj hd
      exact hQ _ _ _ _ (nz_b hz19) hW dX5_readsKeep_31
  · replace hd := if_t c4 hd
    refine lv_iconst (v := 0) hx hb dX5_readsKeep_8 (by decide) ?_
    obtain ⟨rfl, rfl⟩ := Prod.mk.inj (Option.some.inj hd)
    exact hQ _ _ _ _ (nz_b (Or.inl rfl)) hW dX5_readsKeep_9
abbrev rmX5_readsPut : Room := { frames := 6, cells := 0, slots := 0, locals := 133 }
set_option maxRecDepth 100000 in
set_option maxHeartbeats 4000000 in
theorem kX5_readsPut (l : Launch) (Dd : va_G) (Y : yT) (ad : Nat → Nat) (F : gF) (r : Int32) (F' : gF) (hd : dnX5_readsPut F = some (r, F')) : MG l yX5_readsPut wsX5_readsPut rmX5_readsPut Dd Y [.ref (ad 0)] (WM Y ad F) (WM Y ad F') (some (.int r)) := by
  refine MGi (cc := cX5_readsPut) (maxL := 2) (ty := .boolean) (by decide) rfl (Nat.le_of_ble_eq_true rfl) (fun {p e s m args below meth c A} ls Q X hW hl hQ => ?_)
  have hx := X.x
  have hb := X.b
  have hl : lv_has ls 2 [(0, .ref (ad 0))] := hl
  have hinX5 : ∀ w ∈ wsX50, w ∈ wsX5_readsPut := fun w h => List.mem_cons_of_mem _ (List.mem_append_right _ h)
  unfold dnX5_readsPut at hd
  refine lv_aload_n hx hb dX5_readsPut_0 rfl (lv_at hl 0 rfl) ?_
  refine lv_iconst (v := 0) hx hb dX5_readsPut_1 (by decide) ?_
  refine lv_aload_n hx hb dX5_readsPut_2 rfl (lv_at hl 0 rfl) ?_
  obtain ⟨r2, h1, hd⟩ := bp_e hd
  refine cVi_ (rest := [.int 0, .ref (ad 0)]) X (kX5_size l Dd Y ad F r2 h1) (cwV 0 X.1.2.2.2.2 gX5_readsPut_X5_size rfl rfl rfl (by decide +kernel) ⟨Nat.le_of_ble_eq_true rfl, Nat.le_of_ble_eq_true rfl⟩) hW 0 5 rfl rfl rfl rfl hl.1 rfl (Nat.le_of_ble_eq_true rfl) dX5_readsPut_3 ⟨Nat.zero_le _, Nat.zero_le _⟩ (fun H locs hW => ?_)
  obtain ⟨r4, F5, h3, hd⟩ := bs_e hd
  refine cVi_ (rest := []) X (kX5_reads l Dd Y ad F 0 r2 r4 F5 h3) (cwV 2 X.1.2.2.2.2 gX5_readsPut_X5_reads rfl rfl rfl (by decide +kernel) ⟨Nat.le_of_ble_eq_true rfl, Nat.le_of_ble_eq_true rfl⟩) hW 0 5 rfl rfl rfl rfl hl.1 rfl (Nat.le_of_ble_eq_true rfl) dX5_readsPut_6 ⟨Nat.zero_le _, Nat.zero_le _⟩ (fun H locs hW => ?_)
  refine lv_if_ne (tgt := 14) hx hb dX5_readsPut_9 (by decide) (fun c6 => ?_) (fun c6 => ?_)
  · replace hd := if_f c6 hd
    refine lv_aload_n hx hb dX5_readsPut_14 rfl (lv_at hl 0 rfl) ?_
    obtain ⟨r8, h7, hd⟩ := bp_e hd
    refine cVi_ (rest := []) X (kX5_size l Dd Y ad F5 r8 h7) (cwV 0 X.1.2.2.2.2 gX5_readsPut_X5_size rfl rfl rfl (by decide +kernel) ⟨Nat.le_of_ble_eq_true rfl, Nat.le_of_ble_eq_true rfl⟩) hW 0 5 rfl rfl rfl rfl hl.1 rfl (Nat.le_of_ble_eq_true rfl) dX5_readsPut_15 ⟨Nat.zero_le _, Nat.zero_le _⟩ (fun H locs hW => ?_)
    refine lv_bipush (v := 40) hx hb dX5_readsPut_18 (by decide) ?_
    refine lv_icmp_ne (tgt := 34) hx hb dX5_readsPut_20 (by decide) (fun c9 => ?_) (fun c9 => ?_)
    · replace hd := if_f c9 hd
      refine lv_aload_n hx hb dX5_readsPut_34 rfl (lv_at hl 0 rfl) ?_
      refine g_ X hinX5 hW 0 rfl rfl 12 (by decide) 2 rfl rfl rfl dX5_readsPut_35 ?_
      refine lv_istore_n (lv' := [(1, .int (F5 0 12)), (0, .ref (ad 0))]) hx hb dX5_readsPut_38 rfl hl (by decide) rfl (fun ls hl => ?_)
      refine lv_aload_n hx hb dX5_readsPut_39 rfl (lv_at hl 1 rfl) ?_
      obtain ⟨r11, F12, h10, hd⟩ := bs_e hd
      refine cVi_ (rest := []) X (kX5_readsValue l Dd Y ad F5 r11 F12 h10) (cwV 0 X.1.2.2.2.2 gX5_readsPut_X5_readsValue rfl rfl rfl (by decide +kernel) ⟨Nat.le_of_ble_eq_true rfl, Nat.le_of_ble_eq_true rfl⟩) hW 0 5 rfl rfl rfl rfl hl.1 rfl (Nat.le_of_ble_eq_true rfl) dX5_readsPut_40 ⟨Nat.zero_le _, Nat.zero_le _⟩ (fun H locs hW => ?_)
      refine lv_if_eq (tgt := 62) hx hb dX5_readsPut_43 (by decide) (fun c13 => ?_) (fun c13 => ?_)
      · replace hd := if_t c13 hd
        refine lv_iconst (v := 0) hx hb dX5_readsPut_62 (by decide) ?_
        obtain ⟨rfl, rfl⟩ := Prod.mk.inj (Option.some.inj hd)
        exact hQ _ _ _ _ (nz_b (Or.inl rfl)) hW dX5_readsPut_63
      · replace hd := if_f c13 hd
        refine lv_aload_n hx hb dX5_readsPut_46 rfl (lv_at hl 1 rfl) ?_
        refine lv_iload_n hx hb dX5_readsPut_47 rfl (lv_at hl 0 rfl) ?_
        refine lv_aload_n hx hb dX5_readsPut_48 rfl (lv_at hl 1 rfl) ?_
        refine g_ X hinX5 hW 0 rfl rfl 12 (by decide) 2 rfl rfl rfl dX5_readsPut_49 ?_
        obtain ⟨r15, F16, h14, hd⟩ := bs_e hd
        refine cVi_ (rest := []) X (kX5_putsIn l Dd Y ad F12 (F5 0 12) (F12 0 12) r15 F16 h14) (cwV 2 X.1.2.2.2.2 gX5_readsPut_X5_putsIn rfl rfl rfl (by decide +kernel) ⟨Nat.le_of_ble_eq_true rfl, Nat.le_of_ble_eq_true rfl⟩) hW 0 5 rfl rfl rfl rfl hl.1 rfl (Nat.le_of_ble_eq_true rfl) dX5_readsPut_52 ⟨Nat.zero_le _, Nat.zero_le _⟩ (fun H locs hW => ?_)
        refine lv_if_le (tgt := 62) hx hb dX5_readsPut_55 (by decide) (fun c17 => ?_) (fun c17 => ?_)
        · replace hd := if_t c17 hd
          refine lv_iconst (v := 0) hx hb dX5_readsPut_62 (by decide) ?_
          obtain ⟨rfl, rfl⟩ := Prod.mk.inj (Option.some.inj hd)
          exact hQ _ _ _ _ (nz_b (Or.inl rfl)) hW dX5_readsPut_63
        · replace hd := if_f c17 hd
          refine lv_iconst (v := 1) hx hb dX5_readsPut_58 (by decide) ?_
          refine lv_goto (tgt := 63) hx hb dX5_readsPut_59 (by decide) ?_
          obtain ⟨rfl, rfl⟩ := Prod.mk.inj (Option.some.inj hd)
          exact hQ _ _ _ _ (nz_b (Or.inr rfl)) hW dX5_readsPut_63
    · replace hd := if_t c9 hd
      refine lv_aload_n hx hb dX5_readsPut_23 rfl (lv_at hl 0 rfl) ?_
      refine lv_bipush (v := (-4)) hx hb dX5_readsPut_24 (by decide) ?_
      refine lv_aload_n hx hb dX5_readsPut_26 rfl (lv_at hl 0 rfl) ?_
      refine g_ X hinX5 hW 0 rfl rfl 13 (by decide) 1 rfl rfl rfl dX5_readsPut_27 ?_
      obtain ⟨r19, F20, h18, hd⟩ := bs_e hd
      refine cVi_ (rest := []) X (kX5_fails l Dd Y ad F5 (-4) (F5 0 13) r19 F20 h18) (cwV 2 X.1.2.2.2.2 gX5_readsPut_X5_fails rfl rfl rfl (by decide +kernel) ⟨Nat.le_of_ble_eq_true rfl, Nat.le_of_ble_eq_true rfl⟩) hW 0 5 rfl rfl rfl rfl hl.1 rfl (Nat.le_of_ble_eq_true rfl) dX5_readsPut_30 ⟨Nat.zero_le _, Nat.zero_le _⟩ (fun H locs hW => ?_)
      obtain ⟨hz21, hd⟩ := rzs_e hd
      obtain ⟨rfl, rfl⟩ := Prod.mk.inj hd
      exact hQ _ _ _ _ (nz_b hz21) hW dX5_readsPut_33
  · replace hd := if_t c6 hd
    refine lv_iconst (v := 0) hx hb dX5_readsPut_12 (by decide) ?_
    obtain ⟨rfl, rfl⟩ := Prod.mk.inj (Option.some.inj hd)
    exact hQ _ _ _ _ (nz_b (Or.inl rfl)) hW dX5_readsPut_13
abbrev rmX5_readsTake : Room := { frames := 6, cells := 0, slots := 0, locals := 133 }
set_option maxRecDepth 100000 in
set_option maxHeartbeats 4000000 in
theorem kX5_readsTake (l : Launch) (Dd : va_G) (Y : yT) (ad : Nat → Nat) (F : gF) (r : Int32) (F' : gF) (hd : dnX5_readsTake F = some (r, F')) : MG l yX5_readsTake wsX5_readsTake rmX5_readsTake Dd Y [.ref (ad 0)] (WM Y ad F) (WM Y ad F') (some (.int r)) := by
  refine MGi (cc := cX5_readsTake) (maxL := 1) (ty := .boolean) (by decide) rfl (Nat.le_of_ble_eq_true rfl) (fun {p e s m args below meth c A} ls Q X hW hl hQ => ?_)
  have hx := X.x
  have hb := X.b
  have hl : lv_has ls 1 [(0, .ref (ad 0))] := hl
  have hinX5 : ∀ w ∈ wsX50, w ∈ wsX5_readsTake := fun w h => List.mem_cons_of_mem _ (List.mem_append_right _ h)
  unfold dnX5_readsTake at hd
  refine lv_aload_n hx hb dX5_readsTake_0 rfl (lv_at hl 0 rfl) ?_
  refine lv_iconst (v := 0) hx hb dX5_readsTake_1 (by decide) ?_
  obtain ⟨r2, F3, h1, hd⟩ := bs_e hd
  refine cVi_ (rest := []) X (kX5_readsPlace l Dd Y ad F 0 r2 F3 h1) (cwV 1 X.1.2.2.2.2 gX5_readsTake_X5_readsPlace rfl rfl rfl (by decide +kernel) ⟨Nat.le_of_ble_eq_true rfl, Nat.le_of_ble_eq_true rfl⟩) hW 0 5 rfl rfl rfl rfl hl.1 rfl (Nat.le_of_ble_eq_true rfl) dX5_readsTake_2 ⟨Nat.zero_le _, Nat.zero_le _⟩ (fun H locs hW => ?_)
  refine lv_if_ne (tgt := 10) hx hb dX5_readsTake_5 (by decide) (fun c4 => ?_) (fun c4 => ?_)
  · replace hd := if_f c4 hd
    refine lv_aload_n hx hb dX5_readsTake_10 rfl (lv_at hl 0 rfl) ?_
    obtain ⟨r6, h5, hd⟩ := bp_e hd
    refine cVi_ (rest := []) X (kX5_size l Dd Y ad F3 r6 h5) (cwV 0 X.1.2.2.2.2 gX5_readsTake_X5_size rfl rfl rfl (by decide +kernel) ⟨Nat.le_of_ble_eq_true rfl, Nat.le_of_ble_eq_true rfl⟩) hW 0 5 rfl rfl rfl rfl hl.1 rfl (Nat.le_of_ble_eq_true rfl) dX5_readsTake_11 ⟨Nat.zero_le _, Nat.zero_le _⟩ (fun H locs hW => ?_)
    refine lv_iconst (v := 1) hx hb dX5_readsTake_14 (by decide) ?_
    refine lv_icmp_ne (tgt := 29) hx hb dX5_readsTake_15 (by decide) (fun c7 => ?_) (fun c7 => ?_)
    · replace hd := if_f c7 hd
      refine lv_aload_n hx hb dX5_readsTake_29 rfl (lv_at hl 0 rfl) ?_
      refine lv_aload_n hx hb dX5_readsTake_30 rfl (lv_at hl 0 rfl) ?_
      refine g_ X hinX5 hW 0 rfl rfl 12 (by decide) 2 rfl rfl rfl dX5_readsTake_31 ?_
      obtain ⟨r9, F10, h8, hd⟩ := bs_e hd
      refine cVi_ (rest := []) X (kX5_takesOut l Dd Y ad F3 (F3 0 12) r9 F10 h8) (cwV 1 X.1.2.2.2.2 gX5_readsTake_X5_takesOut rfl rfl rfl (by decide +kernel) ⟨Nat.le_of_ble_eq_true rfl, Nat.le_of_ble_eq_true rfl⟩) hW 0 5 rfl rfl rfl rfl hl.1 rfl (Nat.le_of_ble_eq_true rfl) dX5_readsTake_34 ⟨Nat.zero_le _, Nat.zero_le _⟩ (fun H locs hW => ?_)
      refine lv_sipush (v := 999) hx hb dX5_readsTake_37 (by decide) ?_
      refine lv_icmp_gt (tgt := 47) hx hb dX5_readsTake_40 (by decide) (fun c11 => ?_) (fun c11 => ?_)
      · replace hd := if_t c11 hd
        refine lv_iconst (v := 0) hx hb dX5_readsTake_47 (by decide) ?_
        obtain ⟨rfl, rfl⟩ := Prod.mk.inj (Option.some.inj hd)
        exact hQ _ _ _ _ (nz_b (Or.inl rfl)) hW dX5_readsTake_48
      · replace hd := if_f c11 hd
        refine lv_iconst (v := 1) hx hb dX5_readsTake_43 (by decide) ?_
        refine lv_goto (tgt := 48) hx hb dX5_readsTake_44 (by decide) ?_
        obtain ⟨rfl, rfl⟩ := Prod.mk.inj (Option.some.inj hd)
        exact hQ _ _ _ _ (nz_b (Or.inr rfl)) hW dX5_readsTake_48
    · replace hd := if_t c7 hd
      refine lv_aload_n hx hb dX5_readsTake_18 rfl (lv_at hl 0 rfl) ?_
      refine lv_bipush (v := (-5)) hx hb dX5_readsTake_19 (by decide) ?_
      refine lv_aload_n hx hb dX5_readsTake_21 rfl (lv_at hl 0 rfl) ?_
      refine g_ X hinX5 hW 0 rfl rfl 13 (by decide) 1 rfl rfl rfl dX5_readsTake_22 ?_
      obtain ⟨r13, F14, h12, hd⟩ := bs_e hd
      refine cVi_ (rest := []) X (kX5_fails l Dd Y ad F3 (-5) (F3 0 13) r13 F14 h12) (cwV 2 X.1.2.2.2.2 gX5_readsTake_X5_fails rfl rfl rfl (by decide +kernel) ⟨Nat.le_of_ble_eq_true rfl, Nat.le_of_ble_eq_true rfl⟩) hW 0 5 rfl rfl rfl rfl hl.1 rfl (Nat.le_of_ble_eq_true rfl) dX5_readsTake_25 ⟨Nat.zero_le _, Nat.zero_le _⟩ (fun H locs hW => ?_)
      obtain ⟨hz15, hd⟩ := rzs_e hd
      obtain ⟨rfl, rfl⟩ := Prod.mk.inj hd
      exact hQ _ _ _ _ (nz_b hz15) hW dX5_readsTake_28
  · replace hd := if_t c4 hd
    refine lv_iconst (v := 0) hx hb dX5_readsTake_8 (by decide) ?_
    obtain ⟨rfl, rfl⟩ := Prod.mk.inj (Option.some.inj hd)
    exact hQ _ _ _ _ (nz_b (Or.inl rfl)) hW dX5_readsTake_9
abbrev rmX5_readsStatement : Room := { frames := 7, cells := 0, slots := 0, locals := 157 }
set_option maxRecDepth 100000 in
set_option maxHeartbeats 4000000 in
theorem kX5_readsStatement (l : Launch) (Dd : va_G) (Y : yT) (ad : Nat → Nat) (F : gF) (r : Int32) (F' : gF) (hd : dnX5_readsStatement F = some (r, F')) : MG l yX5_readsStatement wsX5_readsStatement rmX5_readsStatement Dd Y [.ref (ad 0)] (WM Y ad F) (WM Y ad F') (some (.int r)) := by
  refine MGi (cc := cX5_readsStatement) (maxL := 2) (ty := .boolean) (by decide) rfl (Nat.le_of_ble_eq_true rfl) (fun {p e s m args below meth c A} ls Q X hW hl hQ => ?_)
  have hx := X.x
  have hb := X.b
  have hl : lv_has ls 2 [(0, .ref (ad 0))] := hl
  have hinX5 : ∀ w ∈ wsX50, w ∈ wsX5_readsStatement := fun w h => List.mem_cons_of_mem _ (List.mem_append_right _ h)
  unfold dnX5_readsStatement at hd
  refine lv_aload_n hx hb dX5_readsStatement_0 rfl (lv_at hl 0 rfl) ?_
  obtain ⟨r2, F3, h1, hd⟩ := bs_e hd
  refine cVi_ (rest := []) X (kX5_here l Dd Y ad F r2 F3 h1) (cwV 0 X.1.2.2.2.2 gX5_readsStatement_X5_here rfl rfl rfl (by decide +kernel) ⟨Nat.le_of_ble_eq_true rfl, Nat.le_of_ble_eq_true rfl⟩) hW 0 5 rfl rfl rfl rfl hl.1 rfl (Nat.le_of_ble_eq_true rfl) dX5_readsStatement_1 ⟨Nat.zero_le _, Nat.zero_le _⟩ (fun H locs hW => ?_)
  refine lv_pop hx hb dX5_readsStatement_4 rfl ?_
  refine lv_aload_n hx hb dX5_readsStatement_5 rfl (lv_at hl 0 rfl) ?_
  refine g_ X hinX5 hW 0 rfl rfl 9 (by decide) 1 rfl rfl rfl dX5_readsStatement_6 ?_
  refine lv_istore_n (lv' := [(1, .int (F3 0 9)), (0, .ref (ad 0))]) hx hb dX5_readsStatement_9 rfl hl (by decide) rfl (fun ls hl => ?_)
  refine lv_aload_n hx hb dX5_readsStatement_10 rfl (lv_at hl 1 rfl) ?_
  refine va_ldcS hx hb X.1.2.2.2.1 (X.2.2.2.1.2.1 _ (List.mem_of_getElem? (i := 7) rfl)) dX5_readsStatement_11 ?_
  obtain ⟨r5, F6, h4, hd⟩ := bs_e hd
  refine cVi_ (rest := []) X (kX5_passes l Dd Y ad F3 1 (by decide) r5 F6 h4) (cwV 1 X.1.2.2.2.2 gX5_readsStatement_X5_passes rfl rfl rfl (by decide +kernel) ⟨Nat.le_of_ble_eq_true rfl, Nat.le_of_ble_eq_true rfl⟩) hW 0 5 rfl rfl rfl rfl hl.1 rfl (Nat.le_of_ble_eq_true rfl) dX5_readsStatement_13 ⟨Nat.zero_le _, Nat.zero_le _⟩ (fun H locs hW => ?_)
  refine lv_if_eq (tgt := 24) hx hb dX5_readsStatement_16 (by decide) (fun c7 => ?_) (fun c7 => ?_)
  · replace hd := if_t c7 hd
    refine lv_aload_n hx hb dX5_readsStatement_24 rfl (lv_at hl 1 rfl) ?_
    refine va_ldcS hx hb X.1.2.2.2.1 (X.2.2.2.1.2.1 _ (List.mem_of_getElem? (i := 8) rfl)) dX5_readsStatement_25 ?_
    obtain ⟨r9, F10, h8, hd⟩ := bs_e hd
    refine cVi_ (rest := []) X (kX5_passes l Dd Y ad F6 2 (by decide) r9 F10 h8) (cwV 1 X.1.2.2.2.2 gX5_readsStatement_X5_passes rfl rfl rfl (by decide +kernel) ⟨Nat.le_of_ble_eq_true rfl, Nat.le_of_ble_eq_true rfl⟩) hW 0 5 rfl rfl rfl rfl hl.1 rfl (Nat.le_of_ble_eq_true rfl) dX5_readsStatement_27 ⟨Nat.zero_le _, Nat.zero_le _⟩ (fun H locs hW => ?_)
    refine lv_if_eq (tgt := 38) hx hb dX5_readsStatement_30 (by decide) (fun c11 => ?_) (fun c11 => ?_)
    · replace hd := if_t c11 hd
      refine lv_aload_n hx hb dX5_readsStatement_38 rfl (lv_at hl 1 rfl) ?_
      refine va_ldcS hx hb X.1.2.2.2.1 (X.2.2.2.1.2.1 _ (List.mem_of_getElem? (i := 9) rfl)) dX5_readsStatement_39 ?_
      obtain ⟨r13, F14, h12, hd⟩ := bs_e hd
      refine cVi_ (rest := []) X (kX5_passes l Dd Y ad F10 3 (by decide) r13 F14 h12) (cwV 1 X.1.2.2.2.2 gX5_readsStatement_X5_passes rfl rfl rfl (by decide +kernel) ⟨Nat.le_of_ble_eq_true rfl, Nat.le_of_ble_eq_true rfl⟩) hW 0 5 rfl rfl rfl rfl hl.1 rfl (Nat.le_of_ble_eq_true rfl) dX5_readsStatement_41 ⟨Nat.zero_le _, Nat.zero_le _⟩ (fun H locs hW => ?_)
      refine lv_if_eq (tgt := 52) hx hb dX5_readsStatement_44 (by decide) (fun c15 => ?_) (fun c15 => ?_)
      · replace hd := if_t c15 hd
        refine lv_aload_n hx hb dX5_readsStatement_52 rfl (lv_at hl 1 rfl) ?_
        refine va_ldcS hx hb X.1.2.2.2.1 (X.2.2.2.1.2.1 _ (List.mem_of_getElem? (i := 10) rfl)) dX5_readsStatement_53 ?_
        obtain ⟨r17, F18, h16, hd⟩ := bs_e hd
        refine cVi_ (rest := []) X (kX5_passes l Dd Y ad F14 4 (by decide) r17 F18 h16) (cwV 1 X.1.2.2.2.2 gX5_readsStatement_X5_passes rfl rfl rfl (by decide +kernel) ⟨Nat.le_of_ble_eq_true rfl, Nat.le_of_ble_eq_true rfl⟩) hW 0 5 rfl rfl rfl rfl hl.1 rfl (Nat.le_of_ble_eq_true rfl) dX5_readsStatement_55 ⟨Nat.zero_le _, Nat.zero_le _⟩ (fun H locs hW => ?_)
        refine lv_if_eq (tgt := 66) hx hb dX5_readsStatement_58 (by decide) (fun c19 => ?_) (fun c19 => ?_)
        · replace hd := if_t c19 hd
          refine lv_aload_n hx hb dX5_readsStatement_66 rfl (lv_at hl 1 rfl) ?_
          refine va_ldcS hx hb X.1.2.2.2.1 (X.2.2.2.1.2.1 _ (List.mem_of_getElem? (i := 11) rfl)) dX5_readsStatement_67 ?_
          obtain ⟨r21, F22, h20, hd⟩ := bs_e hd
          refine cVi_ (rest := []) X (kX5_passes l Dd Y ad F18 5 (by decide) r21 F22 h20) (cwV 1 X.1.2.2.2.2 gX5_readsStatement_X5_passes rfl rfl rfl (by decide +kernel) ⟨Nat.le_of_ble_eq_true rfl, Nat.le_of_ble_eq_true rfl⟩) hW 0 5 rfl rfl rfl rfl hl.1 rfl (Nat.le_of_ble_eq_true rfl) dX5_readsStatement_69 ⟨Nat.zero_le _, Nat.zero_le _⟩ (fun H locs hW => ?_)
          refine lv_if_eq (tgt := 82) hx hb dX5_readsStatement_72 (by decide) (fun c23 => ?_) (fun c23 => ?_)
          · replace hd := if_t c23 hd
            refine lv_aload_n hx hb dX5_readsStatement_82 rfl (lv_at hl 1 rfl) ?_
            refine lv_bipush (v := (-2)) hx hb dX5_readsStatement_83 (by decide) ?_
            refine lv_iload_n hx hb dX5_readsStatement_85 rfl (lv_at hl 0 rfl) ?_
            obtain ⟨r25, F26, h24, hd⟩ := bs_e hd
            refine cVi_ (rest := []) X (kX5_fails l Dd Y ad F22 (-2) (F3 0 9) r25 F26 h24) (cwV 2 X.1.2.2.2.2 gX5_readsStatement_X5_fails rfl rfl rfl (by decide +kernel) ⟨Nat.le_of_ble_eq_true rfl, Nat.le_of_ble_eq_true rfl⟩) hW 0 5 rfl rfl rfl rfl hl.1 rfl (Nat.le_of_ble_eq_true rfl) dX5_readsStatement_86 ⟨Nat.zero_le _, Nat.zero_le _⟩ (fun H locs hW => ?_)
            obtain ⟨hz27, hd⟩ := rzs_e hd
            obtain ⟨rfl, rfl⟩ := Prod.mk.inj hd
            exact hQ _ _ _ _ (nz_b hz27) hW dX5_readsStatement_89
          · replace hd := if_f c23 hd
            refine lv_aload_n hx hb dX5_readsStatement_75 rfl (lv_at hl 1 rfl) ?_
            obtain ⟨r29, F30, h28, hd⟩ := bs_e hd
            refine cVi_ (rest := []) X (kX5_readsTake l Dd Y ad F22 r29 F30 h28) (cwV 0 X.1.2.2.2.2 gX5_readsStatement_X5_readsTake rfl rfl rfl (by decide +kernel) ⟨Nat.le_of_ble_eq_true rfl, Nat.le_of_ble_eq_true rfl⟩) hW 0 5 rfl rfl rfl rfl hl.1 rfl (Nat.le_of_ble_eq_true rfl) dX5_readsStatement_76 ⟨Nat.zero_le _, Nat.zero_le _⟩ (fun H locs hW => ?_)
            refine lv_goto (tgt := 89) hx hb dX5_readsStatement_79 (by decide) ?_
            obtain ⟨hz31, hd⟩ := rzs_e hd
            obtain ⟨rfl, rfl⟩ := Prod.mk.inj hd
            exact hQ _ _ _ _ (nz_b hz31) hW dX5_readsStatement_89
        · replace hd := if_f c19 hd
          refine lv_aload_n hx hb dX5_readsStatement_61 rfl (lv_at hl 1 rfl) ?_
          obtain ⟨r33, F34, h32, hd⟩ := bs_e hd
          refine cVi_ (rest := []) X (kX5_readsPut l Dd Y ad F18 r33 F34 h32) (cwV 0 X.1.2.2.2.2 gX5_readsStatement_X5_readsPut rfl rfl rfl (by decide +kernel) ⟨Nat.le_of_ble_eq_true rfl, Nat.le_of_ble_eq_true rfl⟩) hW 0 5 rfl rfl rfl rfl hl.1 rfl (Nat.le_of_ble_eq_true rfl) dX5_readsStatement_62 ⟨Nat.zero_le _, Nat.zero_le _⟩ (fun H locs hW => ?_)
          obtain ⟨hz35, hd⟩ := rzs_e hd
          obtain ⟨rfl, rfl⟩ := Prod.mk.inj hd
          exact hQ _ _ _ _ (nz_b hz35) hW dX5_readsStatement_65
      · replace hd := if_f c15 hd
        refine lv_aload_n hx hb dX5_readsStatement_47 rfl (lv_at hl 1 rfl) ?_
        obtain ⟨r37, F38, h36, hd⟩ := bs_e hd
        refine cVi_ (rest := []) X (kX5_readsKeep l Dd Y ad F14 r37 F38 h36) (cwV 0 X.1.2.2.2.2 gX5_readsStatement_X5_readsKeep rfl rfl rfl (by decide +kernel) ⟨Nat.le_of_ble_eq_true rfl, Nat.le_of_ble_eq_true rfl⟩) hW 0 5 rfl rfl rfl rfl hl.1 rfl (Nat.le_of_ble_eq_true rfl) dX5_readsStatement_48 ⟨Nat.zero_le _, Nat.zero_le _⟩ (fun H locs hW => ?_)
        obtain ⟨hz39, hd⟩ := rzs_e hd
        obtain ⟨rfl, rfl⟩ := Prod.mk.inj hd
        exact hQ _ _ _ _ (nz_b hz39) hW dX5_readsStatement_51
    · replace hd := if_f c11 hd
      refine lv_aload_n hx hb dX5_readsStatement_33 rfl (lv_at hl 1 rfl) ?_
      obtain ⟨r41, F42, h40, hd⟩ := bs_e hd
      refine cVi_ (rest := []) X (kX5_readsAsk l Dd Y ad F10 r41 F42 h40) (cwV 0 X.1.2.2.2.2 gX5_readsStatement_X5_readsAsk rfl rfl rfl (by decide +kernel) ⟨Nat.le_of_ble_eq_true rfl, Nat.le_of_ble_eq_true rfl⟩) hW 0 5 rfl rfl rfl rfl hl.1 rfl (Nat.le_of_ble_eq_true rfl) dX5_readsStatement_34 ⟨Nat.zero_le _, Nat.zero_le _⟩ (fun H locs hW => ?_)
      obtain ⟨hz43, hd⟩ := rzs_e hd
      obtain ⟨rfl, rfl⟩ := Prod.mk.inj hd
      exact hQ _ _ _ _ (nz_b hz43) hW dX5_readsStatement_37
  · replace hd := if_f c7 hd
    refine lv_aload_n hx hb dX5_readsStatement_19 rfl (lv_at hl 1 rfl) ?_
    obtain ⟨r45, F46, h44, hd⟩ := bs_e hd
    refine cVi_ (rest := []) X (kX5_readsSet l Dd Y ad F6 r45 F46 h44) (cwV 0 X.1.2.2.2.2 gX5_readsStatement_X5_readsSet rfl rfl rfl (by decide +kernel) ⟨Nat.le_of_ble_eq_true rfl, Nat.le_of_ble_eq_true rfl⟩) hW 0 5 rfl rfl rfl rfl hl.1 rfl (Nat.le_of_ble_eq_true rfl) dX5_readsStatement_20 ⟨Nat.zero_le _, Nat.zero_le _⟩ (fun H locs hW => ?_)
    obtain ⟨hz47, hd⟩ := rzs_e hd
    obtain ⟨rfl, rfl⟩ := Prod.mk.inj hd
    exact hQ _ _ _ _ (nz_b hz47) hW dX5_readsStatement_23
abbrev rmX5_readsText : Room := { frames := 8, cells := 0, slots := 0, locals := 178 }
set_option maxRecDepth 100000 in
set_option maxHeartbeats 4000000 in
theorem kX5_readsText (l : Launch) (Dd : va_G) (Y : yT) (ad : Nat → Nat) (F : gF) (r : Int32) (F' : gF) (hd : dnX5_readsText F = some (r, F')) : MG l yX5_readsText wsX5_readsText rmX5_readsText Dd Y [.ref (ad 0)] (WM Y ad F) (WM Y ad F') (some (.int r)) := by
  refine MGi (cc := cX5_readsText) (maxL := 2) (ty := .boolean) (by decide) rfl (Nat.le_of_ble_eq_true rfl) (fun {p e s m args below meth c A} ls Q X hW hl hQ => ?_)
  have hx := X.x
  have hb := X.b
  have hl : lv_has ls 2 [(0, .ref (ad 0))] := hl
  have hinX5 : ∀ w ∈ wsX50, w ∈ wsX5_readsText := fun w h => List.mem_cons_of_mem _ (List.mem_append_right _ h)
  unfold dnX5_readsText at hd
  have K22 : ∀ (n : Nat) (x1 : Int32) (F : gF) (z : Nat × gF), lpX5_readsText_22 n x1 F = some z → ∀ (H : Heap) (locs : List Loc) (ls : Array Slot), Wd Dd A s.heap (WM Y ad F) H locs → lv_has ls 2 [(0, .ref (ad 0)), (1, .int x1)] → (∀ (H : Heap) (locs : List Loc) (ls : Array Slot), z.1 = 0 → Wd Dd A s.heap (WM Y ad z.2) H locs → lv_has ls 2 [(0, .ref (ad 0))] → W p l e rmX5_readsText s m args below meth c H locs 0 0 Q (F0 m 41 ls [])) → W p l e rmX5_readsText s m args below meth c H locs 0 0 Q (F0 m 22 ls []) := by
    intro n
    induction n with
    | zero => intro x1 F z hd; cases hd
    | succ n ih =>
      intro x1 F z hd H locs ls hW hl kx0
      unfold lpX5_readsText_22 at hd
      refine lv_iload_n hx hb dX5_readsText_22 rfl (lv_at hl 1 rfl) ?_
      refine lv_sipush (v := 310) hx hb dX5_readsText_23 (by decide) ?_
      refine lv_icmp_ge (tgt := 41) hx hb dX5_readsText_26 (by decide) (fun c1 => ?_) (fun c1 => ?_)
      · replace hd := if_t c1 hd
        cases hd
        exact kx0 _ _ _ rfl hW (lv_sub hl [0] rfl)
      · replace hd := if_f c1 hd
        refine lv_aload_n hx hb dX5_readsText_29 rfl (lv_at hl 0 rfl) ?_
        refine lv_iload_n hx hb dX5_readsText_30 rfl (lv_at hl 1 rfl) ?_
        refine lv_iconst (v := 0) hx hb dX5_readsText_31 (by decide) ?_
        obtain ⟨F3, h2, hd⟩ := bp_e hd
        refine cVv_ (rest := []) X (kX5_put0 l Dd Y ad F x1 0 F3 h2) (cwV 2 X.1.2.2.2.2 gX5_readsText_X5_put0 rfl rfl rfl (by decide +kernel) ⟨Nat.le_of_ble_eq_true rfl, Nat.le_of_ble_eq_true rfl⟩) hW 0 5 rfl rfl rfl rfl hl.1 rfl (Nat.le_of_ble_eq_true rfl) dX5_readsText_32 ⟨Nat.zero_le _, Nat.zero_le _⟩ (fun H locs hW => ?_)
        refine lv_iinc (v := x1 + 1) (lv' := [(1, .int (x1 + 1)), (0, .ref (ad 0))]) hx hb dX5_readsText_35 hl (k := 1) rfl rfl (by decide) rfl (fun ls hl => ?_)
        refine lv_goto (tgt := 22) hx hb dX5_readsText_38 (by decide) ?_
        exact ih (x1 + 1) F3 z hd _ _ _ hW (lv_sub hl [1, 0] rfl) kx0
  have K113 : ∀ (n : Nat) (F : gF) (z : Nat × gF), lpX5_readsText_113 n F = some z → ∀ (H : Heap) (locs : List Loc) (ls : Array Slot), Wd Dd A s.heap (WM Y ad F) H locs → lv_has ls 2 [(0, .ref (ad 0))] → (∀ (H : Heap) (locs : List Loc) (ls : Array Slot), z.1 = 0 → Wd Dd A s.heap (WM Y ad z.2) H locs → lv_has ls 2 [] → W p l e rmX5_readsText s m args below meth c H locs 0 0 Q (F0 m 137 ls [])) → (∀ (H : Heap) (locs : List Loc) (ls : Array Slot), z.1 = 1 → Wd Dd A s.heap (WM Y ad z.2) H locs → lv_has ls 2 [] → W p l e rmX5_readsText s m args below meth c H locs 0 0 Q (F0 m 139 ls [])) → W p l e rmX5_readsText s m args below meth c H locs 0 0 Q (F0 m 113 ls []) := by
    intro n
    induction n with
    | zero => intro F z hd; cases hd
    | succ n ih =>
      intro F z hd H locs ls hW hl kx0 kx1
      unfold lpX5_readsText_113 at hd
      refine lv_aload_n hx hb dX5_readsText_113 rfl (lv_at hl 0 rfl) ?_
      obtain ⟨r5, F6, h4, hd⟩ := bs_e hd
      refine cVi_ (rest := []) X (kX5_here l Dd Y ad F r5 F6 h4) (cwV 0 X.1.2.2.2.2 gX5_readsText_X5_here rfl rfl rfl (by decide +kernel) ⟨Nat.le_of_ble_eq_true rfl, Nat.le_of_ble_eq_true rfl⟩) hW 0 5 rfl rfl rfl rfl hl.1 rfl (Nat.le_of_ble_eq_true rfl) dX5_readsText_114 ⟨Nat.zero_le _, Nat.zero_le _⟩ (fun H locs hW => ?_)
      refine lv_iconst (v := (-1)) hx hb dX5_readsText_117 (by decide) ?_
      refine lv_icmp_eq (tgt := 139) hx hb dX5_readsText_118 (by decide) (fun c7 => ?_) (fun c7 => ?_)
      · replace hd := if_t c7 hd
        cases hd
        exact kx1 _ _ _ rfl hW (lv_sub hl [] rfl)
      · replace hd := if_f c7 hd
        refine lv_aload_n hx hb dX5_readsText_121 rfl (lv_at hl 0 rfl) ?_
        obtain ⟨r9, F10, h8, hd⟩ := bs_e hd
        refine cVi_ (rest := []) X (kX5_readsStatement l Dd Y ad F6 r9 F10 h8) (cwV 0 X.1.2.2.2.2 gX5_readsText_X5_readsStatement rfl rfl rfl (by decide +kernel) ⟨Nat.le_of_ble_eq_true rfl, Nat.le_of_ble_eq_true rfl⟩) hW 0 5 rfl rfl rfl rfl hl.1 rfl (Nat.le_of_ble_eq_true rfl) dX5_readsText_122 ⟨Nat.zero_le _, Nat.zero_le _⟩ (fun H locs hW => ?_)
        refine lv_if_eq (tgt := 137) hx hb dX5_readsText_125 (by decide) (fun c11 => ?_) (fun c11 => ?_)
        · replace hd := if_t c11 hd
          cases hd
          exact kx0 _ _ _ rfl hW (lv_sub hl [] rfl)
        · replace hd := if_f c11 hd
          refine lv_aload_n hx hb dX5_readsText_128 rfl (lv_at hl 0 rfl) ?_
          refine lv_bipush (v := 59) hx hb dX5_readsText_129 (by decide) ?_
          obtain ⟨r13, F14, h12, hd⟩ := bs_e hd
          refine cVi_ (rest := []) X (kX5_sign l Dd Y ad F10 59 r13 F14 h12) (cwV 1 X.1.2.2.2.2 gX5_readsText_X5_sign rfl rfl rfl (by decide +kernel) ⟨Nat.le_of_ble_eq_true rfl, Nat.le_of_ble_eq_true rfl⟩) hW 0 5 rfl rfl rfl rfl hl.1 rfl (Nat.le_of_ble_eq_true rfl) dX5_readsText_131 ⟨Nat.zero_le _, Nat.zero_le _⟩ (fun H locs hW => ?_)
          refine lv_if_ne (tgt := 113) hx hb dX5_readsText_134 (by decide) (fun c15 => ?_) (fun c15 => ?_)
          · replace hd := if_f c15 hd
            exact ih  F14 z hd _ _ _ hW (lv_sub hl [0] rfl) kx0 kx1
          · replace hd := if_t c15 hd
            cases hd
            exact kx0 _ _ _ rfl hW (lv_sub hl [] rfl)
  refine lv_aload_n hx hb dX5_readsText_0 rfl (lv_at hl 0 rfl) ?_
  refine va_ldcS hx hb X.1.2.2.2.1 (X.2.2.2.1.2.1 _ (List.mem_of_getElem? (i := 6) rfl)) dX5_readsText_1 ?_
  obtain ⟨r17, F18, h16, hd⟩ := bs_e hd
  refine cVi_ (rest := []) X (kX5_passes l Dd Y ad F 0 (by decide) r17 F18 h16) (cwV 1 X.1.2.2.2.2 gX5_readsText_X5_passes rfl rfl rfl (by decide +kernel) ⟨Nat.le_of_ble_eq_true rfl, Nat.le_of_ble_eq_true rfl⟩) hW 0 5 rfl rfl rfl rfl hl.1 rfl (Nat.le_of_ble_eq_true rfl) dX5_readsText_3 ⟨Nat.zero_le _, Nat.zero_le _⟩ (fun H locs hW => ?_)
  refine lv_if_ne (tgt := 20) hx hb dX5_readsText_6 (by decide) (fun c19 => ?_) (fun c19 => ?_)
  · replace hd := if_f c19 hd
    refine lv_iconst (v := 0) hx hb dX5_readsText_20 (by decide) ?_
    refine lv_istore_n (lv' := [(1, .int 0), (0, .ref (ad 0))]) hx hb dX5_readsText_21 rfl hl (by decide) rfl (fun ls hl => ?_)
    obtain ⟨z22_19, hz22_19, hd⟩ := bp_e hd
    refine K22 FU 0 F18 z22_19 hz22_19 _ _ _ hW (lv_sub hl [1, 0] rfl) (fun H locs ls e22 hW hl => ?_)
    refine lv_aload_n hx hb dX5_readsText_41 rfl (lv_at hl 0 rfl) ?_
    refine lv_iconst (v := 0) hx hb dX5_readsText_42 (by decide) ?_
    refine lv_iconst (v := 2) hx hb dX5_readsText_43 (by decide) ?_
    obtain ⟨r22, F23, h21, hd⟩ := bs_e hd
    refine cVi_ (rest := []) X (kX5_reads l Dd Y ad z22_19.2 0 2 r22 F23 h21) (cwV 2 X.1.2.2.2.2 gX5_readsText_X5_reads rfl rfl rfl (by decide +kernel) ⟨Nat.le_of_ble_eq_true rfl, Nat.le_of_ble_eq_true rfl⟩) hW 0 5 rfl rfl rfl rfl hl.1 rfl (Nat.le_of_ble_eq_true rfl) dX5_readsText_44 ⟨Nat.zero_le _, Nat.zero_le _⟩ (fun H locs hW => ?_)
    refine lv_if_ne (tgt := 52) hx hb dX5_readsText_47 (by decide) (fun c24 => ?_) (fun c24 => ?_)
    · replace hd := if_f c24 hd
      refine lv_aload_n hx hb dX5_readsText_52 rfl (lv_at hl 0 rfl) ?_
      refine lv_iconst (v := 1) hx hb dX5_readsText_53 (by decide) ?_
      refine lv_aload_n hx hb dX5_readsText_54 rfl (lv_at hl 0 rfl) ?_
      refine g_ X hinX5 hW 0 rfl rfl 12 (by decide) 2 rfl rfl rfl dX5_readsText_55 ?_
      obtain ⟨F26, h25, hd⟩ := bp_e hd
      refine cVv_ (rest := []) X (kX5_put0 l Dd Y ad F23 1 (F23 0 12) F26 h25) (cwV 2 X.1.2.2.2.2 gX5_readsText_X5_put0 rfl rfl rfl (by decide +kernel) ⟨Nat.le_of_ble_eq_true rfl, Nat.le_of_ble_eq_true rfl⟩) hW 0 5 rfl rfl rfl rfl hl.1 rfl (Nat.le_of_ble_eq_true rfl) dX5_readsText_58 ⟨Nat.zero_le _, Nat.zero_le _⟩ (fun H locs hW => ?_)
      refine lv_aload_n hx hb dX5_readsText_61 rfl (lv_at hl 0 rfl) ?_
      refine lv_iconst (v := 1) hx hb dX5_readsText_62 (by decide) ?_
      refine lv_bipush (v := 8) hx hb dX5_readsText_63 (by decide) ?_
      obtain ⟨r28, F29, h27, hd⟩ := bs_e hd
      refine cVi_ (rest := []) X (kX5_reads l Dd Y ad F26 1 8 r28 F29 h27) (cwV 2 X.1.2.2.2.2 gX5_readsText_X5_reads rfl rfl rfl (by decide +kernel) ⟨Nat.le_of_ble_eq_true rfl, Nat.le_of_ble_eq_true rfl⟩) hW 0 5 rfl rfl rfl rfl hl.1 rfl (Nat.le_of_ble_eq_true rfl) dX5_readsText_65 ⟨Nat.zero_le _, Nat.zero_le _⟩ (fun H locs hW => ?_)
      refine lv_if_ne (tgt := 73) hx hb dX5_readsText_68 (by decide) (fun c30 => ?_) (fun c30 => ?_)
      · replace hd := if_f c30 hd
        refine lv_aload_n hx hb dX5_readsText_73 rfl (lv_at hl 0 rfl) ?_
        refine lv_iconst (v := 2) hx hb dX5_readsText_74 (by decide) ?_
        refine lv_aload_n hx hb dX5_readsText_75 rfl (lv_at hl 0 rfl) ?_
        refine g_ X hinX5 hW 0 rfl rfl 12 (by decide) 2 rfl rfl rfl dX5_readsText_76 ?_
        obtain ⟨F32, h31, hd⟩ := bp_e hd
        refine cVv_ (rest := []) X (kX5_put0 l Dd Y ad F29 2 (F29 0 12) F32 h31) (cwV 2 X.1.2.2.2.2 gX5_readsText_X5_put0 rfl rfl rfl (by decide +kernel) ⟨Nat.le_of_ble_eq_true rfl, Nat.le_of_ble_eq_true rfl⟩) hW 0 5 rfl rfl rfl rfl hl.1 rfl (Nat.le_of_ble_eq_true rfl) dX5_readsText_79 ⟨Nat.zero_le _, Nat.zero_le _⟩ (fun H locs hW => ?_)
        refine lv_aload_n hx hb dX5_readsText_82 rfl (lv_at hl 0 rfl) ?_
        refine lv_bipush (v := 58) hx hb dX5_readsText_83 (by decide) ?_
        obtain ⟨r34, F35, h33, hd⟩ := bs_e hd
        refine cVi_ (rest := []) X (kX5_sign l Dd Y ad F32 58 r34 F35 h33) (cwV 1 X.1.2.2.2.2 gX5_readsText_X5_sign rfl rfl rfl (by decide +kernel) ⟨Nat.le_of_ble_eq_true rfl, Nat.le_of_ble_eq_true rfl⟩) hW 0 5 rfl rfl rfl rfl hl.1 rfl (Nat.le_of_ble_eq_true rfl) dX5_readsText_85 ⟨Nat.zero_le _, Nat.zero_le _⟩ (fun H locs hW => ?_)
        refine lv_if_eq (tgt := 107) hx hb dX5_readsText_88 (by decide) (fun c36 => ?_) (fun c36 => ?_)
        · replace hd := if_t c36 hd
          refine lv_iconst (v := 0) hx hb dX5_readsText_107 (by decide) ?_
          obtain ⟨rfl, rfl⟩ := Prod.mk.inj (Option.some.inj hd)
          exact hQ _ _ _ _ (nz_b (Or.inl rfl)) hW dX5_readsText_108
        · replace hd := if_f c36 hd
          refine lv_aload_n hx hb dX5_readsText_91 rfl (lv_at hl 0 rfl) ?_
          obtain ⟨r38, F39, h37, hd⟩ := bs_e hd
          refine cVi_ (rest := []) X (kX5_readsValues l Dd Y ad F35 r38 F39 h37) (cwV 0 X.1.2.2.2.2 gX5_readsText_X5_readsValues rfl rfl rfl (by decide +kernel) ⟨Nat.le_of_ble_eq_true rfl, Nat.le_of_ble_eq_true rfl⟩) hW 0 5 rfl rfl rfl rfl hl.1 rfl (Nat.le_of_ble_eq_true rfl) dX5_readsText_92 ⟨Nat.zero_le _, Nat.zero_le _⟩ (fun H locs hW => ?_)
          refine lv_if_eq (tgt := 107) hx hb dX5_readsText_95 (by decide) (fun c40 => ?_) (fun c40 => ?_)
          · replace hd := if_t c40 hd
            refine lv_iconst (v := 0) hx hb dX5_readsText_107 (by decide) ?_
            obtain ⟨rfl, rfl⟩ := Prod.mk.inj (Option.some.inj hd)
            exact hQ _ _ _ _ (nz_b (Or.inl rfl)) hW dX5_readsText_108
          · replace hd := if_f c40 hd
            refine lv_aload_n hx hb dX5_readsText_98 rfl (lv_at hl 0 rfl) ?_
            refine lv_bipush (v := 59) hx hb dX5_readsText_99 (by decide) ?_
            obtain ⟨r42, F43, h41, hd⟩ := bs_e hd
            refine cVi_ (rest := []) X (kX5_sign l Dd Y ad F39 59 r42 F43 h41) (cwV 1 X.1.2.2.2.2 gX5_readsText_X5_sign rfl rfl rfl (by decide +kernel) ⟨Nat.le_of_ble_eq_true rfl, Nat.le_of_ble_eq_true rfl⟩) hW 0 5 rfl rfl rfl rfl hl.1 rfl (Nat.le_of_ble_eq_true rfl) dX5_readsText_101 ⟨Nat.zero_le _, Nat.zero_le _⟩ (fun H locs hW => ?_)
            refine lv_if_ne (tgt := 109) hx hb dX5_readsText_104 (by decide) (fun c44 => ?_) (fun c44 => ?_)
            · replace hd := if_f c44 hd
              refine lv_aload_n hx hb dX5_readsText_109 rfl (lv_at hl 0 rfl) ?_
              obtain ⟨F46, h45, hd⟩ := bp_e hd
              refine cVv_ (rest := []) X (kX5_builds l Dd Y ad F43 F46 h45) (cwV 0 X.1.2.2.2.2 gX5_readsText_X5_builds rfl rfl rfl (by decide +kernel) ⟨Nat.le_of_ble_eq_true rfl, Nat.le_of_ble_eq_true rfl⟩) hW 0 5 rfl rfl rfl rfl hl.1 rfl (Nat.le_of_ble_eq_true rfl) dX5_readsText_110 ⟨Nat.zero_le _, Nat.zero_le _⟩ (fun H locs hW => ?_)
              obtain ⟨z113_46, hz113_46, hd⟩ := bp_e hd
              refine K113 FU F46 z113_46 hz113_46 _ _ _ hW (lv_sub hl [0] rfl) (fun H locs ls e113 hW hl => ?_) (fun H locs ls e113 hW hl => ?_)
              · replace hd := if_t e113 (hd)
                refine lv_iconst (v := 0) hx hb dX5_readsText_137 (by decide) ?_
                obtain ⟨rfl, rfl⟩ := Prod.mk.inj (Option.some.inj hd)
                exact hQ _ _ _ _ (nz_b (Or.inl rfl)) hW dX5_readsText_138
              · replace hd := if_f (by rw [e113]; decide) hd
                refine lv_iconst (v := 1) hx hb dX5_readsText_139 (by decide) ?_
                obtain ⟨rfl, rfl⟩ := Prod.mk.inj (Option.some.inj hd)
                exact hQ _ _ _ _ (nz_b (Or.inr rfl)) hW dX5_readsText_140
            · replace hd := if_t c44 hd
              refine lv_iconst (v := 0) hx hb dX5_readsText_107 (by decide) ?_
              obtain ⟨rfl, rfl⟩ := Prod.mk.inj (Option.some.inj hd)
              exact hQ _ _ _ _ (nz_b (Or.inl rfl)) hW dX5_readsText_108
      · replace hd := if_t c30 hd
        refine lv_iconst (v := 0) hx hb dX5_readsText_71 (by decide) ?_
        obtain ⟨rfl, rfl⟩ := Prod.mk.inj (Option.some.inj hd)
        exact hQ _ _ _ _ (nz_b (Or.inl rfl)) hW dX5_readsText_72
    · replace hd := if_t c24 hd
      refine lv_iconst (v := 0) hx hb dX5_readsText_50 (by decide) ?_
      obtain ⟨rfl, rfl⟩ := Prod.mk.inj (Option.some.inj hd)
      exact hQ _ _ _ _ (nz_b (Or.inl rfl)) hW dX5_readsText_51
  · replace hd := if_t c19 hd
    refine lv_aload_n hx hb dX5_readsText_9 rfl (lv_at hl 0 rfl) ?_
    refine lv_bipush (v := (-2)) hx hb dX5_readsText_10 (by decide) ?_
    refine lv_aload_n hx hb dX5_readsText_12 rfl (lv_at hl 0 rfl) ?_
    refine g_ X hinX5 hW 0 rfl rfl 9 (by decide) 1 rfl rfl rfl dX5_readsText_13 ?_
    obtain ⟨r49, F50, h48, hd⟩ := bs_e hd
    refine cVi_ (rest := []) X (kX5_fails l Dd Y ad F18 (-2) (F18 0 9) r49 F50 h48) (cwV 2 X.1.2.2.2.2 gX5_readsText_X5_fails rfl rfl rfl (by decide +kernel) ⟨Nat.le_of_ble_eq_true rfl, Nat.le_of_ble_eq_true rfl⟩) hW 0 5 rfl rfl rfl rfl hl.1 rfl (Nat.le_of_ble_eq_true rfl) dX5_readsText_16 ⟨Nat.zero_le _, Nat.zero_le _⟩ (fun H locs hW => ?_)
    obtain ⟨hz51, hd⟩ := rzs_e hd
    obtain ⟨rfl, rfl⟩ := Prod.mk.inj hd
    exact hQ _ _ _ _ (nz_b hz51) hW dX5_readsText_19
abbrev rmX5_load : Room := { frames := 9, cells := 0, slots := 0, locals := 199 }
set_option maxRecDepth 100000 in
set_option maxHeartbeats 4000000 in
theorem kX5_load (l : Launch) (Dd : va_G) (Y : yT) (ad : Nat → Nat) (F : gF) (x1 : Int32) (r : Int32) (F' : gF) (hd : dnX5_load F x1 = some (r, F')) : MG l yX5_load wsX5_load rmX5_load Dd Y [.ref (ad 0), .int x1] (WM Y ad F) (WM Y ad F') (some (.int r)) := by
  refine MGi (cc := cX5_load) (maxL := 5) (ty := .int) (by decide) rfl (Nat.le_of_ble_eq_true rfl) (fun {p e s m args below meth c A} ls Q X hW hl hQ => ?_)
  have hx := X.x
  have hb := X.b
  have hl : lv_has ls 5 [(0, .ref (ad 0)), (1, .int x1)] := hl
  have hinX5 : ∀ w ∈ wsX50, w ∈ wsX5_load := fun w h => List.mem_cons_of_mem _ (List.mem_append_right _ h)
  unfold dnX5_load at hd
  have K51 : ∀ (n : Nat) (x2 : Int32) (F : gF) (z : Nat × gF), lpX5_load_51 n x2 F = some z → ∀ (H : Heap) (locs : List Loc) (ls : Array Slot), Wd Dd A s.heap (WM Y ad F) H locs → lv_has ls 5 [(0, .ref (ad 0)), (2, .int x2)] → (∀ (H : Heap) (locs : List Loc) (ls : Array Slot), z.1 = 0 → Wd Dd A s.heap (WM Y ad z.2) H locs → lv_has ls 5 [(0, .ref (ad 0))] → W p l e rmX5_load s m args below meth c H locs 0 0 Q (F0 m 75 ls [])) → W p l e rmX5_load s m args below meth c H locs 0 0 Q (F0 m 51 ls []) := by
    intro n
    induction n with
    | zero => intro x2 F z hd; cases hd
    | succ n ih =>
      intro x2 F z hd H locs ls hW hl kx0
      unfold lpX5_load_51 at hd
      refine lv_iload_n hx hb dX5_load_51 rfl (lv_at hl 1 rfl) ?_
      refine lv_sipush (v := 310) hx hb dX5_load_52 (by decide) ?_
      refine lv_icmp_ge (tgt := 75) hx hb dX5_load_55 (by decide) (fun c1 => ?_) (fun c1 => ?_)
      · replace hd := if_t c1 hd
        cases hd
        exact kx0 _ _ _ rfl hW (lv_sub hl [0] rfl)
      · replace hd := if_f c1 hd
        refine lv_aload_n hx hb dX5_load_58 rfl (lv_at hl 0 rfl) ?_
        refine g_ X hinX5 hW 0 rfl rfl 2 (by decide) 7 rfl rfl rfl dX5_load_59 ?_
        refine lv_iload_n hx hb dX5_load_62 rfl (lv_at hl 1 rfl) ?_
        refine lv_aload_n hx hb dX5_load_63 rfl (lv_at hl 0 rfl) ?_
        refine lv_iload_n hx hb dX5_load_64 rfl (lv_at hl 1 rfl) ?_
        obtain ⟨r3, h2, hd⟩ := bp_e hd
        refine cVi_ (rest := [.int x2, .ref (ad 2)]) X (kX5_get l Dd Y ad F x2 r3 h2) (cwV 1 X.1.2.2.2.2 gX5_load_X5_get rfl rfl rfl (by decide +kernel) ⟨Nat.le_of_ble_eq_true rfl, Nat.le_of_ble_eq_true rfl⟩) hW 0 5 rfl rfl rfl rfl hl.1 rfl (Nat.le_of_ble_eq_true rfl) dX5_load_65 ⟨Nat.zero_le _, Nat.zero_le _⟩ (fun H locs hW => ?_)
        obtain ⟨hi4, hd⟩ := wi_e hd
        obtain ⟨F5, eF5, hd⟩ := bw_e hd
        refine s_ X hW 2 rfl rfl hi4 dX5_load_68 (ws' := (WM Y ad F5)) (by rw [eF5]; rfl) (fun H locs hW => ?_)
        refine lv_iinc (v := x2 + 1) (lv' := [(2, .int (x2 + 1)), (0, .ref (ad 0))]) hx hb dX5_load_69 hl (k := 1) rfl rfl (by decide) rfl (fun ls hl => ?_)
        refine lv_goto (tgt := 51) hx hb dX5_load_72 (by decide) ?_
        exact ih (x2 + 1) F5 z hd _ _ _ hW (lv_sub hl [1, 0] rfl) kx0
  have K93 : ∀ (x2 : Int32) (x3 : Int32) (n : Nat) (x4 : Int32) (F : gF) (z : Nat × gF), lpX5_load_93 x2 x3 n x4 F = some z → ∀ (H : Heap) (locs : List Loc) (ls : Array Slot), Wd Dd A s.heap (WM Y ad F) H locs → lv_has ls 5 [(0, .ref (ad 0)), (2, .int x2), (3, .int x3), (4, .int x4)] → (∀ (H : Heap) (locs : List Loc) (ls : Array Slot), z.1 = 0 → Wd Dd A s.heap (WM Y ad z.2) H locs → lv_has ls 5 [(0, .ref (ad 0)), (2, .int x2), (3, .int x3)] → W p l e rmX5_load s m args below meth c H locs 0 0 Q (F0 m 143 ls [])) → W p l e rmX5_load s m args below meth c H locs 0 0 Q (F0 m 93 ls []) := by
    intro x2 x3 n
    induction n with
    | zero => intro x4 F z hd; cases hd
    | succ n ih =>
      intro x4 F z hd H locs ls hW hl kx0
      unfold lpX5_load_93 at hd
      refine lv_iload hx hb dX5_load_93 (lv_at hl 3 rfl) ?_
      refine lv_sipush (v := 310) hx hb dX5_load_95 (by decide) ?_
      refine lv_icmp_ge (tgt := 143) hx hb dX5_load_98 (by decide) (fun c7 => ?_) (fun c7 => ?_)
      · replace hd := if_t c7 hd
        cases hd
        exact kx0 _ _ _ rfl hW (lv_sub hl [0, 1, 2] rfl)
      · replace hd := if_f c7 hd
        refine lv_iload_n hx hb dX5_load_101 rfl (lv_at hl 1 rfl) ?_
        refine lv_if_eq (tgt := 124) hx hb dX5_load_102 (by decide) (fun c8 => ?_) (fun c8 => ?_)
        · replace hd := if_t c8 hd
          refine lv_aload_n hx hb dX5_load_124 rfl (lv_at hl 0 rfl) ?_
          refine lv_iload hx hb dX5_load_125 (lv_at hl 3 rfl) ?_
          refine lv_aload_n hx hb dX5_load_127 rfl (lv_at hl 0 rfl) ?_
          refine g_ X hinX5 hW 0 rfl rfl 2 (by decide) 7 rfl rfl rfl dX5_load_128 ?_
          refine lv_iload hx hb dX5_load_131 (lv_at hl 3 rfl) ?_
          obtain ⟨hi9, hd⟩ := ra_e hd
          refine a_ X hW 2 rfl rfl hi9 dX5_load_133 ?_
          generalize (F 2) x4.toNatClampNeg = v10 at hd ⊢
          obtain ⟨F12, h11, hd⟩ := bp_e hd
          refine cVv_ (rest := []) X (kX5_put0 l Dd Y ad F x4 v10 F12 h11) (cwV 2 X.1.2.2.2.2 gX5_load_X5_put0 rfl rfl rfl (by decide +kernel) ⟨Nat.le_of_ble_eq_true rfl, Nat.le_of_ble_eq_true rfl⟩) hW 0 5 rfl rfl rfl rfl hl.1 rfl (Nat.le_of_ble_eq_true rfl) dX5_load_134 ⟨Nat.zero_le _, Nat.zero_le _⟩ (fun H locs hW => ?_)
          refine lv_iinc (v := x4 + 1) (lv' := [(4, .int (x4 + 1)), (0, .ref (ad 0)), (2, .int x2), (3, .int x3)]) hx hb dX5_load_137 hl (k := 3) rfl rfl (by decide) rfl (fun ls hl => ?_)
          refine lv_goto (tgt := 93) hx hb dX5_load_140 (by decide) ?_
          exact ih (x4 + 1) F12 z hd _ _ _ hW (lv_sub hl [1, 2, 3, 0] rfl) kx0
        · replace hd := if_f c8 hd
          refine lv_aload_n hx hb dX5_load_105 rfl (lv_at hl 0 rfl) ?_
          refine g_ X hinX5 hW 0 rfl rfl 1 (by decide) 9 rfl rfl rfl dX5_load_106 ?_
          refine lv_sipush (v := 310) hx hb dX5_load_109 (by decide) ?_
          refine lv_iload_n hx hb dX5_load_112 rfl (lv_at hl 2 rfl) ?_
          refine lv_imul hx hb dX5_load_113 ?_
          refine lv_iload hx hb dX5_load_114 (lv_at hl 3 rfl) ?_
          refine lv_iadd hx hb dX5_load_116 ?_
          refine lv_aload_n hx hb dX5_load_117 rfl (lv_at hl 0 rfl) ?_
          refine lv_iload hx hb dX5_load_118 (lv_at hl 3 rfl) ?_
          obtain ⟨r14, h13, hd⟩ := bp_e hd
          refine cVi_ (rest := [.int ((310 * x3) + x4), .ref (ad 1)]) X (kX5_get l Dd Y ad F x4 r14 h13) (cwV 1 X.1.2.2.2.2 gX5_load_X5_get rfl rfl rfl (by decide +kernel) ⟨Nat.le_of_ble_eq_true rfl, Nat.le_of_ble_eq_true rfl⟩) hW 0 5 rfl rfl rfl rfl hl.1 rfl (Nat.le_of_ble_eq_true rfl) dX5_load_120 ⟨Nat.zero_le _, Nat.zero_le _⟩ (fun H locs hW => ?_)
          obtain ⟨hi15, hd⟩ := wi_e hd
          obtain ⟨F16, eF16, hd⟩ := bw_e hd
          refine s_ X hW 1 rfl rfl hi15 dX5_load_123 (ws' := (WM Y ad F16)) (by rw [eF16]; rfl) (fun H locs hW => ?_)
          refine lv_aload_n hx hb dX5_load_124 rfl (lv_at hl 0 rfl) ?_
          refine lv_iload hx hb dX5_load_125 (lv_at hl 3 rfl) ?_
          refine lv_aload_n hx hb dX5_load_127 rfl (lv_at hl 0 rfl) ?_
          refine g_ X hinX5 hW 0 rfl rfl 2 (by decide) 7 rfl rfl rfl dX5_load_128 ?_
          refine lv_iload hx hb dX5_load_131 (lv_at hl 3 rfl) ?_
          obtain ⟨hi18, hd⟩ := ra_e hd
          refine a_ X hW 2 rfl rfl hi18 dX5_load_133 ?_
          generalize (F16 2) x4.toNatClampNeg = v19 at hd ⊢
          obtain ⟨F21, h20, hd⟩ := bp_e hd
          refine cVv_ (rest := []) X (kX5_put0 l Dd Y ad F16 x4 v19 F21 h20) (cwV 2 X.1.2.2.2.2 gX5_load_X5_put0 rfl rfl rfl (by decide +kernel) ⟨Nat.le_of_ble_eq_true rfl, Nat.le_of_ble_eq_true rfl⟩) hW 0 5 rfl rfl rfl rfl hl.1 rfl (Nat.le_of_ble_eq_true rfl) dX5_load_134 ⟨Nat.zero_le _, Nat.zero_le _⟩ (fun H locs hW => ?_)
          refine lv_iinc (v := x4 + 1) (lv' := [(4, .int (x4 + 1)), (0, .ref (ad 0)), (2, .int x2), (3, .int x3)]) hx hb dX5_load_137 hl (k := 3) rfl rfl (by decide) rfl (fun ls hl => ?_)
          refine lv_goto (tgt := 93) hx hb dX5_load_140 (by decide) ?_
          exact ih (x4 + 1) F21 z hd _ _ _ hW (lv_sub hl [1, 2, 3, 0] rfl) kx0
  refine lv_aload_n hx hb dX5_load_0 rfl (lv_at hl 0 rfl) ?_
  refine lv_iconst (v := 0) hx hb dX5_load_1 (by decide) ?_
  obtain ⟨F22, eF22, hd⟩ := bw_e hd
  refine p_ (ty := .int) X hinX5 tyX5 tyX5_ok nmX5 hW 0 rfl rfl 0 (by decide) 1 rfl rfl rfl (by decide +kernel) rfl rfl (Nat.le_of_ble_eq_true rfl) dX5_load_2 (ws' := (WM Y ad F22)) (by rw [eF22]; rfl) (fun H locs hW => ?_)
  refine lv_aload_n hx hb dX5_load_5 rfl (lv_at hl 0 rfl) ?_
  refine lv_iload_n hx hb dX5_load_6 rfl (lv_at hl 1 rfl) ?_
  refine lv_iconst (v := 0) hx hb dX5_load_7 (by decide) ?_
  refine lv_aload_n hx hb dX5_load_8 rfl (lv_at hl 0 rfl) ?_
  refine g_ X hinX5 hW 0 rfl rfl 7 (by decide) 2 rfl rfl rfl dX5_load_9 ?_
  obtain ⟨r24, h23, hd⟩ := bp_e hd
  refine cSi_ (rest := [.ref (ad 0)]) X (kX5_isIn l Dd Y x1 0 (F22 0 7) r24 h23) (va_cwS 3 X.1.2.2.2.2 gX5_load_X5_isIn rfl rfl rfl (by decide +kernel) ⟨Nat.le_of_ble_eq_true rfl, Nat.le_of_ble_eq_true rfl⟩) hW rfl hl.1 rfl (Nat.le_of_ble_eq_true rfl) dX5_load_12 ⟨Nat.zero_le _, Nat.zero_le _⟩ (fun H locs hW => ?_)
  refine lv_iconst (v := 1) hx hb dX5_load_15 (by decide) ?_
  obtain ⟨r26, F27, h25, hd⟩ := bs_e hd
  refine cVi_ (rest := []) X (kX5_right l Dd Y ad F22 r24 1 r26 F27 h25) (cwV 2 X.1.2.2.2.2 gX5_load_X5_right rfl rfl rfl (by decide +kernel) ⟨Nat.le_of_ble_eq_true rfl, Nat.le_of_ble_eq_true rfl⟩) hW 0 5 rfl rfl rfl rfl hl.1 rfl (Nat.le_of_ble_eq_true rfl) dX5_load_16 ⟨Nat.zero_le _, Nat.zero_le _⟩ (fun H locs hW => ?_)
  refine lv_if_ne (tgt := 24) hx hb dX5_load_19 (by decide) (fun c28 => ?_) (fun c28 => ?_)
  · replace hd := if_f c28 hd
    refine lv_aload_n hx hb dX5_load_24 rfl (lv_at hl 0 rfl) ?_
    refine lv_iload_n hx hb dX5_load_25 rfl (lv_at hl 1 rfl) ?_
    obtain ⟨F29, eF29, hd⟩ := bw_e hd
    refine p_ (ty := .int) X hinX5 tyX5 tyX5_ok nmX5 hW 0 rfl rfl 8 (by decide) 3 rfl rfl rfl (by decide +kernel) rfl rfl (Nat.le_of_ble_eq_true rfl) dX5_load_26 (ws' := (WM Y ad F29)) (by rw [eF29]; rfl) (fun H locs hW => ?_)
    refine lv_aload_n hx hb dX5_load_29 rfl (lv_at hl 0 rfl) ?_
    refine lv_iconst (v := 0) hx hb dX5_load_30 (by decide) ?_
    obtain ⟨F30, eF30, hd⟩ := bw_e hd
    refine p_ (ty := .int) X hinX5 tyX5 tyX5_ok nmX5 hW 0 rfl rfl 9 (by decide) 4 rfl rfl rfl (by decide +kernel) rfl rfl (Nat.le_of_ble_eq_true rfl) dX5_load_31 (ws' := (WM Y ad F30)) (by rw [eF30]; rfl) (fun H locs hW => ?_)
    refine lv_aload_n hx hb dX5_load_34 rfl (lv_at hl 0 rfl) ?_
    refine lv_iconst (v := 0) hx hb dX5_load_35 (by decide) ?_
    obtain ⟨F31, eF31, hd⟩ := bw_e hd
    refine p_ (ty := .int) X hinX5 tyX5 tyX5_ok nmX5 hW 0 rfl rfl 7 (by decide) 2 rfl rfl rfl (by decide +kernel) rfl rfl (Nat.le_of_ble_eq_true rfl) dX5_load_36 (ws' := (WM Y ad F31)) (by rw [eF31]; rfl) (fun H locs hW => ?_)
    refine lv_aload_n hx hb dX5_load_39 rfl (lv_at hl 0 rfl) ?_
    refine lv_iconst (v := 0) hx hb dX5_load_40 (by decide) ?_
    obtain ⟨F32, eF32, hd⟩ := bw_e hd
    refine p_ (ty := .int) X hinX5 tyX5 tyX5_ok nmX5 hW 0 rfl rfl 10 (by decide) 5 rfl rfl rfl (by decide +kernel) rfl rfl (Nat.le_of_ble_eq_true rfl) dX5_load_41 (ws' := (WM Y ad F32)) (by rw [eF32]; rfl) (fun H locs hW => ?_)
    refine lv_aload_n hx hb dX5_load_44 rfl (lv_at hl 0 rfl) ?_
    refine lv_iconst (v := (-1)) hx hb dX5_load_45 (by decide) ?_
    obtain ⟨F33, eF33, hd⟩ := bw_e hd
    refine p_ (ty := .int) X hinX5 tyX5 tyX5_ok nmX5 hW 0 rfl rfl 11 (by decide) 6 rfl rfl rfl (by decide +kernel) rfl rfl (Nat.le_of_ble_eq_true rfl) dX5_load_46 (ws' := (WM Y ad F33)) (by rw [eF33]; rfl) (fun H locs hW => ?_)
    refine lv_iconst (v := 0) hx hb dX5_load_49 (by decide) ?_
    refine lv_istore_n (lv' := [(2, .int 0), (0, .ref (ad 0)), (1, .int x1)]) hx hb dX5_load_50 rfl hl (by decide) rfl (fun ls hl => ?_)
    obtain ⟨z51_33, hz51_33, hd⟩ := bp_e hd
    refine K51 FU 0 F33 z51_33 hz51_33 _ _ _ hW (lv_sub hl [1, 0] rfl) (fun H locs ls e51 hW hl => ?_)
    refine lv_aload_n hx hb dX5_load_75 rfl (lv_at hl 0 rfl) ?_
    obtain ⟨r36, F37, h35, hd⟩ := bs_e hd
    refine cVi_ (rest := []) X (kX5_readsText l Dd Y ad z51_33.2 r36 F37 h35) (cwV 0 X.1.2.2.2.2 gX5_load_X5_readsText rfl rfl rfl (by decide +kernel) ⟨Nat.le_of_ble_eq_true rfl, Nat.le_of_ble_eq_true rfl⟩) hW 0 5 rfl rfl rfl rfl hl.1 rfl (Nat.le_of_ble_eq_true rfl) dX5_load_76 ⟨Nat.zero_le _, Nat.zero_le _⟩ (fun H locs hW => ?_)
    refine lv_istore_n (lv' := [(2, .int r36), (0, .ref (ad 0))]) hx hb dX5_load_79 rfl hl (by decide) rfl (fun ls hl => ?_)
    refine lv_aload_n hx hb dX5_load_80 rfl (lv_at hl 1 rfl) ?_
    refine g_ X hinX5 hW 0 rfl rfl 4 (by decide) 8 rfl rfl rfl dX5_load_81 ?_
    refine lv_iconst (v := 1) hx hb dX5_load_84 (by decide) ?_
    refine lv_iadd hx hb dX5_load_85 ?_
    refine lv_bipush (v := 9) hx hb dX5_load_86 (by decide) ?_
    refine lv_irem hx hb dX5_load_88 (by decide) ?_
    refine lv_istore_n (lv' := [(3, .int (((F37 0 4) + 1) - ((F37 0 4) + 1) / 9 * 9)), (2, .int r36), (0, .ref (ad 0))]) hx hb dX5_load_89 rfl hl (by decide) rfl (fun ls hl => ?_)
    refine lv_iconst (v := 0) hx hb dX5_load_90 (by decide) ?_
    refine lv_istore (lv' := [(4, .int 0), (3, .int (((F37 0 4) + 1) - ((F37 0 4) + 1) / 9 * 9)), (2, .int r36), (0, .ref (ad 0))]) hx hb dX5_load_91 hl (by decide) rfl (fun ls hl => ?_)
    obtain ⟨z93_37, hz93_37, hd⟩ := bp_e hd
    refine K93 r36 (((F37 0 4) + 1) - ((F37 0 4) + 1) / 9 * 9) FU 0 F37 z93_37 hz93_37 _ _ _ hW (lv_sub hl [3, 2, 1, 0] rfl) (fun H locs ls e93 hW hl => ?_)
    refine lv_iload_n hx hb dX5_load_143 rfl (lv_at hl 1 rfl) ?_
    refine lv_if_ne (tgt := 152) hx hb dX5_load_144 (by decide) (fun c39 => ?_) (fun c39 => ?_)
    · replace hd := if_f c39 hd
      refine lv_aload_n hx hb dX5_load_152 rfl (lv_at hl 0 rfl) ?_
      refine lv_iload_n hx hb dX5_load_153 rfl (lv_at hl 2 rfl) ?_
      obtain ⟨F40, eF40, hd⟩ := bw_e hd
      refine p_ (ty := .int) X hinX5 tyX5 tyX5_ok nmX5 hW 0 rfl rfl 4 (by decide) 8 rfl rfl rfl (by decide +kernel) rfl rfl (Nat.le_of_ble_eq_true rfl) dX5_load_154 (ws' := (WM Y ad F40)) (by rw [eF40]; rfl) (fun H locs hW => ?_)
      refine lv_aload_n hx hb dX5_load_157 rfl (lv_at hl 0 rfl) ?_
      refine lv_aload_n hx hb dX5_load_158 rfl (lv_at hl 0 rfl) ?_
      refine g_ X hinX5 hW 0 rfl rfl 5 (by decide) 10 rfl rfl rfl dX5_load_159 ?_
      refine lv_bipush (v := 8) hx hb dX5_load_162 (by decide) ?_
      refine lv_icmp_ge (tgt := 176) hx hb dX5_load_164 (by decide) (fun c41 => ?_) (fun c41 => ?_)
      · replace hd := if_t c41 hd
        refine lv_aload_n hx hb dX5_load_176 rfl (lv_at hl 0 rfl) ?_
        refine g_ X hinX5 hW 0 rfl rfl 5 (by decide) 10 rfl rfl rfl dX5_load_177 ?_
        obtain ⟨F42, eF42, hd⟩ := bw_e hd
        refine p_ (ty := .int) X hinX5 tyX5 tyX5_ok nmX5 hW 0 rfl rfl 5 (by decide) 10 rfl rfl rfl (by decide +kernel) rfl rfl (Nat.le_of_ble_eq_true rfl) dX5_load_180 (ws' := (WM Y ad F42)) (by rw [eF42]; rfl) (fun H locs hW => ?_)
        refine lv_aload_n hx hb dX5_load_183 rfl (lv_at hl 0 rfl) ?_
        obtain ⟨r44, h43, hd⟩ := bp_e hd
        refine cVi_ (rest := []) X (kX5_size l Dd Y ad F42 r44 h43) (cwV 0 X.1.2.2.2.2 gX5_load_X5_size rfl rfl rfl (by decide +kernel) ⟨Nat.le_of_ble_eq_true rfl, Nat.le_of_ble_eq_true rfl⟩) hW 0 5 rfl rfl rfl rfl hl.1 rfl (Nat.le_of_ble_eq_true rfl) dX5_load_184 ⟨Nat.zero_le _, Nat.zero_le _⟩ (fun H locs hW => ?_)
        obtain ⟨rfl, rfl⟩ := Prod.mk.inj (Option.some.inj hd)
        exact hQ _ _ _ _ rfl hW dX5_load_187
      · replace hd := if_f c41 hd
        refine lv_aload_n hx hb dX5_load_167 rfl (lv_at hl 0 rfl) ?_
        refine g_ X hinX5 hW 0 rfl rfl 5 (by decide) 10 rfl rfl rfl dX5_load_168 ?_
        refine lv_iconst (v := 1) hx hb dX5_load_171 (by decide) ?_
        refine lv_iadd hx hb dX5_load_172 ?_
        refine lv_goto (tgt := 180) hx hb dX5_load_173 (by decide) ?_
        obtain ⟨F45, eF45, hd⟩ := bw_e hd
        refine p_ (ty := .int) X hinX5 tyX5 tyX5_ok nmX5 hW 0 rfl rfl 5 (by decide) 10 rfl rfl rfl (by decide +kernel) rfl rfl (Nat.le_of_ble_eq_true rfl) dX5_load_180 (ws' := (WM Y ad F45)) (by rw [eF45]; rfl) (fun H locs hW => ?_)
        refine lv_aload_n hx hb dX5_load_183 rfl (lv_at hl 0 rfl) ?_
        obtain ⟨r47, h46, hd⟩ := bp_e hd
        refine cVi_ (rest := []) X (kX5_size l Dd Y ad F45 r47 h46) (cwV 0 X.1.2.2.2.2 gX5_load_X5_size rfl rfl rfl (by decide +kernel) ⟨Nat.le_of_ble_eq_true rfl, Nat.le_of_ble_eq_true rfl⟩) hW 0 5 rfl rfl rfl rfl hl.1 rfl (Nat.le_of_ble_eq_true rfl) dX5_load_184 ⟨Nat.zero_le _, Nat.zero_le _⟩ (fun H locs hW => ?_)
        obtain ⟨rfl, rfl⟩ := Prod.mk.inj (Option.some.inj hd)
        exact hQ _ _ _ _ rfl hW dX5_load_187
    · replace hd := if_t c39 hd
      refine lv_aload_n hx hb dX5_load_147 rfl (lv_at hl 0 rfl) ?_
      refine g_ X hinX5 hW 0 rfl rfl 10 (by decide) 5 rfl rfl rfl dX5_load_148 ?_
      obtain ⟨rfl, rfl⟩ := Prod.mk.inj (Option.some.inj hd)
      exact hQ _ _ _ _ rfl hW dX5_load_151
  · replace hd := if_t c28 hd
    refine lv_iconst (v := 0) hx hb dX5_load_22 (by decide) ?_
    obtain ⟨rfl, rfl⟩ := Prod.mk.inj (Option.some.inj hd)
    exact hQ _ _ _ _ rfl hW dX5_load_23
abbrev rmX5_levels : Room := { frames := 3, cells := 0, slots := 0, locals := 62 }
set_option maxRecDepth 100000 in
set_option maxHeartbeats 4000000 in
theorem kX5_levels (l : Launch) (Dd : va_G) (Y : yT) (ad : Nat → Nat) (F : gF) (r : Int32) (hd : dnX5_levels F = some r) : MG l yX5_levels wsX5_levels rmX5_levels Dd Y [.ref (ad 0)] (WM Y ad F) (WM Y ad F) (some (.int r)) := by
  refine MGi (cc := cX5_levels) (maxL := 2) (ty := .int) (by decide) rfl (Nat.le_of_ble_eq_true rfl) (fun {p e s m args below meth c A} ls Q X hW hl hQ => ?_)
  have hx := X.x
  have hb := X.b
  have hl : lv_has ls 2 [(0, .ref (ad 0))] := hl
  unfold dnX5_levels at hd
  have K2 : ∀ (F : gF) (n : Nat) (x1 : Int32) (z : Nat × Int32), lpX5_levels_2 F n x1 = some z → ∀ (H : Heap) (locs : List Loc) (ls : Array Slot), Wd Dd A s.heap (WM Y ad F) H locs → lv_has ls 2 [(0, .ref (ad 0)), (1, .int x1)] → (∀ (H : Heap) (locs : List Loc) (ls : Array Slot), z.1 = 0 → Wd Dd A s.heap (WM Y ad F) H locs → lv_has ls 2 [(1, .int z.2)] → W p l e rmX5_levels s m args below meth c H locs 0 0 Q (F0 m 21 ls [])) → W p l e rmX5_levels s m args below meth c H locs 0 0 Q (F0 m 2 ls []) := by
    intro F n
    induction n with
    | zero => intro x1 z hd; cases hd
    | succ n ih =>
      intro x1 z hd H locs ls hW hl kx0
      unfold lpX5_levels_2 at hd
      refine lv_iload_n hx hb dX5_levels_2 rfl (lv_at hl 1 rfl) ?_
      refine lv_iconst (v := 5) hx hb dX5_levels_3 (by decide) ?_
      refine lv_icmp_gt (tgt := 21) hx hb dX5_levels_4 (by decide) (fun c1 => ?_) (fun c1 => ?_)
      · replace hd := if_t c1 hd
        cases hd
        exact kx0 _ _ _ rfl hW (lv_sub hl [1] rfl)
      · replace hd := if_f c1 hd
        refine lv_aload_n hx hb dX5_levels_7 rfl (lv_at hl 0 rfl) ?_
        refine lv_iload_n hx hb dX5_levels_8 rfl (lv_at hl 1 rfl) ?_
        obtain ⟨r3, h2, hd⟩ := bp_e hd
        refine cVi_ (rest := []) X (kX5_cellsOn l Dd Y ad F x1 r3 h2) (cwV 1 X.1.2.2.2.2 gX5_levels_X5_cellsOn rfl rfl rfl (by decide +kernel) ⟨Nat.le_of_ble_eq_true rfl, Nat.le_of_ble_eq_true rfl⟩) hW 0 5 rfl rfl rfl rfl hl.1 rfl (Nat.le_of_ble_eq_true rfl) dX5_levels_9 ⟨Nat.zero_le _, Nat.zero_le _⟩ (fun H locs hW => ?_)
        refine lv_if_le (tgt := 21) hx hb dX5_levels_12 (by decide) (fun c4 => ?_) (fun c4 => ?_)
        · replace hd := if_t c4 hd
          cases hd
          exact kx0 _ _ _ rfl hW (lv_sub hl [1] rfl)
        · replace hd := if_f c4 hd
          refine lv_iinc (v := x1 + 1) (lv' := [(1, .int (x1 + 1)), (0, .ref (ad 0))]) hx hb dX5_levels_15 hl (k := 1) rfl rfl (by decide) rfl (fun ls hl => ?_)
          refine lv_goto (tgt := 2) hx hb dX5_levels_18 (by decide) ?_
          exact ih (x1 + 1) z hd _ _ _ hW (lv_sub hl [1, 0] rfl) kx0
  refine lv_iconst (v := 1) hx hb dX5_levels_0 (by decide) ?_
  refine lv_istore_n (lv' := [(1, .int 1), (0, .ref (ad 0))]) hx hb dX5_levels_1 rfl hl (by decide) rfl (fun ls hl => ?_)
  obtain ⟨z2_4, hz2_4, hd⟩ := bp_e hd
  refine K2 F FU 1 z2_4 hz2_4 _ _ _ hW (lv_sub hl [1, 0] rfl) (fun H locs ls e2 hW hl => ?_)
  refine lv_iload_n hx hb dX5_levels_21 rfl (lv_at hl 0 rfl) ?_
  have hd := Option.some.inj hd
  subst hd
  exact hQ _ _ _ _ rfl hW dX5_levels_22
abbrev rmX5_toldOf : Room := { frames := 4, cells := 0, slots := 0, locals := 84 }
set_option maxRecDepth 100000 in
set_option maxHeartbeats 4000000 in
theorem kX5_toldOf (l : Launch) (Dd : va_G) (Y : yT) (ad : Nat → Nat) (F : gF) (x1 : Int32) (r : Int32) (hd : dnX5_toldOf F x1 = some r) : MG l yX5_toldOf wsX5_toldOf rmX5_toldOf Dd Y [.ref (ad 0), .int x1] (WM Y ad F) (WM Y ad F) (some (.int r)) := by
  refine MGi (cc := cX5_toldOf) (maxL := 2) (ty := .int) (by decide) rfl (Nat.le_of_ble_eq_true rfl) (fun {p e s m args below meth c A} ls Q X hW hl hQ => ?_)
  have hx := X.x
  have hb := X.b
  have hl : lv_has ls 2 [(0, .ref (ad 0)), (1, .int x1)] := hl
  unfold dnX5_toldOf at hd
  refine lv_iload_n hx hb dX5_toldOf_0 rfl (lv_at hl 1 rfl) ?_
  by_cases t1 : x1 = 3
  · replace hd := if_t t1 hd
    refine lv_tableIn (off := 27) (tgt := 28) hx hb dX5_toldOf_1 (by rw [t1]; decide) (by rw [t1]; decide) (by rw [t1]; rfl) (by decide) ?_
    refine lv_aload_n hx hb dX5_toldOf_28 rfl (lv_at hl 0 rfl) ?_
    obtain ⟨r3, h2, hd⟩ := bp_e hd
    refine cVi_ (rest := []) X (kX5_levels l Dd Y ad F r3 h2) (cwV 0 X.1.2.2.2.2 gX5_toldOf_X5_levels rfl rfl rfl (by decide +kernel) ⟨Nat.le_of_ble_eq_true rfl, Nat.le_of_ble_eq_true rfl⟩) hW 0 5 rfl rfl rfl rfl hl.1 rfl (Nat.le_of_ble_eq_true rfl) dX5_toldOf_29 ⟨Nat.zero_le _, Nat.zero_le _⟩ (fun H locs hW => ?_)
    have hd := Option.some.inj hd
    subst hd
    exact hQ _ _ _ _ rfl hW dX5_toldOf_32
  replace hd := if_f t1 hd
  have ot1 : ¬ x1.toInt = 3 := fun h => t1 (Int32.toInt_inj.mp (h.trans (by decide)))
  by_cases t4 : x1 = 4
  · replace hd := if_t t4 hd
    refine lv_tableIn (off := 32) (tgt := 33) hx hb dX5_toldOf_1 (by rw [t4]; decide) (by rw [t4]; decide) (by rw [t4]; rfl) (by decide) ?_
    refine lv_aload_n hx hb dX5_toldOf_33 rfl (lv_at hl 0 rfl) ?_
    obtain ⟨r6, h5, hd⟩ := bp_e hd
    refine cVi_ (rest := []) X (kX5_allCells l Dd Y ad F r6 h5) (cwV 0 X.1.2.2.2.2 gX5_toldOf_X5_allCells rfl rfl rfl (by decide +kernel) ⟨Nat.le_of_ble_eq_true rfl, Nat.le_of_ble_eq_true rfl⟩) hW 0 5 rfl rfl rfl rfl hl.1 rfl (Nat.le_of_ble_eq_true rfl) dX5_toldOf_34 ⟨Nat.zero_le _, Nat.zero_le _⟩ (fun H locs hW => ?_)
    have hd := Option.some.inj hd
    subst hd
    exact hQ _ _ _ _ rfl hW dX5_toldOf_37
  replace hd := if_f t4 hd
  have ot4 : ¬ x1.toInt = 4 := fun h => t4 (Int32.toInt_inj.mp (h.trans (by decide)))
  by_cases t7 : x1 = 5
  · replace hd := if_t t7 hd
    refine lv_tableIn (off := 37) (tgt := 38) hx hb dX5_toldOf_1 (by rw [t7]; decide) (by rw [t7]; decide) (by rw [t7]; rfl) (by decide) ?_
    refine lv_aload_n hx hb dX5_toldOf_38 rfl (lv_at hl 0 rfl) ?_
    obtain ⟨r9, h8, hd⟩ := bp_e hd
    refine cVi_ (rest := []) X (kX5_waiting l Dd Y ad F r9 h8) (cwV 0 X.1.2.2.2.2 gX5_toldOf_X5_waiting rfl rfl rfl (by decide +kernel) ⟨Nat.le_of_ble_eq_true rfl, Nat.le_of_ble_eq_true rfl⟩) hW 0 5 rfl rfl rfl rfl hl.1 rfl (Nat.le_of_ble_eq_true rfl) dX5_toldOf_39 ⟨Nat.zero_le _, Nat.zero_le _⟩ (fun H locs hW => ?_)
    have hd := Option.some.inj hd
    subst hd
    exact hQ _ _ _ _ rfl hW dX5_toldOf_42
  replace hd := if_f t7 hd
  have ot7 : ¬ x1.toInt = 5 := fun h => t7 (Int32.toInt_inj.mp (h.trans (by decide)))
  refine lv_tableOut (tgt := 43) hx hb dX5_toldOf_1 (by omega) (by decide) ?_
  refine lv_aload_n hx hb dX5_toldOf_43 rfl (lv_at hl 0 rfl) ?_
  refine lv_iload_n hx hb dX5_toldOf_44 rfl (lv_at hl 1 rfl) ?_
  obtain ⟨r11, h10, hd⟩ := bp_e hd
  refine cVi_ (rest := []) X (kX5_get l Dd Y ad F x1 r11 h10) (cwV 1 X.1.2.2.2.2 gX5_toldOf_X5_get rfl rfl rfl (by decide +kernel) ⟨Nat.le_of_ble_eq_true rfl, Nat.le_of_ble_eq_true rfl⟩) hW 0 5 rfl rfl rfl rfl hl.1 rfl (Nat.le_of_ble_eq_true rfl) dX5_toldOf_45 ⟨Nat.zero_le _, Nat.zero_le _⟩ (fun H locs hW => ?_)
  have hd := Option.some.inj hd
  subst hd
  exact hQ _ _ _ _ rfl hW dX5_toldOf_48
abbrev rmX5_isPlace : Room := { frames := 2, cells := 0, slots := 0, locals := 41 }
set_option maxRecDepth 100000 in
set_option maxHeartbeats 4000000 in
theorem kX5_isPlace (l : Launch) (Dd : va_G) (Y : yT) (ad : Nat → Nat) (F : gF) (x1 : Int32) (r : Int32) (hd : dnX5_isPlace F x1 = some r) : MG l yX5_isPlace wsX5_isPlace rmX5_isPlace Dd Y [.ref (ad 0), .int x1] (WM Y ad F) (WM Y ad F) (some (.int r)) := by
  refine MGi (cc := cX5_isPlace) (maxL := 2) (ty := .boolean) (by decide) rfl (Nat.le_of_ble_eq_true rfl) (fun {p e s m args below meth c A} ls Q X hW hl hQ => ?_)
  have hx := X.x
  have hb := X.b
  have hl : lv_has ls 2 [(0, .ref (ad 0)), (1, .int x1)] := hl
  unfold dnX5_isPlace at hd
  refine lv_iload_n hx hb dX5_isPlace_0 rfl (lv_at hl 1 rfl) ?_
  refine lv_iconst (v := 0) hx hb dX5_isPlace_1 (by decide) ?_
  refine lv_aload_n hx hb dX5_isPlace_2 rfl (lv_at hl 0 rfl) ?_
  obtain ⟨r2, h1, hd⟩ := bp_e hd
  refine cVi_ (rest := [.int 0, .int x1]) X (kX5_size l Dd Y ad F r2 h1) (cwV 0 X.1.2.2.2.2 gX5_isPlace_X5_size rfl rfl rfl (by decide +kernel) ⟨Nat.le_of_ble_eq_true rfl, Nat.le_of_ble_eq_true rfl⟩) hW 0 5 rfl rfl rfl rfl hl.1 rfl (Nat.le_of_ble_eq_true rfl) dX5_isPlace_3 ⟨Nat.zero_le _, Nat.zero_le _⟩ (fun H locs hW => ?_)
  refine lv_iconst (v := 1) hx hb dX5_isPlace_6 (by decide) ?_
  refine lv_isub hx hb dX5_isPlace_7 ?_
  obtain ⟨r4, h3, hd⟩ := bp_e hd
  refine cSi_ (rest := []) X (kX5_isIn l Dd Y x1 0 (r2 - 1) r4 h3) (va_cwS 3 X.1.2.2.2.2 gX5_isPlace_X5_isIn rfl rfl rfl (by decide +kernel) ⟨Nat.le_of_ble_eq_true rfl, Nat.le_of_ble_eq_true rfl⟩) hW rfl hl.1 rfl (Nat.le_of_ble_eq_true rfl) dX5_isPlace_8 ⟨Nat.zero_le _, Nat.zero_le _⟩ (fun H locs hW => ?_)
  obtain ⟨hz5, hd⟩ := rz_e hd
  subst hd
  exact hQ _ _ _ _ (nz_b hz5) hW dX5_isPlace_11
abbrev rmX5_isStretch : Room := { frames := 3, cells := 0, slots := 0, locals := 62 }
set_option maxRecDepth 100000 in
set_option maxHeartbeats 4000000 in
theorem kX5_isStretch (l : Launch) (Dd : va_G) (Y : yT) (ad : Nat → Nat) (F : gF) (x1 : Int32) (x2 : Int32) (r : Int32) (F' : gF) (hd : dnX5_isStretch F x1 x2 = some (r, F')) : MG l yX5_isStretch wsX5_isStretch rmX5_isStretch Dd Y [.ref (ad 0), .int x1, .int x2] (WM Y ad F) (WM Y ad F') (some (.int r)) := by
  refine MGi (cc := cX5_isStretch) (maxL := 3) (ty := .boolean) (by decide) rfl (Nat.le_of_ble_eq_true rfl) (fun {p e s m args below meth c A} ls Q X hW hl hQ => ?_)
  have hx := X.x
  have hb := X.b
  have hl : lv_has ls 3 [(0, .ref (ad 0)), (1, .int x1), (2, .int x2)] := hl
  unfold dnX5_isStretch at hd
  refine lv_aload_n hx hb dX5_isStretch_0 rfl (lv_at hl 0 rfl) ?_
  refine lv_aload_n hx hb dX5_isStretch_1 rfl (lv_at hl 0 rfl) ?_
  refine lv_iload_n hx hb dX5_isStretch_2 rfl (lv_at hl 1 rfl) ?_
  obtain ⟨r2, h1, hd⟩ := bp_e hd
  refine cVi_ (rest := [.ref (ad 0)]) X (kX5_isPlace l Dd Y ad F x1 r2 h1) (cwV 1 X.1.2.2.2.2 gX5_isStretch_X5_isPlace rfl rfl rfl (by decide +kernel) ⟨Nat.le_of_ble_eq_true rfl, Nat.le_of_ble_eq_true rfl⟩) hW 0 5 rfl rfl rfl rfl hl.1 rfl (Nat.le_of_ble_eq_true rfl) dX5_isStretch_3 ⟨Nat.zero_le _, Nat.zero_le _⟩ (fun H locs hW => ?_)
  refine lv_if_eq (tgt := 21) hx hb dX5_isStretch_6 (by decide) (fun c3 => ?_) (fun c3 => ?_)
  · replace hd := if_t c3 hd
    refine lv_iconst (v := 0) hx hb dX5_isStretch_21 (by decide) ?_
    refine lv_iconst (v := 1) hx hb dX5_isStretch_22 (by decide) ?_
    obtain ⟨r5, F6, h4, hd⟩ := bs_e hd
    refine cVi_ (rest := []) X (kX5_right l Dd Y ad F 0 1 r5 F6 h4) (cwV 2 X.1.2.2.2.2 gX5_isStretch_X5_right rfl rfl rfl (by decide +kernel) ⟨Nat.le_of_ble_eq_true rfl, Nat.le_of_ble_eq_true rfl⟩) hW 0 5 rfl rfl rfl rfl hl.1 rfl (Nat.le_of_ble_eq_true rfl) dX5_isStretch_23 ⟨Nat.zero_le _, Nat.zero_le _⟩ (fun H locs hW => ?_)
    refine lv_if_eq (tgt := 51) hx hb dX5_isStretch_26 (by decide) (fun c7 => ?_) (fun c7 => ?_)
    · replace hd := if_t c7 hd
      refine lv_iconst (v := 0) hx hb dX5_isStretch_51 (by decide) ?_
      obtain ⟨rfl, rfl⟩ := Prod.mk.inj (Option.some.inj hd)
      exact hQ _ _ _ _ (nz_b (Or.inl rfl)) hW dX5_isStretch_52
    · replace hd := if_f c7 hd
      refine lv_aload_n hx hb dX5_isStretch_29 rfl (lv_at hl 0 rfl) ?_
      refine lv_iload_n hx hb dX5_isStretch_30 rfl (lv_at hl 1 rfl) ?_
      refine lv_iload_n hx hb dX5_isStretch_31 rfl (lv_at hl 2 rfl) ?_
      refine lv_icmp_gt (tgt := 39) hx hb dX5_isStretch_32 (by decide) (fun c8 => ?_) (fun c8 => ?_)
      · replace hd := if_t c8 hd
        refine lv_iconst (v := 0) hx hb dX5_isStretch_39 (by decide) ?_
        refine lv_iconst (v := 2) hx hb dX5_isStretch_40 (by decide) ?_
        obtain ⟨r10, F11, h9, hd⟩ := bs_e hd
        refine cVi_ (rest := []) X (kX5_right l Dd Y ad F6 0 2 r10 F11 h9) (cwV 2 X.1.2.2.2.2 gX5_isStretch_X5_right rfl rfl rfl (by decide +kernel) ⟨Nat.le_of_ble_eq_true rfl, Nat.le_of_ble_eq_true rfl⟩) hW 0 5 rfl rfl rfl rfl hl.1 rfl (Nat.le_of_ble_eq_true rfl) dX5_isStretch_41 ⟨Nat.zero_le _, Nat.zero_le _⟩ (fun H locs hW => ?_)
        refine lv_if_eq (tgt := 51) hx hb dX5_isStretch_44 (by decide) (fun c12 => ?_) (fun c12 => ?_)
        · replace hd := if_t c12 hd
          refine lv_iconst (v := 0) hx hb dX5_isStretch_51 (by decide) ?_
          obtain ⟨rfl, rfl⟩ := Prod.mk.inj (Option.some.inj hd)
          exact hQ _ _ _ _ (nz_b (Or.inl rfl)) hW dX5_isStretch_52
        · replace hd := if_f c12 hd
          refine lv_iconst (v := 1) hx hb dX5_isStretch_47 (by decide) ?_
          refine lv_goto (tgt := 52) hx hb dX5_isStretch_48 (by decide) ?_
          obtain ⟨rfl, rfl⟩ := Prod.mk.inj (Option.some.inj hd)
          exact hQ _ _ _ _ (nz_b (Or.inr rfl)) hW dX5_isStretch_52
      · replace hd := if_f c8 hd
        refine lv_iconst (v := 1) hx hb dX5_isStretch_35 (by decide) ?_
        refine lv_goto (tgt := 40) hx hb dX5_isStretch_36 (by decide) ?_
        refine lv_iconst (v := 2) hx hb dX5_isStretch_40 (by decide) ?_
        obtain ⟨r14, F15, h13, hd⟩ := bs_e hd
        refine cVi_ (rest := []) X (kX5_right l Dd Y ad F6 1 2 r14 F15 h13) (cwV 2 X.1.2.2.2.2 gX5_isStretch_X5_right rfl rfl rfl (by decide +kernel) ⟨Nat.le_of_ble_eq_true rfl, Nat.le_of_ble_eq_true rfl⟩) hW 0 5 rfl rfl rfl rfl hl.1 rfl (Nat.le_of_ble_eq_true rfl) dX5_isStretch_41 ⟨Nat.zero_le _, Nat.zero_le _⟩ (fun H locs hW => ?_)
        refine lv_if_eq (tgt := 51) hx hb dX5_isStretch_44 (by decide) (fun c16 => ?_) (fun c16 => ?_)
        · replace hd := if_t c16 hd
          refine lv_iconst (v := 0) hx hb dX5_isStretch_51 (by decide) ?_
          obtain ⟨rfl, rfl⟩ := Prod.mk.inj (Option.some.inj hd)
          exact hQ _ _ _ _ (nz_b (Or.inl rfl)) hW dX5_isStretch_52
        · replace hd := if_f c16 hd
          refine lv_iconst (v := 1) hx hb dX5_isStretch_47 (by decide) ?_
          refine lv_goto (tgt := 52) hx hb dX5_isStretch_48 (by decide) ?_
          obtain ⟨rfl, rfl⟩ := Prod.mk.inj (Option.some.inj hd)
          exact hQ _ _ _ _ (nz_b (Or.inr rfl)) hW dX5_isStretch_52
  · replace hd := if_f c3 hd
    refine lv_aload_n hx hb dX5_isStretch_9 rfl (lv_at hl 0 rfl) ?_
    refine lv_iload_n hx hb dX5_isStretch_10 rfl (lv_at hl 2 rfl) ?_
    obtain ⟨r18, h17, hd⟩ := bp_e hd
    refine cVi_ (rest := [.ref (ad 0)]) X (kX5_isPlace l Dd Y ad F x2 r18 h17) (cwV 1 X.1.2.2.2.2 gX5_isStretch_X5_isPlace rfl rfl rfl (by decide +kernel) ⟨Nat.le_of_ble_eq_true rfl, Nat.le_of_ble_eq_true rfl⟩) hW 0 5 rfl rfl rfl rfl hl.1 rfl (Nat.le_of_ble_eq_true rfl) dX5_isStretch_11 ⟨Nat.zero_le _, Nat.zero_le _⟩ (fun H locs hW => ?_)
    refine lv_if_eq (tgt := 21) hx hb dX5_isStretch_14 (by decide) (fun c19 => ?_) (fun c19 => ?_)
    · replace hd := if_t c19 hd
      refine lv_iconst (v := 0) hx hb dX5_isStretch_21 (by decide) ?_
      refine lv_iconst (v := 1) hx hb dX5_isStretch_22 (by decide) ?_
      obtain ⟨r21, F22, h20, hd⟩ := bs_e hd
      refine cVi_ (rest := []) X (kX5_right l Dd Y ad F 0 1 r21 F22 h20) (cwV 2 X.1.2.2.2.2 gX5_isStretch_X5_right rfl rfl rfl (by decide +kernel) ⟨Nat.le_of_ble_eq_true rfl, Nat.le_of_ble_eq_true rfl⟩) hW 0 5 rfl rfl rfl rfl hl.1 rfl (Nat.le_of_ble_eq_true rfl) dX5_isStretch_23 ⟨Nat.zero_le _, Nat.zero_le _⟩ (fun H locs hW => ?_)
      refine lv_if_eq (tgt := 51) hx hb dX5_isStretch_26 (by decide) (fun c23 => ?_) (fun c23 => ?_)
      · replace hd := if_t c23 hd
        refine lv_iconst (v := 0) hx hb dX5_isStretch_51 (by decide) ?_
        obtain ⟨rfl, rfl⟩ := Prod.mk.inj (Option.some.inj hd)
        exact hQ _ _ _ _ (nz_b (Or.inl rfl)) hW dX5_isStretch_52
      · replace hd := if_f c23 hd
        refine lv_aload_n hx hb dX5_isStretch_29 rfl (lv_at hl 0 rfl) ?_
        refine lv_iload_n hx hb dX5_isStretch_30 rfl (lv_at hl 1 rfl) ?_
        refine lv_iload_n hx hb dX5_isStretch_31 rfl (lv_at hl 2 rfl) ?_
        refine lv_icmp_gt (tgt := 39) hx hb dX5_isStretch_32 (by decide) (fun c24 => ?_) (fun c24 => ?_)
        · replace hd := if_t c24 hd
          refine lv_iconst (v := 0) hx hb dX5_isStretch_39 (by decide) ?_
          refine lv_iconst (v := 2) hx hb dX5_isStretch_40 (by decide) ?_
          obtain ⟨r26, F27, h25, hd⟩ := bs_e hd
          refine cVi_ (rest := []) X (kX5_right l Dd Y ad F22 0 2 r26 F27 h25) (cwV 2 X.1.2.2.2.2 gX5_isStretch_X5_right rfl rfl rfl (by decide +kernel) ⟨Nat.le_of_ble_eq_true rfl, Nat.le_of_ble_eq_true rfl⟩) hW 0 5 rfl rfl rfl rfl hl.1 rfl (Nat.le_of_ble_eq_true rfl) dX5_isStretch_41 ⟨Nat.zero_le _, Nat.zero_le _⟩ (fun H locs hW => ?_)
          refine lv_if_eq (tgt := 51) hx hb dX5_isStretch_44 (by decide) (fun c28 => ?_) (fun c28 => ?_)
          · replace hd := if_t c28 hd
            refine lv_iconst (v := 0) hx hb dX5_isStretch_51 (by decide) ?_
            obtain ⟨rfl, rfl⟩ := Prod.mk.inj (Option.some.inj hd)
            exact hQ _ _ _ _ (nz_b (Or.inl rfl)) hW dX5_isStretch_52
          · replace hd := if_f c28 hd
            refine lv_iconst (v := 1) hx hb dX5_isStretch_47 (by decide) ?_
            refine lv_goto (tgt := 52) hx hb dX5_isStretch_48 (by decide) ?_
            obtain ⟨rfl, rfl⟩ := Prod.mk.inj (Option.some.inj hd)
            exact hQ _ _ _ _ (nz_b (Or.inr rfl)) hW dX5_isStretch_52
        · replace hd := if_f c24 hd
          refine lv_iconst (v := 1) hx hb dX5_isStretch_35 (by decide) ?_
          refine lv_goto (tgt := 40) hx hb dX5_isStretch_36 (by decide) ?_
          refine lv_iconst (v := 2) hx hb dX5_isStretch_40 (by decide) ?_
          obtain ⟨r30, F31, h29, hd⟩ := bs_e hd
          refine cVi_ (rest := []) X (kX5_right l Dd Y ad F22 1 2 r30 F31 h29) (cwV 2 X.1.2.2.2.2 gX5_isStretch_X5_right rfl rfl rfl (by decide +kernel) ⟨Nat.le_of_ble_eq_true rfl, Nat.le_of_ble_eq_true rfl⟩) hW 0 5 rfl rfl rfl rfl hl.1 rfl (Nat.le_of_ble_eq_true rfl) dX5_isStretch_41 ⟨Nat.zero_le _, Nat.zero_le _⟩ (fun H locs hW => ?_)
          refine lv_if_eq (tgt := 51) hx hb dX5_isStretch_44 (by decide) (fun c32 => ?_) (fun c32 => ?_)
          · replace hd := if_t c32 hd
            refine lv_iconst (v := 0) hx hb dX5_isStretch_51 (by decide) ?_
            obtain ⟨rfl, rfl⟩ := Prod.mk.inj (Option.some.inj hd)
            exact hQ _ _ _ _ (nz_b (Or.inl rfl)) hW dX5_isStretch_52
          · replace hd := if_f c32 hd
            refine lv_iconst (v := 1) hx hb dX5_isStretch_47 (by decide) ?_
            refine lv_goto (tgt := 52) hx hb dX5_isStretch_48 (by decide) ?_
            obtain ⟨rfl, rfl⟩ := Prod.mk.inj (Option.some.inj hd)
            exact hQ _ _ _ _ (nz_b (Or.inr rfl)) hW dX5_isStretch_52
    · replace hd := if_f c19 hd
      refine lv_iconst (v := 1) hx hb dX5_isStretch_17 (by decide) ?_
      refine lv_goto (tgt := 22) hx hb dX5_isStretch_18 (by decide) ?_
      refine lv_iconst (v := 1) hx hb dX5_isStretch_22 (by decide) ?_
      obtain ⟨r34, F35, h33, hd⟩ := bs_e hd
      refine cVi_ (rest := []) X (kX5_right l Dd Y ad F 1 1 r34 F35 h33) (cwV 2 X.1.2.2.2.2 gX5_isStretch_X5_right rfl rfl rfl (by decide +kernel) ⟨Nat.le_of_ble_eq_true rfl, Nat.le_of_ble_eq_true rfl⟩) hW 0 5 rfl rfl rfl rfl hl.1 rfl (Nat.le_of_ble_eq_true rfl) dX5_isStretch_23 ⟨Nat.zero_le _, Nat.zero_le _⟩ (fun H locs hW => ?_)
      refine lv_if_eq (tgt := 51) hx hb dX5_isStretch_26 (by decide) (fun c36 => ?_) (fun c36 => ?_)
      · replace hd := if_t c36 hd
        refine lv_iconst (v := 0) hx hb dX5_isStretch_51 (by decide) ?_
        obtain ⟨rfl, rfl⟩ := Prod.mk.inj (Option.some.inj hd)
        exact hQ _ _ _ _ (nz_b (Or.inl rfl)) hW dX5_isStretch_52
      · replace hd := if_f c36 hd
        refine lv_aload_n hx hb dX5_isStretch_29 rfl (lv_at hl 0 rfl) ?_
        refine lv_iload_n hx hb dX5_isStretch_30 rfl (lv_at hl 1 rfl) ?_
        refine lv_iload_n hx hb dX5_isStretch_31 rfl (lv_at hl 2 rfl) ?_
        refine lv_icmp_gt (tgt := 39) hx hb dX5_isStretch_32 (by decide) (fun c37 => ?_) (fun c37 => ?_)
        · replace hd := if_t c37 hd
          refine lv_iconst (v := 0) hx hb dX5_isStretch_39 (by decide) ?_
          refine lv_iconst (v := 2) hx hb dX5_isStretch_40 (by decide) ?_
          obtain ⟨r39, F40, h38, hd⟩ := bs_e hd
          refine cVi_ (rest := []) X (kX5_right l Dd Y ad F35 0 2 r39 F40 h38) (cwV 2 X.1.2.2.2.2 gX5_isStretch_X5_right rfl rfl rfl (by decide +kernel) ⟨Nat.le_of_ble_eq_true rfl, Nat.le_of_ble_eq_true rfl⟩) hW 0 5 rfl rfl rfl rfl hl.1 rfl (Nat.le_of_ble_eq_true rfl) dX5_isStretch_41 ⟨Nat.zero_le _, Nat.zero_le _⟩ (fun H locs hW => ?_)
          refine lv_if_eq (tgt := 51) hx hb dX5_isStretch_44 (by decide) (fun c41 => ?_) (fun c41 => ?_)
          · replace hd := if_t c41 hd
            refine lv_iconst (v := 0) hx hb dX5_isStretch_51 (by decide) ?_
            obtain ⟨rfl, rfl⟩ := Prod.mk.inj (Option.some.inj hd)
            exact hQ _ _ _ _ (nz_b (Or.inl rfl)) hW dX5_isStretch_52
          · replace hd := if_f c41 hd
            refine lv_iconst (v := 1) hx hb dX5_isStretch_47 (by decide) ?_
            refine lv_goto (tgt := 52) hx hb dX5_isStretch_48 (by decide) ?_
            obtain ⟨rfl, rfl⟩ := Prod.mk.inj (Option.some.inj hd)
            exact hQ _ _ _ _ (nz_b (Or.inr rfl)) hW dX5_isStretch_52
        · replace hd := if_f c37 hd
          refine lv_iconst (v := 1) hx hb dX5_isStretch_35 (by decide) ?_
          refine lv_goto (tgt := 40) hx hb dX5_isStretch_36 (by decide) ?_
          refine lv_iconst (v := 2) hx hb dX5_isStretch_40 (by decide) ?_
          obtain ⟨r43, F44, h42, hd⟩ := bs_e hd
          refine cVi_ (rest := []) X (kX5_right l Dd Y ad F35 1 2 r43 F44 h42) (cwV 2 X.1.2.2.2.2 gX5_isStretch_X5_right rfl rfl rfl (by decide +kernel) ⟨Nat.le_of_ble_eq_true rfl, Nat.le_of_ble_eq_true rfl⟩) hW 0 5 rfl rfl rfl rfl hl.1 rfl (Nat.le_of_ble_eq_true rfl) dX5_isStretch_41 ⟨Nat.zero_le _, Nat.zero_le _⟩ (fun H locs hW => ?_)
          refine lv_if_eq (tgt := 51) hx hb dX5_isStretch_44 (by decide) (fun c45 => ?_) (fun c45 => ?_)
          · replace hd := if_t c45 hd
            refine lv_iconst (v := 0) hx hb dX5_isStretch_51 (by decide) ?_
            obtain ⟨rfl, rfl⟩ := Prod.mk.inj (Option.some.inj hd)
            exact hQ _ _ _ _ (nz_b (Or.inl rfl)) hW dX5_isStretch_52
          · replace hd := if_f c45 hd
            refine lv_iconst (v := 1) hx hb dX5_isStretch_47 (by decide) ?_
            refine lv_goto (tgt := 52) hx hb dX5_isStretch_48 (by decide) ?_
            obtain ⟨rfl, rfl⟩ := Prod.mk.inj (Option.some.inj hd)
            exact hQ _ _ _ _ (nz_b (Or.inr rfl)) hW dX5_isStretch_52
abbrev rmX5_state : Room := { frames := 5, cells := 0, slots := 0, locals := 105 }
set_option maxRecDepth 100000 in
set_option maxHeartbeats 4000000 in
theorem kX5_state (l : Launch) (Dd : va_G) (Y : yT) (ad : Nat → Nat) (F : gF) (x1 : Int32) (r : Int32) (F' : gF) (hd : dnX5_state F x1 = some (r, F')) : MG l yX5_state wsX5_state rmX5_state Dd Y [.ref (ad 0), .int x1] (WM Y ad F) (WM Y ad F') (some (.int r)) := by
  refine MGi (cc := cX5_state) (maxL := 2) (ty := .int) (by decide) rfl (Nat.le_of_ble_eq_true rfl) (fun {p e s m args below meth c A} ls Q X hW hl hQ => ?_)
  have hx := X.x
  have hb := X.b
  have hl : lv_has ls 2 [(0, .ref (ad 0)), (1, .int x1)] := hl
  have hinX5 : ∀ w ∈ wsX50, w ∈ wsX5_state := fun w h => List.mem_cons_of_mem _ (List.mem_append_right _ h)
  unfold dnX5_state at hd
  refine lv_aload_n hx hb dX5_state_0 rfl (lv_at hl 0 rfl) ?_
  refine lv_iconst (v := 0) hx hb dX5_state_1 (by decide) ?_
  obtain ⟨F1, eF1, hd⟩ := bw_e hd
  refine p_ (ty := .int) X hinX5 tyX5 tyX5_ok nmX5 hW 0 rfl rfl 0 (by decide) 1 rfl rfl rfl (by decide +kernel) rfl rfl (Nat.le_of_ble_eq_true rfl) dX5_state_2 (ws' := (WM Y ad F1)) (by rw [eF1]; rfl) (fun H locs hW => ?_)
  refine lv_aload_n hx hb dX5_state_5 rfl (lv_at hl 0 rfl) ?_
  refine lv_iload_n hx hb dX5_state_6 rfl (lv_at hl 1 rfl) ?_
  refine lv_iconst (v := 0) hx hb dX5_state_7 (by decide) ?_
  refine lv_bipush (v := 10) hx hb dX5_state_8 (by decide) ?_
  obtain ⟨r3, h2, hd⟩ := bp_e hd
  refine cSi_ (rest := [.ref (ad 0)]) X (kX5_isIn l Dd Y x1 0 10 r3 h2) (va_cwS 3 X.1.2.2.2.2 gX5_state_X5_isIn rfl rfl rfl (by decide +kernel) ⟨Nat.le_of_ble_eq_true rfl, Nat.le_of_ble_eq_true rfl⟩) hW rfl hl.1 rfl (Nat.le_of_ble_eq_true rfl) dX5_state_10 ⟨Nat.zero_le _, Nat.zero_le _⟩ (fun H locs hW => ?_)
  refine lv_iconst (v := 1) hx hb dX5_state_13 (by decide) ?_
  obtain ⟨r5, F6, h4, hd⟩ := bs_e hd
  refine cVi_ (rest := []) X (kX5_right l Dd Y ad F1 r3 1 r5 F6 h4) (cwV 2 X.1.2.2.2.2 gX5_state_X5_right rfl rfl rfl (by decide +kernel) ⟨Nat.le_of_ble_eq_true rfl, Nat.le_of_ble_eq_true rfl⟩) hW 0 5 rfl rfl rfl rfl hl.1 rfl (Nat.le_of_ble_eq_true rfl) dX5_state_14 ⟨Nat.zero_le _, Nat.zero_le _⟩ (fun H locs hW => ?_)
  refine lv_if_eq (tgt := 28) hx hb dX5_state_17 (by decide) (fun c7 => ?_) (fun c7 => ?_)
  · replace hd := if_t c7 hd
    refine lv_iconst (v := 0) hx hb dX5_state_28 (by decide) ?_
    obtain ⟨rfl, rfl⟩ := Prod.mk.inj (Option.some.inj hd)
    exact hQ _ _ _ _ rfl hW dX5_state_29
  · replace hd := if_f c7 hd
    refine lv_aload_n hx hb dX5_state_20 rfl (lv_at hl 0 rfl) ?_
    refine lv_iload_n hx hb dX5_state_21 rfl (lv_at hl 1 rfl) ?_
    obtain ⟨r9, h8, hd⟩ := bp_e hd
    refine cVi_ (rest := []) X (kX5_toldOf l Dd Y ad F6 x1 r9 h8) (cwV 1 X.1.2.2.2.2 gX5_state_X5_toldOf rfl rfl rfl (by decide +kernel) ⟨Nat.le_of_ble_eq_true rfl, Nat.le_of_ble_eq_true rfl⟩) hW 0 5 rfl rfl rfl rfl hl.1 rfl (Nat.le_of_ble_eq_true rfl) dX5_state_22 ⟨Nat.zero_le _, Nat.zero_le _⟩ (fun H locs hW => ?_)
    refine lv_goto (tgt := 29) hx hb dX5_state_25 (by decide) ?_
    obtain ⟨rfl, rfl⟩ := Prod.mk.inj (Option.some.inj hd)
    exact hQ _ _ _ _ rfl hW dX5_state_29
abbrev rmX5_value : Room := { frames := 3, cells := 0, slots := 0, locals := 62 }
set_option maxRecDepth 100000 in
set_option maxHeartbeats 4000000 in
theorem kX5_value (l : Launch) (Dd : va_G) (Y : yT) (ad : Nat → Nat) (F : gF) (x1 : Int32) (r : Int32) (F' : gF) (hd : dnX5_value F x1 = some (r, F')) : MG l yX5_value wsX5_value rmX5_value Dd Y [.ref (ad 0), .int x1] (WM Y ad F) (WM Y ad F') (some (.int r)) := by
  refine MGi (cc := cX5_value) (maxL := 2) (ty := .int) (by decide) rfl (Nat.le_of_ble_eq_true rfl) (fun {p e s m args below meth c A} ls Q X hW hl hQ => ?_)
  have hx := X.x
  have hb := X.b
  have hl : lv_has ls 2 [(0, .ref (ad 0)), (1, .int x1)] := hl
  have hinX5 : ∀ w ∈ wsX50, w ∈ wsX5_value := fun w h => List.mem_cons_of_mem _ (List.mem_append_right _ h)
  unfold dnX5_value at hd
  refine lv_aload_n hx hb dX5_value_0 rfl (lv_at hl 0 rfl) ?_
  refine lv_iconst (v := 0) hx hb dX5_value_1 (by decide) ?_
  obtain ⟨F1, eF1, hd⟩ := bw_e hd
  refine p_ (ty := .int) X hinX5 tyX5 tyX5_ok nmX5 hW 0 rfl rfl 0 (by decide) 1 rfl rfl rfl (by decide +kernel) rfl rfl (Nat.le_of_ble_eq_true rfl) dX5_value_2 (ws' := (WM Y ad F1)) (by rw [eF1]; rfl) (fun H locs hW => ?_)
  refine lv_aload_n hx hb dX5_value_5 rfl (lv_at hl 0 rfl) ?_
  refine lv_aload_n hx hb dX5_value_6 rfl (lv_at hl 0 rfl) ?_
  refine lv_iload_n hx hb dX5_value_7 rfl (lv_at hl 1 rfl) ?_
  obtain ⟨r3, h2, hd⟩ := bp_e hd
  refine cVi_ (rest := [.ref (ad 0)]) X (kX5_isPlace l Dd Y ad F1 x1 r3 h2) (cwV 1 X.1.2.2.2.2 gX5_value_X5_isPlace rfl rfl rfl (by decide +kernel) ⟨Nat.le_of_ble_eq_true rfl, Nat.le_of_ble_eq_true rfl⟩) hW 0 5 rfl rfl rfl rfl hl.1 rfl (Nat.le_of_ble_eq_true rfl) dX5_value_8 ⟨Nat.zero_le _, Nat.zero_le _⟩ (fun H locs hW => ?_)
  refine lv_iconst (v := 1) hx hb dX5_value_11 (by decide) ?_
  obtain ⟨r5, F6, h4, hd⟩ := bs_e hd
  refine cVi_ (rest := []) X (kX5_right l Dd Y ad F1 r3 1 r5 F6 h4) (cwV 2 X.1.2.2.2.2 gX5_value_X5_right rfl rfl rfl (by decide +kernel) ⟨Nat.le_of_ble_eq_true rfl, Nat.le_of_ble_eq_true rfl⟩) hW 0 5 rfl rfl rfl rfl hl.1 rfl (Nat.le_of_ble_eq_true rfl) dX5_value_12 ⟨Nat.zero_le _, Nat.zero_le _⟩ (fun H locs hW => ?_)
  refine lv_if_eq (tgt := 26) hx hb dX5_value_15 (by decide) (fun c7 => ?_) (fun c7 => ?_)
  · replace hd := if_t c7 hd
    refine lv_iconst (v := 0) hx hb dX5_value_26 (by decide) ?_
    obtain ⟨rfl, rfl⟩ := Prod.mk.inj (Option.some.inj hd)
    exact hQ _ _ _ _ rfl hW dX5_value_27
  · replace hd := if_f c7 hd
    refine lv_aload_n hx hb dX5_value_18 rfl (lv_at hl 0 rfl) ?_
    refine lv_iload_n hx hb dX5_value_19 rfl (lv_at hl 1 rfl) ?_
    obtain ⟨r9, h8, hd⟩ := bp_e hd
    refine cVi_ (rest := []) X (kX5_valueAt l Dd Y ad F6 x1 r9 h8) (cwV 1 X.1.2.2.2.2 gX5_value_X5_valueAt rfl rfl rfl (by decide +kernel) ⟨Nat.le_of_ble_eq_true rfl, Nat.le_of_ble_eq_true rfl⟩) hW 0 5 rfl rfl rfl rfl hl.1 rfl (Nat.le_of_ble_eq_true rfl) dX5_value_20 ⟨Nat.zero_le _, Nat.zero_le _⟩ (fun H locs hW => ?_)
    refine lv_goto (tgt := 27) hx hb dX5_value_23 (by decide) ?_
    obtain ⟨rfl, rfl⟩ := Prod.mk.inj (Option.some.inj hd)
    exact hQ _ _ _ _ rfl hW dX5_value_27
abbrev rmX5_cell : Room := { frames := 3, cells := 0, slots := 0, locals := 62 }
set_option maxRecDepth 100000 in
set_option maxHeartbeats 4000000 in
theorem kX5_cell (l : Launch) (Dd : va_G) (Y : yT) (ad : Nat → Nat) (F : gF) (x1 : Int32) (x2 : Int32) (r : Int32) (F' : gF) (hd : dnX5_cell F x1 x2 = some (r, F')) : MG l yX5_cell wsX5_cell rmX5_cell Dd Y [.ref (ad 0), .int x1, .int x2] (WM Y ad F) (WM Y ad F') (some (.int r)) := by
  refine MGi (cc := cX5_cell) (maxL := 3) (ty := .int) (by decide) rfl (Nat.le_of_ble_eq_true rfl) (fun {p e s m args below meth c A} ls Q X hW hl hQ => ?_)
  have hx := X.x
  have hb := X.b
  have hl : lv_has ls 3 [(0, .ref (ad 0)), (1, .int x1), (2, .int x2)] := hl
  have hinX5 : ∀ w ∈ wsX50, w ∈ wsX5_cell := fun w h => List.mem_cons_of_mem _ (List.mem_append_right _ h)
  unfold dnX5_cell at hd
  refine lv_aload_n hx hb dX5_cell_0 rfl (lv_at hl 0 rfl) ?_
  refine lv_iconst (v := 0) hx hb dX5_cell_1 (by decide) ?_
  obtain ⟨F1, eF1, hd⟩ := bw_e hd
  refine p_ (ty := .int) X hinX5 tyX5 tyX5_ok nmX5 hW 0 rfl rfl 0 (by decide) 1 rfl rfl rfl (by decide +kernel) rfl rfl (Nat.le_of_ble_eq_true rfl) dX5_cell_2 (ws' := (WM Y ad F1)) (by rw [eF1]; rfl) (fun H locs hW => ?_)
  refine lv_aload_n hx hb dX5_cell_5 rfl (lv_at hl 0 rfl) ?_
  refine lv_aload_n hx hb dX5_cell_6 rfl (lv_at hl 0 rfl) ?_
  refine lv_iload_n hx hb dX5_cell_7 rfl (lv_at hl 2 rfl) ?_
  obtain ⟨r3, h2, hd⟩ := bp_e hd
  refine cVi_ (rest := [.ref (ad 0)]) X (kX5_isPlace l Dd Y ad F1 x2 r3 h2) (cwV 1 X.1.2.2.2.2 gX5_cell_X5_isPlace rfl rfl rfl (by decide +kernel) ⟨Nat.le_of_ble_eq_true rfl, Nat.le_of_ble_eq_true rfl⟩) hW 0 5 rfl rfl rfl rfl hl.1 rfl (Nat.le_of_ble_eq_true rfl) dX5_cell_8 ⟨Nat.zero_le _, Nat.zero_le _⟩ (fun H locs hW => ?_)
  refine lv_iconst (v := 1) hx hb dX5_cell_11 (by decide) ?_
  obtain ⟨r5, F6, h4, hd⟩ := bs_e hd
  refine cVi_ (rest := []) X (kX5_right l Dd Y ad F1 r3 1 r5 F6 h4) (cwV 2 X.1.2.2.2.2 gX5_cell_X5_right rfl rfl rfl (by decide +kernel) ⟨Nat.le_of_ble_eq_true rfl, Nat.le_of_ble_eq_true rfl⟩) hW 0 5 rfl rfl rfl rfl hl.1 rfl (Nat.le_of_ble_eq_true rfl) dX5_cell_12 ⟨Nat.zero_le _, Nat.zero_le _⟩ (fun H locs hW => ?_)
  refine lv_if_eq (tgt := 49) hx hb dX5_cell_15 (by decide) (fun c7 => ?_) (fun c7 => ?_)
  · replace hd := if_t c7 hd
    refine lv_iconst (v := 0) hx hb dX5_cell_49 (by decide) ?_
    obtain ⟨rfl, rfl⟩ := Prod.mk.inj (Option.some.inj hd)
    exact hQ _ _ _ _ rfl hW dX5_cell_50
  · replace hd := if_f c7 hd
    refine lv_aload_n hx hb dX5_cell_18 rfl (lv_at hl 0 rfl) ?_
    refine lv_iload_n hx hb dX5_cell_19 rfl (lv_at hl 1 rfl) ?_
    refine lv_iconst (v := 0) hx hb dX5_cell_20 (by decide) ?_
    refine lv_iconst (v := 5) hx hb dX5_cell_21 (by decide) ?_
    obtain ⟨r9, h8, hd⟩ := bp_e hd
    refine cSi_ (rest := [.ref (ad 0)]) X (kX5_isIn l Dd Y x1 0 5 r9 h8) (va_cwS 3 X.1.2.2.2.2 gX5_cell_X5_isIn rfl rfl rfl (by decide +kernel) ⟨Nat.le_of_ble_eq_true rfl, Nat.le_of_ble_eq_true rfl⟩) hW rfl hl.1 rfl (Nat.le_of_ble_eq_true rfl) dX5_cell_22 ⟨Nat.zero_le _, Nat.zero_le _⟩ (fun H locs hW => ?_)
    refine lv_if_eq (tgt := 41) hx hb dX5_cell_25 (by decide) (fun c10 => ?_) (fun c10 => ?_)
    · replace hd := if_t c10 hd
      refine lv_iconst (v := 0) hx hb dX5_cell_41 (by decide) ?_
      refine lv_iconst (v := 2) hx hb dX5_cell_42 (by decide) ?_
      obtain ⟨r12, F13, h11, hd⟩ := bs_e hd
      refine cVi_ (rest := []) X (kX5_right l Dd Y ad F6 0 2 r12 F13 h11) (cwV 2 X.1.2.2.2.2 gX5_cell_X5_right rfl rfl rfl (by decide +kernel) ⟨Nat.le_of_ble_eq_true rfl, Nat.le_of_ble_eq_true rfl⟩) hW 0 5 rfl rfl rfl rfl hl.1 rfl (Nat.le_of_ble_eq_true rfl) dX5_cell_43 ⟨Nat.zero_le _, Nat.zero_le _⟩ (fun H locs hW => ?_)
      refine lv_if_ne (tgt := 51) hx hb dX5_cell_46 (by decide) (fun c14 => ?_) (fun c14 => ?_)
      · replace hd := if_f c14 hd
        refine lv_aload_n hx hb dX5_cell_51 rfl (lv_at hl 0 rfl) ?_
        refine lv_iload_n hx hb dX5_cell_52 rfl (lv_at hl 1 rfl) ?_
        refine lv_iload_n hx hb dX5_cell_53 rfl (lv_at hl 2 rfl) ?_
        obtain ⟨r16, h15, hd⟩ := bp_e hd
        refine cVi_ (rest := []) X (kX5_toldBy l Dd Y ad F13 x1 x2 r16 h15) (cwV 2 X.1.2.2.2.2 gX5_cell_X5_toldBy rfl rfl rfl (by decide +kernel) ⟨Nat.le_of_ble_eq_true rfl, Nat.le_of_ble_eq_true rfl⟩) hW 0 5 rfl rfl rfl rfl hl.1 rfl (Nat.le_of_ble_eq_true rfl) dX5_cell_54 ⟨Nat.zero_le _, Nat.zero_le _⟩ (fun H locs hW => ?_)
        obtain ⟨rfl, rfl⟩ := Prod.mk.inj (Option.some.inj hd)
        exact hQ _ _ _ _ rfl hW dX5_cell_57
      · replace hd := if_t c14 hd
        refine lv_iconst (v := 0) hx hb dX5_cell_49 (by decide) ?_
        obtain ⟨rfl, rfl⟩ := Prod.mk.inj (Option.some.inj hd)
        exact hQ _ _ _ _ rfl hW dX5_cell_50
    · replace hd := if_f c10 hd
      refine lv_iload_n hx hb dX5_cell_28 rfl (lv_at hl 2 rfl) ?_
      refine lv_aload_n hx hb dX5_cell_29 rfl (lv_at hl 0 rfl) ?_
      refine lv_iload_n hx hb dX5_cell_30 rfl (lv_at hl 1 rfl) ?_
      obtain ⟨r18, h17, hd⟩ := bp_e hd
      refine cVi_ (rest := [.int x2, .ref (ad 0)]) X (kX5_cellsOn l Dd Y ad F6 x1 r18 h17) (cwV 1 X.1.2.2.2.2 gX5_cell_X5_cellsOn rfl rfl rfl (by decide +kernel) ⟨Nat.le_of_ble_eq_true rfl, Nat.le_of_ble_eq_true rfl⟩) hW 0 5 rfl rfl rfl rfl hl.1 rfl (Nat.le_of_ble_eq_true rfl) dX5_cell_31 ⟨Nat.zero_le _, Nat.zero_le _⟩ (fun H locs hW => ?_)
      refine lv_icmp_ge (tgt := 41) hx hb dX5_cell_34 (by decide) (fun c19 => ?_) (fun c19 => ?_)
      · replace hd := if_t c19 hd
        refine lv_iconst (v := 0) hx hb dX5_cell_41 (by decide) ?_
        refine lv_iconst (v := 2) hx hb dX5_cell_42 (by decide) ?_
        obtain ⟨r21, F22, h20, hd⟩ := bs_e hd
        refine cVi_ (rest := []) X (kX5_right l Dd Y ad F6 0 2 r21 F22 h20) (cwV 2 X.1.2.2.2.2 gX5_cell_X5_right rfl rfl rfl (by decide +kernel) ⟨Nat.le_of_ble_eq_true rfl, Nat.le_of_ble_eq_true rfl⟩) hW 0 5 rfl rfl rfl rfl hl.1 rfl (Nat.le_of_ble_eq_true rfl) dX5_cell_43 ⟨Nat.zero_le _, Nat.zero_le _⟩ (fun H locs hW => ?_)
        refine lv_if_ne (tgt := 51) hx hb dX5_cell_46 (by decide) (fun c23 => ?_) (fun c23 => ?_)
        · replace hd := if_f c23 hd
          refine lv_aload_n hx hb dX5_cell_51 rfl (lv_at hl 0 rfl) ?_
          refine lv_iload_n hx hb dX5_cell_52 rfl (lv_at hl 1 rfl) ?_
          refine lv_iload_n hx hb dX5_cell_53 rfl (lv_at hl 2 rfl) ?_
          obtain ⟨r25, h24, hd⟩ := bp_e hd
          refine cVi_ (rest := []) X (kX5_toldBy l Dd Y ad F22 x1 x2 r25 h24) (cwV 2 X.1.2.2.2.2 gX5_cell_X5_toldBy rfl rfl rfl (by decide +kernel) ⟨Nat.le_of_ble_eq_true rfl, Nat.le_of_ble_eq_true rfl⟩) hW 0 5 rfl rfl rfl rfl hl.1 rfl (Nat.le_of_ble_eq_true rfl) dX5_cell_54 ⟨Nat.zero_le _, Nat.zero_le _⟩ (fun H locs hW => ?_)
          obtain ⟨rfl, rfl⟩ := Prod.mk.inj (Option.some.inj hd)
          exact hQ _ _ _ _ rfl hW dX5_cell_57
        · replace hd := if_t c23 hd
          refine lv_iconst (v := 0) hx hb dX5_cell_49 (by decide) ?_
          obtain ⟨rfl, rfl⟩ := Prod.mk.inj (Option.some.inj hd)
          exact hQ _ _ _ _ rfl hW dX5_cell_50
      · replace hd := if_f c19 hd
        refine lv_iconst (v := 1) hx hb dX5_cell_37 (by decide) ?_
        refine lv_goto (tgt := 42) hx hb dX5_cell_38 (by decide) ?_
        refine lv_iconst (v := 2) hx hb dX5_cell_42 (by decide) ?_
        obtain ⟨r27, F28, h26, hd⟩ := bs_e hd
        refine cVi_ (rest := []) X (kX5_right l Dd Y ad F6 1 2 r27 F28 h26) (cwV 2 X.1.2.2.2.2 gX5_cell_X5_right rfl rfl rfl (by decide +kernel) ⟨Nat.le_of_ble_eq_true rfl, Nat.le_of_ble_eq_true rfl⟩) hW 0 5 rfl rfl rfl rfl hl.1 rfl (Nat.le_of_ble_eq_true rfl) dX5_cell_43 ⟨Nat.zero_le _, Nat.zero_le _⟩ (fun H locs hW => ?_)
        refine lv_if_ne (tgt := 51) hx hb dX5_cell_46 (by decide) (fun c29 => ?_) (fun c29 => ?_)
        · replace hd := if_f c29 hd
          refine lv_aload_n hx hb dX5_cell_51 rfl (lv_at hl 0 rfl) ?_
          refine lv_iload_n hx hb dX5_cell_52 rfl (lv_at hl 1 rfl) ?_
          refine lv_iload_n hx hb dX5_cell_53 rfl (lv_at hl 2 rfl) ?_
          obtain ⟨r31, h30, hd⟩ := bp_e hd
          refine cVi_ (rest := []) X (kX5_toldBy l Dd Y ad F28 x1 x2 r31 h30) (cwV 2 X.1.2.2.2.2 gX5_cell_X5_toldBy rfl rfl rfl (by decide +kernel) ⟨Nat.le_of_ble_eq_true rfl, Nat.le_of_ble_eq_true rfl⟩) hW 0 5 rfl rfl rfl rfl hl.1 rfl (Nat.le_of_ble_eq_true rfl) dX5_cell_54 ⟨Nat.zero_le _, Nat.zero_le _⟩ (fun H locs hW => ?_)
          obtain ⟨rfl, rfl⟩ := Prod.mk.inj (Option.some.inj hd)
          exact hQ _ _ _ _ rfl hW dX5_cell_57
        · replace hd := if_t c29 hd
          refine lv_iconst (v := 0) hx hb dX5_cell_49 (by decide) ?_
          obtain ⟨rfl, rfl⟩ := Prod.mk.inj (Option.some.inj hd)
          exact hQ _ _ _ _ rfl hW dX5_cell_50
abbrev rmX5_waits : Room := { frames := 3, cells := 0, slots := 0, locals := 62 }
set_option maxRecDepth 100000 in
set_option maxHeartbeats 4000000 in
theorem kX5_waits (l : Launch) (Dd : va_G) (Y : yT) (ad : Nat → Nat) (F : gF) (x1 : Int32) (r : Int32) (F' : gF) (hd : dnX5_waits F x1 = some (r, F')) : MG l yX5_waits wsX5_waits rmX5_waits Dd Y [.ref (ad 0), .int x1] (WM Y ad F) (WM Y ad F') (some (.int r)) := by
  refine MGi (cc := cX5_waits) (maxL := 2) (ty := .boolean) (by decide) rfl (Nat.le_of_ble_eq_true rfl) (fun {p e s m args below meth c A} ls Q X hW hl hQ => ?_)
  have hx := X.x
  have hb := X.b
  have hl : lv_has ls 2 [(0, .ref (ad 0)), (1, .int x1)] := hl
  have hinX5 : ∀ w ∈ wsX50, w ∈ wsX5_waits := fun w h => List.mem_cons_of_mem _ (List.mem_append_right _ h)
  unfold dnX5_waits at hd
  refine lv_aload_n hx hb dX5_waits_0 rfl (lv_at hl 0 rfl) ?_
  refine lv_iconst (v := 0) hx hb dX5_waits_1 (by decide) ?_
  obtain ⟨F1, eF1, hd⟩ := bw_e hd
  refine p_ (ty := .int) X hinX5 tyX5 tyX5_ok nmX5 hW 0 rfl rfl 0 (by decide) 1 rfl rfl rfl (by decide +kernel) rfl rfl (Nat.le_of_ble_eq_true rfl) dX5_waits_2 (ws' := (WM Y ad F1)) (by rw [eF1]; rfl) (fun H locs hW => ?_)
  refine lv_aload_n hx hb dX5_waits_5 rfl (lv_at hl 0 rfl) ?_
  refine lv_aload_n hx hb dX5_waits_6 rfl (lv_at hl 0 rfl) ?_
  refine lv_iload_n hx hb dX5_waits_7 rfl (lv_at hl 1 rfl) ?_
  obtain ⟨r3, h2, hd⟩ := bp_e hd
  refine cVi_ (rest := [.ref (ad 0)]) X (kX5_isPlace l Dd Y ad F1 x1 r3 h2) (cwV 1 X.1.2.2.2.2 gX5_waits_X5_isPlace rfl rfl rfl (by decide +kernel) ⟨Nat.le_of_ble_eq_true rfl, Nat.le_of_ble_eq_true rfl⟩) hW 0 5 rfl rfl rfl rfl hl.1 rfl (Nat.le_of_ble_eq_true rfl) dX5_waits_8 ⟨Nat.zero_le _, Nat.zero_le _⟩ (fun H locs hW => ?_)
  refine lv_iconst (v := 1) hx hb dX5_waits_11 (by decide) ?_
  obtain ⟨r5, F6, h4, hd⟩ := bs_e hd
  refine cVi_ (rest := []) X (kX5_right l Dd Y ad F1 r3 1 r5 F6 h4) (cwV 2 X.1.2.2.2.2 gX5_waits_X5_right rfl rfl rfl (by decide +kernel) ⟨Nat.le_of_ble_eq_true rfl, Nat.le_of_ble_eq_true rfl⟩) hW 0 5 rfl rfl rfl rfl hl.1 rfl (Nat.le_of_ble_eq_true rfl) dX5_waits_12 ⟨Nat.zero_le _, Nat.zero_le _⟩ (fun H locs hW => ?_)
  refine lv_if_eq (tgt := 30) hx hb dX5_waits_15 (by decide) (fun c7 => ?_) (fun c7 => ?_)
  · replace hd := if_t c7 hd
    refine lv_iconst (v := 0) hx hb dX5_waits_30 (by decide) ?_
    obtain ⟨rfl, rfl⟩ := Prod.mk.inj (Option.some.inj hd)
    exact hQ _ _ _ _ (nz_b (Or.inl rfl)) hW dX5_waits_31
  · replace hd := if_f c7 hd
    refine lv_aload_n hx hb dX5_waits_18 rfl (lv_at hl 0 rfl) ?_
    refine lv_iload_n hx hb dX5_waits_19 rfl (lv_at hl 1 rfl) ?_
    obtain ⟨r9, h8, hd⟩ := bp_e hd
    refine cVi_ (rest := []) X (kX5_isWaiting l Dd Y ad F6 x1 r9 h8) (cwV 1 X.1.2.2.2.2 gX5_waits_X5_isWaiting rfl rfl rfl (by decide +kernel) ⟨Nat.le_of_ble_eq_true rfl, Nat.le_of_ble_eq_true rfl⟩) hW 0 5 rfl rfl rfl rfl hl.1 rfl (Nat.le_of_ble_eq_true rfl) dX5_waits_20 ⟨Nat.zero_le _, Nat.zero_le _⟩ (fun H locs hW => ?_)
    refine lv_if_eq (tgt := 30) hx hb dX5_waits_23 (by decide) (fun c10 => ?_) (fun c10 => ?_)
    · replace hd := if_t c10 hd
      refine lv_iconst (v := 0) hx hb dX5_waits_30 (by decide) ?_
      obtain ⟨rfl, rfl⟩ := Prod.mk.inj (Option.some.inj hd)
      exact hQ _ _ _ _ (nz_b (Or.inl rfl)) hW dX5_waits_31
    · replace hd := if_f c10 hd
      refine lv_iconst (v := 1) hx hb dX5_waits_26 (by decide) ?_
      refine lv_goto (tgt := 31) hx hb dX5_waits_27 (by decide) ?_
      obtain ⟨rfl, rfl⟩ := Prod.mk.inj (Option.some.inj hd)
      exact hQ _ _ _ _ (nz_b (Or.inr rfl)) hW dX5_waits_31
abbrev rmX5_least : Room := { frames := 4, cells := 0, slots := 0, locals := 84 }
set_option maxRecDepth 100000 in
set_option maxHeartbeats 4000000 in
theorem kX5_least (l : Launch) (Dd : va_G) (Y : yT) (ad : Nat → Nat) (F : gF) (x1 : Int32) (x2 : Int32) (r : Int32) (F' : gF) (hd : dnX5_least F x1 x2 = some (r, F')) : MG l yX5_least wsX5_least rmX5_least Dd Y [.ref (ad 0), .int x1, .int x2] (WM Y ad F) (WM Y ad F') (some (.int r)) := by
  refine MGi (cc := cX5_least) (maxL := 3) (ty := .int) (by decide) rfl (Nat.le_of_ble_eq_true rfl) (fun {p e s m args below meth c A} ls Q X hW hl hQ => ?_)
  have hx := X.x
  have hb := X.b
  have hl : lv_has ls 3 [(0, .ref (ad 0)), (1, .int x1), (2, .int x2)] := hl
  have hinX5 : ∀ w ∈ wsX50, w ∈ wsX5_least := fun w h => List.mem_cons_of_mem _ (List.mem_append_right _ h)
  unfold dnX5_least at hd
  refine lv_aload_n hx hb dX5_least_0 rfl (lv_at hl 0 rfl) ?_
  refine lv_iconst (v := 0) hx hb dX5_least_1 (by decide) ?_
  obtain ⟨F1, eF1, hd⟩ := bw_e hd
  refine p_ (ty := .int) X hinX5 tyX5 tyX5_ok nmX5 hW 0 rfl rfl 0 (by decide) 1 rfl rfl rfl (by decide +kernel) rfl rfl (Nat.le_of_ble_eq_true rfl) dX5_least_2 (ws' := (WM Y ad F1)) (by rw [eF1]; rfl) (fun H locs hW => ?_)
  refine lv_aload_n hx hb dX5_least_5 rfl (lv_at hl 0 rfl) ?_
  refine lv_iload_n hx hb dX5_least_6 rfl (lv_at hl 1 rfl) ?_
  refine lv_iload_n hx hb dX5_least_7 rfl (lv_at hl 2 rfl) ?_
  obtain ⟨r3, F4, h2, hd⟩ := bs_e hd
  refine cVi_ (rest := []) X (kX5_isStretch l Dd Y ad F1 x1 x2 r3 F4 h2) (cwV 2 X.1.2.2.2.2 gX5_least_X5_isStretch rfl rfl rfl (by decide +kernel) ⟨Nat.le_of_ble_eq_true rfl, Nat.le_of_ble_eq_true rfl⟩) hW 0 5 rfl rfl rfl rfl hl.1 rfl (Nat.le_of_ble_eq_true rfl) dX5_least_8 ⟨Nat.zero_le _, Nat.zero_le _⟩ (fun H locs hW => ?_)
  refine lv_if_eq (tgt := 23) hx hb dX5_least_11 (by decide) (fun c5 => ?_) (fun c5 => ?_)
  · replace hd := if_t c5 hd
    refine lv_iconst (v := 0) hx hb dX5_least_23 (by decide) ?_
    obtain ⟨rfl, rfl⟩ := Prod.mk.inj (Option.some.inj hd)
    exact hQ _ _ _ _ rfl hW dX5_least_24
  · replace hd := if_f c5 hd
    refine lv_aload_n hx hb dX5_least_14 rfl (lv_at hl 0 rfl) ?_
    refine lv_iload_n hx hb dX5_least_15 rfl (lv_at hl 1 rfl) ?_
    refine lv_iload_n hx hb dX5_least_16 rfl (lv_at hl 2 rfl) ?_
    obtain ⟨r7, h6, hd⟩ := bp_e hd
    refine cVi_ (rest := []) X (kX5_leastIn l Dd Y ad F4 x1 x2 r7 h6) (cwV 2 X.1.2.2.2.2 gX5_least_X5_leastIn rfl rfl rfl (by decide +kernel) ⟨Nat.le_of_ble_eq_true rfl, Nat.le_of_ble_eq_true rfl⟩) hW 0 5 rfl rfl rfl rfl hl.1 rfl (Nat.le_of_ble_eq_true rfl) dX5_least_17 ⟨Nat.zero_le _, Nat.zero_le _⟩ (fun H locs hW => ?_)
    refine lv_goto (tgt := 24) hx hb dX5_least_20 (by decide) ?_
    obtain ⟨rfl, rfl⟩ := Prod.mk.inj (Option.some.inj hd)
    exact hQ _ _ _ _ rfl hW dX5_least_24
abbrev rmX5_looksOfRun : Room := { frames := 1, cells := 0, slots := 0, locals := 22 }
set_option maxRecDepth 100000 in
set_option maxHeartbeats 4000000 in
theorem kX5_looksOfRun (l : Launch) (Dd : va_G) (Y : yT) (ad : Nat → Nat) (F : gF) (x1 : Int32) (r : Int32) (hd : dnX5_looksOfRun F x1 = some r) : MG l yX5_looksOfRun wsX5_looksOfRun rmX5_looksOfRun Dd Y [.ref (ad 0), .int x1] (WM Y ad F) (WM Y ad F) (some (.int r)) := by
  refine MGi (cc := cX5_looksOfRun) (maxL := 2) (ty := .int) (by decide) rfl (Nat.le_of_ble_eq_true rfl) (fun {p e s m args below meth c A} ls Q X hW hl hQ => ?_)
  have hx := X.x
  have hb := X.b
  have hl : lv_has ls 2 [(0, .ref (ad 0)), (1, .int x1)] := hl
  unfold dnX5_looksOfRun at hd
  refine lv_iconst (v := 1) hx hb dX5_looksOfRun_0 (by decide) ?_
  refine lv_aload_n hx hb dX5_looksOfRun_1 rfl (lv_at hl 0 rfl) ?_
  refine lv_iload_n hx hb dX5_looksOfRun_2 rfl (lv_at hl 1 rfl) ?_
  obtain ⟨r2, h1, hd⟩ := bp_e hd
  refine cVi_ (rest := [.int 1]) X (kX5_levelOf l Dd Y ad F x1 r2 h1) (cwV 1 X.1.2.2.2.2 gX5_looksOfRun_X5_levelOf rfl rfl rfl (by decide +kernel) ⟨Nat.le_of_ble_eq_true rfl, Nat.le_of_ble_eq_true rfl⟩) hW 0 5 rfl rfl rfl rfl hl.1 rfl (Nat.le_of_ble_eq_true rfl) dX5_looksOfRun_3 ⟨Nat.zero_le _, Nat.zero_le _⟩ (fun H locs hW => ?_)
  refine lv_ishl hx hb dX5_looksOfRun_6 ?_
  refine lv_iload_n hx hb dX5_looksOfRun_7 rfl (lv_at hl 1 rfl) ?_
  refine lv_icmp_ne (tgt := 15) hx hb dX5_looksOfRun_8 (by decide) (fun c3 => ?_) (fun c3 => ?_)
  · replace hd := if_f c3 hd
    refine lv_iconst (v := 2) hx hb dX5_looksOfRun_15 (by decide) ?_
    have hd := Option.some.inj hd
    subst hd
    exact hQ _ _ _ _ rfl hW dX5_looksOfRun_16
  · replace hd := if_t c3 hd
    refine lv_iconst (v := 1) hx hb dX5_looksOfRun_11 (by decide) ?_
    refine lv_goto (tgt := 16) hx hb dX5_looksOfRun_12 (by decide) ?_
    have hd := Option.some.inj hd
    subst hd
    exact hQ _ _ _ _ rfl hW dX5_looksOfRun_16
abbrev rmX5_looksNow : Room := { frames := 4, cells := 0, slots := 0, locals := 91 }
set_option maxRecDepth 100000 in
set_option maxHeartbeats 4000000 in
theorem kX5_looksNow (l : Launch) (Dd : va_G) (Y : yT) (ad : Nat → Nat) (F : gF) (x1 : Int32) (x2 : Int32) (r : Int32) (hd : dnX5_looksNow F x1 x2 = some r) : MG l yX5_looksNow wsX5_looksNow rmX5_looksNow Dd Y [.ref (ad 0), .int x1, .int x2] (WM Y ad F) (WM Y ad F) (some (.int r)) := by
  refine MGi (cc := cX5_looksNow) (maxL := 3) (ty := .int) (by decide) rfl (Nat.le_of_ble_eq_true rfl) (fun {p e s m args below meth c A} ls Q X hW hl hQ => ?_)
  have hx := X.x
  have hb := X.b
  have hl : lv_has ls 3 [(0, .ref (ad 0)), (1, .int x1), (2, .int x2)] := hl
  unfold dnX5_looksNow at hd
  refine lv_aload_n hx hb dX5_looksNow_0 rfl (lv_at hl 0 rfl) ?_
  refine lv_iconst (v := 1) hx hb dX5_looksNow_1 (by decide) ?_
  obtain ⟨r2, h1, hd⟩ := bp_e hd
  refine cVi_ (rest := []) X (kX5_get l Dd Y ad F 1 r2 h1) (cwV 1 X.1.2.2.2.2 gX5_looksNow_X5_get rfl rfl rfl (by decide +kernel) ⟨Nat.le_of_ble_eq_true rfl, Nat.le_of_ble_eq_true rfl⟩) hW 0 5 rfl rfl rfl rfl hl.1 rfl (Nat.le_of_ble_eq_true rfl) dX5_looksNow_2 ⟨Nat.zero_le _, Nat.zero_le _⟩ (fun H locs hW => ?_)
  refine lv_if_ne (tgt := 20) hx hb dX5_looksNow_5 (by decide) (fun c3 => ?_) (fun c3 => ?_)
  · replace hd := if_f c3 hd
    refine lv_aload_n hx hb dX5_looksNow_20 rfl (lv_at hl 0 rfl) ?_
    refine lv_iload_n hx hb dX5_looksNow_21 rfl (lv_at hl 1 rfl) ?_
    refine lv_iload_n hx hb dX5_looksNow_22 rfl (lv_at hl 2 rfl) ?_
    obtain ⟨r5, h4, hd⟩ := bp_e hd
    refine cVi_ (rest := []) X (kX5_looksIn l Dd Y ad F x1 x2 r5 h4) (cwV 2 X.1.2.2.2.2 gX5_looksNow_X5_looksIn rfl rfl rfl (by decide +kernel) ⟨Nat.le_of_ble_eq_true rfl, Nat.le_of_ble_eq_true rfl⟩) hW 0 5 rfl rfl rfl rfl hl.1 rfl (Nat.le_of_ble_eq_true rfl) dX5_looksNow_23 ⟨Nat.zero_le _, Nat.zero_le _⟩ (fun H locs hW => ?_)
    have hd := Option.some.inj hd
    subst hd
    exact hQ _ _ _ _ rfl hW dX5_looksNow_26
  · replace hd := if_t c3 hd
    refine lv_aload_n hx hb dX5_looksNow_8 rfl (lv_at hl 0 rfl) ?_
    refine lv_iload_n hx hb dX5_looksNow_9 rfl (lv_at hl 2 rfl) ?_
    refine lv_iload_n hx hb dX5_looksNow_10 rfl (lv_at hl 1 rfl) ?_
    refine lv_isub hx hb dX5_looksNow_11 ?_
    refine lv_iconst (v := 1) hx hb dX5_looksNow_12 (by decide) ?_
    refine lv_iadd hx hb dX5_looksNow_13 ?_
    obtain ⟨r7, h6, hd⟩ := bp_e hd
    refine cVi_ (rest := []) X (kX5_looksOfRun l Dd Y ad F ((x2 - x1) + 1) r7 h6) (cwV 1 X.1.2.2.2.2 gX5_looksNow_X5_looksOfRun rfl rfl rfl (by decide +kernel) ⟨Nat.le_of_ble_eq_true rfl, Nat.le_of_ble_eq_true rfl⟩) hW 0 5 rfl rfl rfl rfl hl.1 rfl (Nat.le_of_ble_eq_true rfl) dX5_looksNow_14 ⟨Nat.zero_le _, Nat.zero_le _⟩ (fun H locs hW => ?_)
    refine lv_goto (tgt := 26) hx hb dX5_looksNow_17 (by decide) ?_
    have hd := Option.some.inj hd
    subst hd
    exact hQ _ _ _ _ rfl hW dX5_looksNow_26
abbrev rmX5_looks : Room := { frames := 5, cells := 0, slots := 0, locals := 113 }
set_option maxRecDepth 100000 in
set_option maxHeartbeats 4000000 in
theorem kX5_looks (l : Launch) (Dd : va_G) (Y : yT) (ad : Nat → Nat) (F : gF) (x1 : Int32) (x2 : Int32) (r : Int32) (F' : gF) (hd : dnX5_looks F x1 x2 = some (r, F')) : MG l yX5_looks wsX5_looks rmX5_looks Dd Y [.ref (ad 0), .int x1, .int x2] (WM Y ad F) (WM Y ad F') (some (.int r)) := by
  refine MGi (cc := cX5_looks) (maxL := 3) (ty := .int) (by decide) rfl (Nat.le_of_ble_eq_true rfl) (fun {p e s m args below meth c A} ls Q X hW hl hQ => ?_)
  have hx := X.x
  have hb := X.b
  have hl : lv_has ls 3 [(0, .ref (ad 0)), (1, .int x1), (2, .int x2)] := hl
  have hinX5 : ∀ w ∈ wsX50, w ∈ wsX5_looks := fun w h => List.mem_cons_of_mem _ (List.mem_append_right _ h)
  unfold dnX5_looks at hd
  refine lv_aload_n hx hb dX5_looks_0 rfl (lv_at hl 0 rfl) ?_
  refine lv_iconst (v := 0) hx hb dX5_looks_1 (by decide) ?_
  obtain ⟨F1, eF1, hd⟩ := bw_e hd
  refine p_ (ty := .int) X hinX5 tyX5 tyX5_ok nmX5 hW 0 rfl rfl 0 (by decide) 1 rfl rfl rfl (by decide +kernel) rfl rfl (Nat.le_of_ble_eq_true rfl) dX5_looks_2 (ws' := (WM Y ad F1)) (by rw [eF1]; rfl) (fun H locs hW => ?_)
  refine lv_aload_n hx hb dX5_looks_5 rfl (lv_at hl 0 rfl) ?_
  refine lv_iload_n hx hb dX5_looks_6 rfl (lv_at hl 1 rfl) ?_
  refine lv_iload_n hx hb dX5_looks_7 rfl (lv_at hl 2 rfl) ?_
  obtain ⟨r3, F4, h2, hd⟩ := bs_e hd
  refine cVi_ (rest := []) X (kX5_isStretch l Dd Y ad F1 x1 x2 r3 F4 h2) (cwV 2 X.1.2.2.2.2 gX5_looks_X5_isStretch rfl rfl rfl (by decide +kernel) ⟨Nat.le_of_ble_eq_true rfl, Nat.le_of_ble_eq_true rfl⟩) hW 0 5 rfl rfl rfl rfl hl.1 rfl (Nat.le_of_ble_eq_true rfl) dX5_looks_8 ⟨Nat.zero_le _, Nat.zero_le _⟩ (fun H locs hW => ?_)
  refine lv_if_eq (tgt := 23) hx hb dX5_looks_11 (by decide) (fun c5 => ?_) (fun c5 => ?_)
  · replace hd := if_t c5 hd
    refine lv_iconst (v := 0) hx hb dX5_looks_23 (by decide) ?_
    obtain ⟨rfl, rfl⟩ := Prod.mk.inj (Option.some.inj hd)
    exact hQ _ _ _ _ rfl hW dX5_looks_24
  · replace hd := if_f c5 hd
    refine lv_aload_n hx hb dX5_looks_14 rfl (lv_at hl 0 rfl) ?_
    refine lv_iload_n hx hb dX5_looks_15 rfl (lv_at hl 1 rfl) ?_
    refine lv_iload_n hx hb dX5_looks_16 rfl (lv_at hl 2 rfl) ?_
    obtain ⟨r7, h6, hd⟩ := bp_e hd
    refine cVi_ (rest := []) X (kX5_looksNow l Dd Y ad F4 x1 x2 r7 h6) (cwV 2 X.1.2.2.2.2 gX5_looks_X5_looksNow rfl rfl rfl (by decide +kernel) ⟨Nat.le_of_ble_eq_true rfl, Nat.le_of_ble_eq_true rfl⟩) hW 0 5 rfl rfl rfl rfl hl.1 rfl (Nat.le_of_ble_eq_true rfl) dX5_looks_17 ⟨Nat.zero_le _, Nat.zero_le _⟩ (fun H locs hW => ?_)
    refine lv_goto (tgt := 24) hx hb dX5_looks_20 (by decide) ?_
    obtain ⟨rfl, rfl⟩ := Prod.mk.inj (Option.some.inj hd)
    exact hQ _ _ _ _ rfl hW dX5_looks_24
abbrev rmX5_writes : Room := { frames := 4, cells := 0, slots := 0, locals := 84 }
set_option maxRecDepth 100000 in
set_option maxHeartbeats 4000000 in
theorem kX5_writes (l : Launch) (Dd : va_G) (Y : yT) (ad : Nat → Nat) (F : gF) (r : Int32) (F' : gF) (hd : dnX5_writes F = some (r, F')) : MG l yX5_writes wsX5_writes rmX5_writes Dd Y [.ref (ad 0)] (WM Y ad F) (WM Y ad F') (some (.int r)) := by
  refine MGi (cc := cX5_writes) (maxL := 1) (ty := .int) (by decide) rfl (Nat.le_of_ble_eq_true rfl) (fun {p e s m args below meth c A} ls Q X hW hl hQ => ?_)
  have hx := X.x
  have hb := X.b
  have hl : lv_has ls 1 [(0, .ref (ad 0))] := hl
  have hinX5 : ∀ w ∈ wsX50, w ∈ wsX5_writes := fun w h => List.mem_cons_of_mem _ (List.mem_append_right _ h)
  unfold dnX5_writes at hd
  refine lv_aload_n hx hb dX5_writes_0 rfl (lv_at hl 0 rfl) ?_
  refine lv_iconst (v := 0) hx hb dX5_writes_1 (by decide) ?_
  obtain ⟨F1, eF1, hd⟩ := bw_e hd
  refine p_ (ty := .int) X hinX5 tyX5 tyX5_ok nmX5 hW 0 rfl rfl 0 (by decide) 1 rfl rfl rfl (by decide +kernel) rfl rfl (Nat.le_of_ble_eq_true rfl) dX5_writes_2 (ws' := (WM Y ad F1)) (by rw [eF1]; rfl) (fun H locs hW => ?_)
  refine lv_aload_n hx hb dX5_writes_5 rfl (lv_at hl 0 rfl) ?_
  refine lv_iconst (v := 1) hx hb dX5_writes_6 (by decide) ?_
  obtain ⟨r3, h2, hd⟩ := bp_e hd
  refine cVi_ (rest := []) X (kX5_get l Dd Y ad F1 1 r3 h2) (cwV 1 X.1.2.2.2.2 gX5_writes_X5_get rfl rfl rfl (by decide +kernel) ⟨Nat.le_of_ble_eq_true rfl, Nat.le_of_ble_eq_true rfl⟩) hW 0 5 rfl rfl rfl rfl hl.1 rfl (Nat.le_of_ble_eq_true rfl) dX5_writes_7 ⟨Nat.zero_le _, Nat.zero_le _⟩ (fun H locs hW => ?_)
  refine lv_if_ne (tgt := 27) hx hb dX5_writes_10 (by decide) (fun c4 => ?_) (fun c4 => ?_)
  · replace hd := if_f c4 hd
    refine lv_iconst (v := 0) hx hb dX5_writes_27 (by decide) ?_
    obtain ⟨rfl, rfl⟩ := Prod.mk.inj (Option.some.inj hd)
    exact hQ _ _ _ _ rfl hW dX5_writes_28
  · replace hd := if_t c4 hd
    refine lv_aload_n hx hb dX5_writes_13 rfl (lv_at hl 0 rfl) ?_
    obtain ⟨r6, h5, hd⟩ := bp_e hd
    refine cVi_ (rest := []) X (kX5_waiting l Dd Y ad F1 r6 h5) (cwV 0 X.1.2.2.2.2 gX5_writes_X5_waiting rfl rfl rfl (by decide +kernel) ⟨Nat.le_of_ble_eq_true rfl, Nat.le_of_ble_eq_true rfl⟩) hW 0 5 rfl rfl rfl rfl hl.1 rfl (Nat.le_of_ble_eq_true rfl) dX5_writes_14 ⟨Nat.zero_le _, Nat.zero_le _⟩ (fun H locs hW => ?_)
    refine lv_if_le (tgt := 27) hx hb dX5_writes_17 (by decide) (fun c7 => ?_) (fun c7 => ?_)
    · replace hd := if_t c7 hd
      refine lv_iconst (v := 0) hx hb dX5_writes_27 (by decide) ?_
      obtain ⟨rfl, rfl⟩ := Prod.mk.inj (Option.some.inj hd)
      exact hQ _ _ _ _ rfl hW dX5_writes_28
    · replace hd := if_f c7 hd
      refine lv_aload_n hx hb dX5_writes_20 rfl (lv_at hl 0 rfl) ?_
      obtain ⟨r9, h8, hd⟩ := bp_e hd
      refine cVi_ (rest := []) X (kX5_allCells l Dd Y ad F1 r9 h8) (cwV 0 X.1.2.2.2.2 gX5_writes_X5_allCells rfl rfl rfl (by decide +kernel) ⟨Nat.le_of_ble_eq_true rfl, Nat.le_of_ble_eq_true rfl⟩) hW 0 5 rfl rfl rfl rfl hl.1 rfl (Nat.le_of_ble_eq_true rfl) dX5_writes_21 ⟨Nat.zero_le _, Nat.zero_le _⟩ (fun H locs hW => ?_)
      refine lv_goto (tgt := 28) hx hb dX5_writes_24 (by decide) ?_
      obtain ⟨rfl, rfl⟩ := Prod.mk.inj (Option.some.inj hd)
      exact hQ _ _ _ _ rfl hW dX5_writes_28
abbrev rmX5_above : Room := { frames := 4, cells := 0, slots := 0, locals := 86 }
set_option maxRecDepth 100000 in
set_option maxHeartbeats 4000000 in
theorem kX5_above (l : Launch) (Dd : va_G) (Y : yT) (ad : Nat → Nat) (F : gF) (x1 : Int32) (r : Int32) (F' : gF) (hd : dnX5_above F x1 = some (r, F')) : MG l yX5_above wsX5_above rmX5_above Dd Y [.ref (ad 0), .int x1] (WM Y ad F) (WM Y ad F') (some (.int r)) := by
  refine MGi (cc := cX5_above) (maxL := 2) (ty := .int) (by decide) rfl (Nat.le_of_ble_eq_true rfl) (fun {p e s m args below meth c A} ls Q X hW hl hQ => ?_)
  have hx := X.x
  have hb := X.b
  have hl : lv_has ls 2 [(0, .ref (ad 0)), (1, .int x1)] := hl
  have hinX5 : ∀ w ∈ wsX50, w ∈ wsX5_above := fun w h => List.mem_cons_of_mem _ (List.mem_append_right _ h)
  unfold dnX5_above at hd
  refine lv_aload_n hx hb dX5_above_0 rfl (lv_at hl 0 rfl) ?_
  refine lv_iconst (v := 0) hx hb dX5_above_1 (by decide) ?_
  obtain ⟨F1, eF1, hd⟩ := bw_e hd
  refine p_ (ty := .int) X hinX5 tyX5 tyX5_ok nmX5 hW 0 rfl rfl 0 (by decide) 1 rfl rfl rfl (by decide +kernel) rfl rfl (Nat.le_of_ble_eq_true rfl) dX5_above_2 (ws' := (WM Y ad F1)) (by rw [eF1]; rfl) (fun H locs hW => ?_)
  refine lv_aload_n hx hb dX5_above_5 rfl (lv_at hl 0 rfl) ?_
  refine lv_aload_n hx hb dX5_above_6 rfl (lv_at hl 0 rfl) ?_
  refine lv_iload_n hx hb dX5_above_7 rfl (lv_at hl 1 rfl) ?_
  obtain ⟨r3, h2, hd⟩ := bp_e hd
  refine cVi_ (rest := [.ref (ad 0)]) X (kX5_isPlace l Dd Y ad F1 x1 r3 h2) (cwV 1 X.1.2.2.2.2 gX5_above_X5_isPlace rfl rfl rfl (by decide +kernel) ⟨Nat.le_of_ble_eq_true rfl, Nat.le_of_ble_eq_true rfl⟩) hW 0 5 rfl rfl rfl rfl hl.1 rfl (Nat.le_of_ble_eq_true rfl) dX5_above_8 ⟨Nat.zero_le _, Nat.zero_le _⟩ (fun H locs hW => ?_)
  refine lv_iconst (v := 1) hx hb dX5_above_11 (by decide) ?_
  obtain ⟨r5, F6, h4, hd⟩ := bs_e hd
  refine cVi_ (rest := []) X (kX5_right l Dd Y ad F1 r3 1 r5 F6 h4) (cwV 2 X.1.2.2.2.2 gX5_above_X5_right rfl rfl rfl (by decide +kernel) ⟨Nat.le_of_ble_eq_true rfl, Nat.le_of_ble_eq_true rfl⟩) hW 0 5 rfl rfl rfl rfl hl.1 rfl (Nat.le_of_ble_eq_true rfl) dX5_above_12 ⟨Nat.zero_le _, Nat.zero_le _⟩ (fun H locs hW => ?_)
  refine lv_if_eq (tgt := 26) hx hb dX5_above_15 (by decide) (fun c7 => ?_) (fun c7 => ?_)
  · replace hd := if_t c7 hd
    refine lv_iconst (v := 0) hx hb dX5_above_26 (by decide) ?_
    obtain ⟨rfl, rfl⟩ := Prod.mk.inj (Option.some.inj hd)
    exact hQ _ _ _ _ rfl hW dX5_above_27
  · replace hd := if_f c7 hd
    refine lv_aload_n hx hb dX5_above_18 rfl (lv_at hl 0 rfl) ?_
    refine lv_iload_n hx hb dX5_above_19 rfl (lv_at hl 1 rfl) ?_
    obtain ⟨r9, h8, hd⟩ := bp_e hd
    refine cVi_ (rest := []) X (kX5_cellsOf l Dd Y ad F6 x1 r9 h8) (cwV 1 X.1.2.2.2.2 gX5_above_X5_cellsOf rfl rfl rfl (by decide +kernel) ⟨Nat.le_of_ble_eq_true rfl, Nat.le_of_ble_eq_true rfl⟩) hW 0 5 rfl rfl rfl rfl hl.1 rfl (Nat.le_of_ble_eq_true rfl) dX5_above_20 ⟨Nat.zero_le _, Nat.zero_le _⟩ (fun H locs hW => ?_)
    refine lv_goto (tgt := 27) hx hb dX5_above_23 (by decide) ?_
    obtain ⟨rfl, rfl⟩ := Prod.mk.inj (Option.some.inj hd)
    exact hQ _ _ _ _ rfl hW dX5_above_27
abbrev rmX5_lessBehind : Room := { frames := 3, cells := 0, slots := 0, locals := 62 }
set_option maxRecDepth 100000 in
set_option maxHeartbeats 4000000 in
theorem kX5_lessBehind (l : Launch) (Dd : va_G) (Y : yT) (ad : Nat → Nat) (F : gF) (x1 : Int32) (r : Int32) (F' : gF) (hd : dnX5_lessBehind F x1 = some (r, F')) : MG l yX5_lessBehind wsX5_lessBehind rmX5_lessBehind Dd Y [.ref (ad 0), .int x1] (WM Y ad F) (WM Y ad F') (some (.int r)) := by
  refine MGi (cc := cX5_lessBehind) (maxL := 3) (ty := .int) (by decide) rfl (Nat.le_of_ble_eq_true rfl) (fun {p e s m args below meth c A} ls Q X hW hl hQ => ?_)
  have hx := X.x
  have hb := X.b
  have hl : lv_has ls 3 [(0, .ref (ad 0)), (1, .int x1)] := hl
  have hinX5 : ∀ w ∈ wsX50, w ∈ wsX5_lessBehind := fun w h => List.mem_cons_of_mem _ (List.mem_append_right _ h)
  unfold dnX5_lessBehind at hd
  have K24 : ∀ (F : gF) (x1 : Int32) (n : Nat) (x2 : Int32) (z : Nat × Int32), lpX5_lessBehind_24 F x1 n x2 = some z → ∀ (H : Heap) (locs : List Loc) (ls : Array Slot), Wd Dd A s.heap (WM Y ad F) H locs → lv_has ls 3 [(0, .ref (ad 0)), (1, .int x1), (2, .int x2)] → (∀ (H : Heap) (locs : List Loc) (ls : Array Slot), z.1 = 0 → Wd Dd A s.heap (WM Y ad F) H locs → lv_has ls 3 [(2, .int z.2)] → W p l e rmX5_lessBehind s m args below meth c H locs 0 0 Q (F0 m 45 ls [])) → (∀ (H : Heap) (locs : List Loc) (ls : Array Slot), z.1 = 1 → Wd Dd A s.heap (WM Y ad F) H locs → lv_has ls 3 [] → W p l e rmX5_lessBehind s m args below meth c H locs 0 0 Q (F0 m 53 ls [])) → W p l e rmX5_lessBehind s m args below meth c H locs 0 0 Q (F0 m 24 ls []) := by
    intro F x1 n
    induction n with
    | zero => intro x2 z hd; cases hd
    | succ n ih =>
      intro x2 z hd H locs ls hW hl kx0 kx1
      unfold lpX5_lessBehind_24 at hd
      refine lv_iload_n hx hb dX5_lessBehind_24 rfl (lv_at hl 2 rfl) ?_
      refine lv_aload_n hx hb dX5_lessBehind_25 rfl (lv_at hl 0 rfl) ?_
      obtain ⟨r2, h1, hd⟩ := bp_e hd
      refine cVi_ (rest := [.int x2]) X (kX5_size l Dd Y ad F r2 h1) (cwV 0 X.1.2.2.2.2 gX5_lessBehind_X5_size rfl rfl rfl (by decide +kernel) ⟨Nat.le_of_ble_eq_true rfl, Nat.le_of_ble_eq_true rfl⟩) hW 0 5 rfl rfl rfl rfl hl.1 rfl (Nat.le_of_ble_eq_true rfl) dX5_lessBehind_26 ⟨Nat.zero_le _, Nat.zero_le _⟩ (fun H locs hW => ?_)
      refine lv_icmp_ge (tgt := 53) hx hb dX5_lessBehind_29 (by decide) (fun c3 => ?_) (fun c3 => ?_)
      · replace hd := if_t c3 hd
        cases hd
        exact kx1 _ _ _ rfl hW (lv_sub hl [] rfl)
      · replace hd := if_f c3 hd
        refine lv_aload_n hx hb dX5_lessBehind_32 rfl (lv_at hl 0 rfl) ?_
        refine lv_iload_n hx hb dX5_lessBehind_33 rfl (lv_at hl 2 rfl) ?_
        obtain ⟨r5, h4, hd⟩ := bp_e hd
        refine cVi_ (rest := []) X (kX5_valueAt l Dd Y ad F x2 r5 h4) (cwV 1 X.1.2.2.2.2 gX5_lessBehind_X5_valueAt rfl rfl rfl (by decide +kernel) ⟨Nat.le_of_ble_eq_true rfl, Nat.le_of_ble_eq_true rfl⟩) hW 0 5 rfl rfl rfl rfl hl.1 rfl (Nat.le_of_ble_eq_true rfl) dX5_lessBehind_34 ⟨Nat.zero_le _, Nat.zero_le _⟩ (fun H locs hW => ?_)
        refine lv_aload_n hx hb dX5_lessBehind_37 rfl (lv_at hl 0 rfl) ?_
        refine lv_iload_n hx hb dX5_lessBehind_38 rfl (lv_at hl 1 rfl) ?_
        obtain ⟨r7, h6, hd⟩ := bp_e hd
        refine cVi_ (rest := [.int r5]) X (kX5_valueAt l Dd Y ad F x1 r7 h6) (cwV 1 X.1.2.2.2.2 gX5_lessBehind_X5_valueAt rfl rfl rfl (by decide +kernel) ⟨Nat.le_of_ble_eq_true rfl, Nat.le_of_ble_eq_true rfl⟩) hW 0 5 rfl rfl rfl rfl hl.1 rfl (Nat.le_of_ble_eq_true rfl) dX5_lessBehind_39 ⟨Nat.zero_le _, Nat.zero_le _⟩ (fun H locs hW => ?_)
        refine lv_icmp_ge (tgt := 47) hx hb dX5_lessBehind_42 (by decide) (fun c8 => ?_) (fun c8 => ?_)
        · replace hd := if_t c8 hd
          refine lv_iinc (v := x2 + 1) (lv' := [(2, .int (x2 + 1)), (0, .ref (ad 0)), (1, .int x1)]) hx hb dX5_lessBehind_47 hl (k := 2) rfl rfl (by decide) rfl (fun ls hl => ?_)
          refine lv_goto (tgt := 24) hx hb dX5_lessBehind_50 (by decide) ?_
          exact ih (x2 + 1) z hd _ _ _ hW (lv_sub hl [1, 2, 0] rfl) kx0 kx1
        · replace hd := if_f c8 hd
          cases hd
          exact kx0 _ _ _ rfl hW (lv_sub hl [2] rfl)
  refine lv_aload_n hx hb dX5_lessBehind_0 rfl (lv_at hl 0 rfl) ?_
  refine lv_iconst (v := 0) hx hb dX5_lessBehind_1 (by decide) ?_
  obtain ⟨F9, eF9, hd⟩ := bw_e hd
  refine p_ (ty := .int) X hinX5 tyX5 tyX5_ok nmX5 hW 0 rfl rfl 0 (by decide) 1 rfl rfl rfl (by decide +kernel) rfl rfl (Nat.le_of_ble_eq_true rfl) dX5_lessBehind_2 (ws' := (WM Y ad F9)) (by rw [eF9]; rfl) (fun H locs hW => ?_)
  refine lv_aload_n hx hb dX5_lessBehind_5 rfl (lv_at hl 0 rfl) ?_
  refine lv_aload_n hx hb dX5_lessBehind_6 rfl (lv_at hl 0 rfl) ?_
  refine lv_iload_n hx hb dX5_lessBehind_7 rfl (lv_at hl 1 rfl) ?_
  obtain ⟨r11, h10, hd⟩ := bp_e hd
  refine cVi_ (rest := [.ref (ad 0)]) X (kX5_isPlace l Dd Y ad F9 x1 r11 h10) (cwV 1 X.1.2.2.2.2 gX5_lessBehind_X5_isPlace rfl rfl rfl (by decide +kernel) ⟨Nat.le_of_ble_eq_true rfl, Nat.le_of_ble_eq_true rfl⟩) hW 0 5 rfl rfl rfl rfl hl.1 rfl (Nat.le_of_ble_eq_true rfl) dX5_lessBehind_8 ⟨Nat.zero_le _, Nat.zero_le _⟩ (fun H locs hW => ?_)
  refine lv_iconst (v := 1) hx hb dX5_lessBehind_11 (by decide) ?_
  obtain ⟨r13, F14, h12, hd⟩ := bs_e hd
  refine cVi_ (rest := []) X (kX5_right l Dd Y ad F9 r11 1 r13 F14 h12) (cwV 2 X.1.2.2.2.2 gX5_lessBehind_X5_right rfl rfl rfl (by decide +kernel) ⟨Nat.le_of_ble_eq_true rfl, Nat.le_of_ble_eq_true rfl⟩) hW 0 5 rfl rfl rfl rfl hl.1 rfl (Nat.le_of_ble_eq_true rfl) dX5_lessBehind_12 ⟨Nat.zero_le _, Nat.zero_le _⟩ (fun H locs hW => ?_)
  refine lv_if_ne (tgt := 20) hx hb dX5_lessBehind_15 (by decide) (fun c15 => ?_) (fun c15 => ?_)
  · replace hd := if_f c15 hd
    refine lv_iload_n hx hb dX5_lessBehind_20 rfl (lv_at hl 1 rfl) ?_
    refine lv_iconst (v := 1) hx hb dX5_lessBehind_21 (by decide) ?_
    refine lv_iadd hx hb dX5_lessBehind_22 ?_
    refine lv_istore_n (lv' := [(2, .int (x1 + 1)), (0, .ref (ad 0)), (1, .int x1)]) hx hb dX5_lessBehind_23 rfl hl (by decide) rfl (fun ls hl => ?_)
    obtain ⟨z24_15, hz24_15, hd⟩ := bp_e hd
    refine K24 F14 x1 FU (x1 + 1) z24_15 hz24_15 _ _ _ hW (lv_sub hl [1, 2, 0] rfl) (fun H locs ls e24 hW hl => ?_) (fun H locs ls e24 hW hl => ?_)
    · replace hd := if_t e24 (hd)
      refine lv_iload_n hx hb dX5_lessBehind_45 rfl (lv_at hl 0 rfl) ?_
      obtain ⟨rfl, rfl⟩ := Prod.mk.inj (Option.some.inj hd)
      exact hQ _ _ _ _ rfl hW dX5_lessBehind_46
    · replace hd := if_f (by rw [e24]; decide) hd
      refine lv_iconst (v := (-1)) hx hb dX5_lessBehind_53 (by decide) ?_
      obtain ⟨rfl, rfl⟩ := Prod.mk.inj (Option.some.inj hd)
      exact hQ _ _ _ _ rfl hW dX5_lessBehind_54
  · replace hd := if_t c15 hd
    refine lv_iconst (v := 0) hx hb dX5_lessBehind_18 (by decide) ?_
    obtain ⟨rfl, rfl⟩ := Prod.mk.inj (Option.some.inj hd)
    exact hQ _ _ _ _ rfl hW dX5_lessBehind_19
abbrev rmX5_rules : Room := { frames := 3, cells := 0, slots := 0, locals := 62 }
set_option maxRecDepth 100000 in
set_option maxHeartbeats 4000000 in
theorem kX5_rules (l : Launch) (Dd : va_G) (Y : yT) (ad : Nat → Nat) (F : gF) (x1 : Int32) (r : Int32) (F' : gF) (hd : dnX5_rules F x1 = some (r, F')) : MG l yX5_rules wsX5_rules rmX5_rules Dd Y [.ref (ad 0), .int x1] (WM Y ad F) (WM Y ad F') (some (.int r)) := by
  refine MGi (cc := cX5_rules) (maxL := 4) (ty := .int) (by decide) rfl (Nat.le_of_ble_eq_true rfl) (fun {p e s m args below meth c A} ls Q X hW hl hQ => ?_)
  have hx := X.x
  have hb := X.b
  have hl : lv_has ls 4 [(0, .ref (ad 0)), (1, .int x1)] := hl
  have hinX5 : ∀ w ∈ wsX50, w ∈ wsX5_rules := fun w h => List.mem_cons_of_mem _ (List.mem_append_right _ h)
  unfold dnX5_rules at hd
  have K24 : ∀ (F : gF) (x1 : Int32) (x3 : Int32) (n : Nat) (x2 : Int32) (z : Nat × Int32), lpX5_rules_24 F x1 x3 n x2 = some z → ∀ (H : Heap) (locs : List Loc) (ls : Array Slot), Wd Dd A s.heap (WM Y ad F) H locs → lv_has ls 4 [(0, .ref (ad 0)), (1, .int x1), (2, .int x2), (3, .int x3)] → (∀ (H : Heap) (locs : List Loc) (ls : Array Slot), z.1 = 0 → Wd Dd A s.heap (WM Y ad F) H locs → lv_has ls 4 [(0, .ref (ad 0)), (1, .int x1), (2, .int z.2), (3, .int x3)] → W p l e rmX5_rules s m args below meth c H locs 0 0 Q (F0 m 51 ls [])) → W p l e rmX5_rules s m args below meth c H locs 0 0 Q (F0 m 24 ls []) := by
    intro F x1 x3 n
    induction n with
    | zero => intro x2 z hd; cases hd
    | succ n ih =>
      intro x2 z hd H locs ls hW hl kx0
      unfold lpX5_rules_24 at hd
      refine lv_iload_n hx hb dX5_rules_24 rfl (lv_at hl 1 rfl) ?_
      refine lv_iload_n hx hb dX5_rules_25 rfl (lv_at hl 2 rfl) ?_
      refine lv_isub hx hb dX5_rules_26 ?_
      refine lv_if_lt (tgt := 51) hx hb dX5_rules_27 (by decide) (fun c1 => ?_) (fun c1 => ?_)
      · replace hd := if_t c1 hd
        cases hd
        exact kx0 _ _ _ rfl hW (lv_sub hl [0, 1, 2, 3] rfl)
      · replace hd := if_f c1 hd
        refine lv_aload_n hx hb dX5_rules_30 rfl (lv_at hl 0 rfl) ?_
        refine lv_iload_n hx hb dX5_rules_31 rfl (lv_at hl 1 rfl) ?_
        refine lv_iload_n hx hb dX5_rules_32 rfl (lv_at hl 2 rfl) ?_
        refine lv_isub hx hb dX5_rules_33 ?_
        obtain ⟨r3, h2, hd⟩ := bp_e hd
        refine cVi_ (rest := []) X (kX5_valueAt l Dd Y ad F (x1 - x2) r3 h2) (cwV 1 X.1.2.2.2.2 gX5_rules_X5_valueAt rfl rfl rfl (by decide +kernel) ⟨Nat.le_of_ble_eq_true rfl, Nat.le_of_ble_eq_true rfl⟩) hW 0 5 rfl rfl rfl rfl hl.1 rfl (Nat.le_of_ble_eq_true rfl) dX5_rules_34 ⟨Nat.zero_le _, Nat.zero_le _⟩ (fun H locs hW => ?_)
        refine lv_aload_n hx hb dX5_rules_37 rfl (lv_at hl 0 rfl) ?_
        refine lv_iload_n hx hb dX5_rules_38 rfl (lv_at hl 1 rfl) ?_
        obtain ⟨r5, h4, hd⟩ := bp_e hd
        refine cVi_ (rest := [.int r3]) X (kX5_valueAt l Dd Y ad F x1 r5 h4) (cwV 1 X.1.2.2.2.2 gX5_rules_X5_valueAt rfl rfl rfl (by decide +kernel) ⟨Nat.le_of_ble_eq_true rfl, Nat.le_of_ble_eq_true rfl⟩) hW 0 5 rfl rfl rfl rfl hl.1 rfl (Nat.le_of_ble_eq_true rfl) dX5_rules_39 ⟨Nat.zero_le _, Nat.zero_le _⟩ (fun H locs hW => ?_)
        refine lv_icmp_le (tgt := 51) hx hb dX5_rules_42 (by decide) (fun c6 => ?_) (fun c6 => ?_)
        · replace hd := if_t c6 hd
          cases hd
          exact kx0 _ _ _ rfl hW (lv_sub hl [0, 1, 2, 3] rfl)
        · replace hd := if_f c6 hd
          refine lv_iinc (v := x2 + 1) (lv' := [(2, .int (x2 + 1)), (0, .ref (ad 0)), (1, .int x1), (3, .int x3)]) hx hb dX5_rules_45 hl (k := 2) rfl rfl (by decide) rfl (fun ls hl => ?_)
          refine lv_goto (tgt := 24) hx hb dX5_rules_48 (by decide) ?_
          exact ih (x2 + 1) z hd _ _ _ hW (lv_sub hl [1, 2, 0, 3] rfl) kx0
  have K51 : ∀ (F : gF) (x1 : Int32) (x2 : Int32) (n : Nat) (x3 : Int32) (z : Nat × Int32), lpX5_rules_51 F x1 x2 n x3 = some z → ∀ (H : Heap) (locs : List Loc) (ls : Array Slot), Wd Dd A s.heap (WM Y ad F) H locs → lv_has ls 4 [(0, .ref (ad 0)), (1, .int x1), (2, .int x2), (3, .int x3)] → (∀ (H : Heap) (locs : List Loc) (ls : Array Slot), z.1 = 0 → Wd Dd A s.heap (WM Y ad F) H locs → lv_has ls 4 [(2, .int x2), (3, .int z.2)] → W p l e rmX5_rules s m args below meth c H locs 0 0 Q (F0 m 82 ls [])) → W p l e rmX5_rules s m args below meth c H locs 0 0 Q (F0 m 51 ls []) := by
    intro F x1 x2 n
    induction n with
    | zero => intro x3 z hd; cases hd
    | succ n ih =>
      intro x3 z hd H locs ls hW hl kx0
      unfold lpX5_rules_51 at hd
      refine lv_iload_n hx hb dX5_rules_51 rfl (lv_at hl 1 rfl) ?_
      refine lv_iload_n hx hb dX5_rules_52 rfl (lv_at hl 3 rfl) ?_
      refine lv_iadd hx hb dX5_rules_53 ?_
      refine lv_aload_n hx hb dX5_rules_54 rfl (lv_at hl 0 rfl) ?_
      obtain ⟨r8, h7, hd⟩ := bp_e hd
      refine cVi_ (rest := [.int (x1 + x3)]) X (kX5_size l Dd Y ad F r8 h7) (cwV 0 X.1.2.2.2.2 gX5_rules_X5_size rfl rfl rfl (by decide +kernel) ⟨Nat.le_of_ble_eq_true rfl, Nat.le_of_ble_eq_true rfl⟩) hW 0 5 rfl rfl rfl rfl hl.1 rfl (Nat.le_of_ble_eq_true rfl) dX5_rules_55 ⟨Nat.zero_le _, Nat.zero_le _⟩ (fun H locs hW => ?_)
      refine lv_icmp_ge (tgt := 82) hx hb dX5_rules_58 (by decide) (fun c9 => ?_) (fun c9 => ?_)
      · replace hd := if_t c9 hd
        cases hd
        exact kx0 _ _ _ rfl hW (lv_sub hl [2, 3] rfl)
      · replace hd := if_f c9 hd
        refine lv_aload_n hx hb dX5_rules_61 rfl (lv_at hl 0 rfl) ?_
        refine lv_iload_n hx hb dX5_rules_62 rfl (lv_at hl 1 rfl) ?_
        refine lv_iload_n hx hb dX5_rules_63 rfl (lv_at hl 3 rfl) ?_
        refine lv_iadd hx hb dX5_rules_64 ?_
        obtain ⟨r11, h10, hd⟩ := bp_e hd
        refine cVi_ (rest := []) X (kX5_valueAt l Dd Y ad F (x1 + x3) r11 h10) (cwV 1 X.1.2.2.2.2 gX5_rules_X5_valueAt rfl rfl rfl (by decide +kernel) ⟨Nat.le_of_ble_eq_true rfl, Nat.le_of_ble_eq_true rfl⟩) hW 0 5 rfl rfl rfl rfl hl.1 rfl (Nat.le_of_ble_eq_true rfl) dX5_rules_65 ⟨Nat.zero_le _, Nat.zero_le _⟩ (fun H locs hW => ?_)
        refine lv_aload_n hx hb dX5_rules_68 rfl (lv_at hl 0 rfl) ?_
        refine lv_iload_n hx hb dX5_rules_69 rfl (lv_at hl 1 rfl) ?_
        obtain ⟨r13, h12, hd⟩ := bp_e hd
        refine cVi_ (rest := [.int r11]) X (kX5_valueAt l Dd Y ad F x1 r13 h12) (cwV 1 X.1.2.2.2.2 gX5_rules_X5_valueAt rfl rfl rfl (by decide +kernel) ⟨Nat.le_of_ble_eq_true rfl, Nat.le_of_ble_eq_true rfl⟩) hW 0 5 rfl rfl rfl rfl hl.1 rfl (Nat.le_of_ble_eq_true rfl) dX5_rules_70 ⟨Nat.zero_le _, Nat.zero_le _⟩ (fun H locs hW => ?_)
        refine lv_icmp_lt (tgt := 82) hx hb dX5_rules_73 (by decide) (fun c14 => ?_) (fun c14 => ?_)
        · replace hd := if_t c14 hd
          cases hd
          exact kx0 _ _ _ rfl hW (lv_sub hl [2, 3] rfl)
        · replace hd := if_f c14 hd
          refine lv_iinc (v := x3 + 1) (lv' := [(3, .int (x3 + 1)), (0, .ref (ad 0)), (1, .int x1), (2, .int x2)]) hx hb dX5_rules_76 hl (k := 3) rfl rfl (by decide) rfl (fun ls hl => ?_)
          refine lv_goto (tgt := 51) hx hb dX5_rules_79 (by decide) ?_
          exact ih (x3 + 1) z hd _ _ _ hW (lv_sub hl [1, 2, 3, 0] rfl) kx0
  refine lv_aload_n hx hb dX5_rules_0 rfl (lv_at hl 0 rfl) ?_
  refine lv_iconst (v := 0) hx hb dX5_rules_1 (by decide) ?_
  obtain ⟨F15, eF15, hd⟩ := bw_e hd
  refine p_ (ty := .int) X hinX5 tyX5 tyX5_ok nmX5 hW 0 rfl rfl 0 (by decide) 1 rfl rfl rfl (by decide +kernel) rfl rfl (Nat.le_of_ble_eq_true rfl) dX5_rules_2 (ws' := (WM Y ad F15)) (by rw [eF15]; rfl) (fun H locs hW => ?_)
  refine lv_aload_n hx hb dX5_rules_5 rfl (lv_at hl 0 rfl) ?_
  refine lv_aload_n hx hb dX5_rules_6 rfl (lv_at hl 0 rfl) ?_
  refine lv_iload_n hx hb dX5_rules_7 rfl (lv_at hl 1 rfl) ?_
  obtain ⟨r17, h16, hd⟩ := bp_e hd
  refine cVi_ (rest := [.ref (ad 0)]) X (kX5_isPlace l Dd Y ad F15 x1 r17 h16) (cwV 1 X.1.2.2.2.2 gX5_rules_X5_isPlace rfl rfl rfl (by decide +kernel) ⟨Nat.le_of_ble_eq_true rfl, Nat.le_of_ble_eq_true rfl⟩) hW 0 5 rfl rfl rfl rfl hl.1 rfl (Nat.le_of_ble_eq_true rfl) dX5_rules_8 ⟨Nat.zero_le _, Nat.zero_le _⟩ (fun H locs hW => ?_)
  refine lv_iconst (v := 1) hx hb dX5_rules_11 (by decide) ?_
  obtain ⟨r19, F20, h18, hd⟩ := bs_e hd
  refine cVi_ (rest := []) X (kX5_right l Dd Y ad F15 r17 1 r19 F20 h18) (cwV 2 X.1.2.2.2.2 gX5_rules_X5_right rfl rfl rfl (by decide +kernel) ⟨Nat.le_of_ble_eq_true rfl, Nat.le_of_ble_eq_true rfl⟩) hW 0 5 rfl rfl rfl rfl hl.1 rfl (Nat.le_of_ble_eq_true rfl) dX5_rules_12 ⟨Nat.zero_le _, Nat.zero_le _⟩ (fun H locs hW => ?_)
  refine lv_if_ne (tgt := 20) hx hb dX5_rules_15 (by decide) (fun c21 => ?_) (fun c21 => ?_)
  · replace hd := if_f c21 hd
    refine lv_iconst (v := 1) hx hb dX5_rules_20 (by decide) ?_
    refine lv_istore_n (lv' := [(2, .int 1), (0, .ref (ad 0)), (1, .int x1)]) hx hb dX5_rules_21 rfl hl (by decide) rfl (fun ls hl => ?_)
    refine lv_iconst (v := 1) hx hb dX5_rules_22 (by decide) ?_
    refine lv_istore_n (lv' := [(3, .int 1), (2, .int 1), (0, .ref (ad 0)), (1, .int x1)]) hx hb dX5_rules_23 rfl hl (by decide) rfl (fun ls hl => ?_)
    obtain ⟨z24_21, hz24_21, hd⟩ := bp_e hd
    refine K24 F20 x1 1 FU 1 z24_21 hz24_21 _ _ _ hW (lv_sub hl [2, 3, 1, 0] rfl) (fun H locs ls e24 hW hl => ?_)
    obtain ⟨z51_22, hz51_22, hd⟩ := bp_e hd
    refine K51 F20 x1 z24_21.2 FU 1 z51_22 hz51_22 _ _ _ hW (lv_sub hl [0, 1, 2, 3] rfl) (fun H locs ls e51 hW hl => ?_)
    refine lv_iload_n hx hb dX5_rules_82 rfl (lv_at hl 0 rfl) ?_
    refine lv_iload_n hx hb dX5_rules_83 rfl (lv_at hl 1 rfl) ?_
    refine lv_imul hx hb dX5_rules_84 ?_
    obtain ⟨rfl, rfl⟩ := Prod.mk.inj (Option.some.inj hd)
    exact hQ _ _ _ _ rfl hW dX5_rules_85
  · replace hd := if_t c21 hd
    refine lv_iconst (v := 0) hx hb dX5_rules_18 (by decide) ?_
    obtain ⟨rfl, rfl⟩ := Prod.mk.inj (Option.some.inj hd)
    exact hQ _ _ _ _ rfl hW dX5_rules_19
abbrev rmX5_sum : Room := { frames := 4, cells := 0, slots := 0, locals := 84 }
set_option maxRecDepth 100000 in
set_option maxHeartbeats 4000000 in
theorem kX5_sum (l : Launch) (Dd : va_G) (Y : yT) (ad : Nat → Nat) (F : gF) (x1 : Int32) (x2 : Int32) (r : Int32) (F' : gF) (hd : dnX5_sum F x1 x2 = some (r, F')) : MG l yX5_sum wsX5_sum rmX5_sum Dd Y [.ref (ad 0), .int x1, .int x2] (WM Y ad F) (WM Y ad F') (some (.int r)) := by
  refine MGi (cc := cX5_sum) (maxL := 5) (ty := .int) (by decide) rfl (Nat.le_of_ble_eq_true rfl) (fun {p e s m args below meth c A} ls Q X hW hl hQ => ?_)
  have hx := X.x
  have hb := X.b
  have hl : lv_has ls 5 [(0, .ref (ad 0)), (1, .int x1), (2, .int x2)] := hl
  have hinX5 : ∀ w ∈ wsX50, w ∈ wsX5_sum := fun w h => List.mem_cons_of_mem _ (List.mem_append_right _ h)
  unfold dnX5_sum at hd
  have K21 : ∀ (F : gF) (x2 : Int32) (n : Nat) (x3 : Int32) (x4 : Int32) (z : Nat × Int32), lpX5_sum_21 F x2 n x3 x4 = some z → ∀ (H : Heap) (locs : List Loc) (ls : Array Slot), Wd Dd A s.heap (WM Y ad F) H locs → lv_has ls 5 [(0, .ref (ad 0)), (2, .int x2), (3, .int x3), (4, .int x4)] → (∀ (H : Heap) (locs : List Loc) (ls : Array Slot), z.1 = 0 → Wd Dd A s.heap (WM Y ad F) H locs → lv_has ls 5 [(3, .int z.2)] → W p l e rmX5_sum s m args below meth c H locs 0 0 Q (F0 m 42 ls [])) → W p l e rmX5_sum s m args below meth c H locs 0 0 Q (F0 m 21 ls []) := by
    intro F x2 n
    induction n with
    | zero => intro x3 x4 z hd; cases hd
    | succ n ih =>
      intro x3 x4 z hd H locs ls hW hl kx0
      unfold lpX5_sum_21 at hd
      refine lv_iload hx hb dX5_sum_21 (lv_at hl 3 rfl) ?_
      refine lv_iload_n hx hb dX5_sum_23 rfl (lv_at hl 1 rfl) ?_
      refine lv_icmp_gt (tgt := 42) hx hb dX5_sum_24 (by decide) (fun c1 => ?_) (fun c1 => ?_)
      · replace hd := if_t c1 hd
        cases hd
        exact kx0 _ _ _ rfl hW (lv_sub hl [2] rfl)
      · replace hd := if_f c1 hd
        refine lv_iload_n hx hb dX5_sum_27 rfl (lv_at hl 2 rfl) ?_
        refine lv_aload_n hx hb dX5_sum_28 rfl (lv_at hl 0 rfl) ?_
        refine lv_iload hx hb dX5_sum_29 (lv_at hl 3 rfl) ?_
        obtain ⟨r3, h2, hd⟩ := bp_e hd
        refine cVi_ (rest := [.int x3]) X (kX5_valueAt l Dd Y ad F x4 r3 h2) (cwV 1 X.1.2.2.2.2 gX5_sum_X5_valueAt rfl rfl rfl (by decide +kernel) ⟨Nat.le_of_ble_eq_true rfl, Nat.le_of_ble_eq_true rfl⟩) hW 0 5 rfl rfl rfl rfl hl.1 rfl (Nat.le_of_ble_eq_true rfl) dX5_sum_31 ⟨Nat.zero_le _, Nat.zero_le _⟩ (fun H locs hW => ?_)
        refine lv_iadd hx hb dX5_sum_34 ?_
        refine lv_istore_n (lv' := [(3, .int (x3 + r3)), (0, .ref (ad 0)), (2, .int x2), (4, .int x4)]) hx hb dX5_sum_35 rfl hl (by decide) rfl (fun ls hl => ?_)
        refine lv_iinc (v := x4 + 1) (lv' := [(4, .int (x4 + 1)), (3, .int (x3 + r3)), (0, .ref (ad 0)), (2, .int x2)]) hx hb dX5_sum_36 hl (k := 3) rfl rfl (by decide) rfl (fun ls hl => ?_)
        refine lv_goto (tgt := 21) hx hb dX5_sum_39 (by decide) ?_
        exact ih (x3 + r3) (x4 + 1) z hd _ _ _ hW (lv_sub hl [2, 3, 1, 0] rfl) kx0
  refine lv_aload_n hx hb dX5_sum_0 rfl (lv_at hl 0 rfl) ?_
  refine lv_iconst (v := 0) hx hb dX5_sum_1 (by decide) ?_
  obtain ⟨F4, eF4, hd⟩ := bw_e hd
  refine p_ (ty := .int) X hinX5 tyX5 tyX5_ok nmX5 hW 0 rfl rfl 0 (by decide) 1 rfl rfl rfl (by decide +kernel) rfl rfl (Nat.le_of_ble_eq_true rfl) dX5_sum_2 (ws' := (WM Y ad F4)) (by rw [eF4]; rfl) (fun H locs hW => ?_)
  refine lv_aload_n hx hb dX5_sum_5 rfl (lv_at hl 0 rfl) ?_
  refine lv_iload_n hx hb dX5_sum_6 rfl (lv_at hl 1 rfl) ?_
  refine lv_iload_n hx hb dX5_sum_7 rfl (lv_at hl 2 rfl) ?_
  obtain ⟨r6, F7, h5, hd⟩ := bs_e hd
  refine cVi_ (rest := []) X (kX5_isStretch l Dd Y ad F4 x1 x2 r6 F7 h5) (cwV 2 X.1.2.2.2.2 gX5_sum_X5_isStretch rfl rfl rfl (by decide +kernel) ⟨Nat.le_of_ble_eq_true rfl, Nat.le_of_ble_eq_true rfl⟩) hW 0 5 rfl rfl rfl rfl hl.1 rfl (Nat.le_of_ble_eq_true rfl) dX5_sum_8 ⟨Nat.zero_le _, Nat.zero_le _⟩ (fun H locs hW => ?_)
  refine lv_if_ne (tgt := 16) hx hb dX5_sum_11 (by decide) (fun c8 => ?_) (fun c8 => ?_)
  · replace hd := if_f c8 hd
    refine lv_iconst (v := 0) hx hb dX5_sum_16 (by decide) ?_
    refine lv_istore_n (lv' := [(3, .int 0), (0, .ref (ad 0)), (1, .int x1), (2, .int x2)]) hx hb dX5_sum_17 rfl hl (by decide) rfl (fun ls hl => ?_)
    refine lv_iload_n hx hb dX5_sum_18 rfl (lv_at hl 2 rfl) ?_
    refine lv_istore (lv' := [(4, .int x1), (3, .int 0), (0, .ref (ad 0)), (1, .int x1), (2, .int x2)]) hx hb dX5_sum_19 hl (by decide) rfl (fun ls hl => ?_)
    obtain ⟨z21_8, hz21_8, hd⟩ := bp_e hd
    refine K21 F7 x2 FU 0 x1 z21_8 hz21_8 _ _ _ hW (lv_sub hl [2, 4, 1, 0] rfl) (fun H locs ls e21 hW hl => ?_)
    refine lv_iload_n hx hb dX5_sum_42 rfl (lv_at hl 0 rfl) ?_
    obtain ⟨rfl, rfl⟩ := Prod.mk.inj (Option.some.inj hd)
    exact hQ _ _ _ _ rfl hW dX5_sum_43
  · replace hd := if_t c8 hd
    refine lv_iconst (v := 0) hx hb dX5_sum_14 (by decide) ?_
    obtain ⟨rfl, rfl⟩ := Prod.mk.inj (Option.some.inj hd)
    exact hQ _ _ _ _ rfl hW dX5_sum_15
abbrev rmX5_isKept : Room := { frames := 1, cells := 0, slots := 0, locals := 22 }
set_option maxRecDepth 100000 in
set_option maxHeartbeats 4000000 in
theorem kX5_isKept (l : Launch) (Dd : va_G) (Y : yT) (ad : Nat → Nat) (F : gF) (x1 : Int32) (r : Int32) (hd : dnX5_isKept F x1 = some r) : MG l yX5_isKept wsX5_isKept rmX5_isKept Dd Y [.ref (ad 0), .int x1] (WM Y ad F) (WM Y ad F) (some (.int r)) := by
  refine MGi (cc := cX5_isKept) (maxL := 2) (ty := .boolean) (by decide) rfl (Nat.le_of_ble_eq_true rfl) (fun {p e s m args below meth c A} ls Q X hW hl hQ => ?_)
  have hx := X.x
  have hb := X.b
  have hl : lv_has ls 2 [(0, .ref (ad 0)), (1, .int x1)] := hl
  unfold dnX5_isKept at hd
  refine lv_iload_n hx hb dX5_isKept_0 rfl (lv_at hl 1 rfl) ?_
  refine lv_iconst (v := 0) hx hb dX5_isKept_1 (by decide) ?_
  refine lv_aload_n hx hb dX5_isKept_2 rfl (lv_at hl 0 rfl) ?_
  refine lv_bipush (v := 6) hx hb dX5_isKept_3 (by decide) ?_
  obtain ⟨r2, h1, hd⟩ := bp_e hd
  refine cVi_ (rest := [.int 0, .int x1]) X (kX5_get l Dd Y ad F 6 r2 h1) (cwV 1 X.1.2.2.2.2 gX5_isKept_X5_get rfl rfl rfl (by decide +kernel) ⟨Nat.le_of_ble_eq_true rfl, Nat.le_of_ble_eq_true rfl⟩) hW 0 5 rfl rfl rfl rfl hl.1 rfl (Nat.le_of_ble_eq_true rfl) dX5_isKept_5 ⟨Nat.zero_le _, Nat.zero_le _⟩ (fun H locs hW => ?_)
  refine lv_iconst (v := 1) hx hb dX5_isKept_8 (by decide) ?_
  refine lv_isub hx hb dX5_isKept_9 ?_
  obtain ⟨r4, h3, hd⟩ := bp_e hd
  refine cSi_ (rest := []) X (kX5_isIn l Dd Y x1 0 (r2 - 1) r4 h3) (va_cwS 3 X.1.2.2.2.2 gX5_isKept_X5_isIn rfl rfl rfl (by decide +kernel) ⟨Nat.le_of_ble_eq_true rfl, Nat.le_of_ble_eq_true rfl⟩) hW rfl hl.1 rfl (Nat.le_of_ble_eq_true rfl) dX5_isKept_10 ⟨Nat.zero_le _, Nat.zero_le _⟩ (fun H locs hW => ?_)
  obtain ⟨hz5, hd⟩ := rz_e hd
  subst hd
  exact hQ _ _ _ _ (nz_b hz5) hW dX5_isKept_13
abbrev rmX5_kept : Room := { frames := 2, cells := 0, slots := 0, locals := 43 }
set_option maxRecDepth 100000 in
set_option maxHeartbeats 4000000 in
theorem kX5_kept (l : Launch) (Dd : va_G) (Y : yT) (ad : Nat → Nat) (F : gF) (x1 : Int32) (r : Int32) (F' : gF) (hd : dnX5_kept F x1 = some (r, F')) : MG l yX5_kept wsX5_kept rmX5_kept Dd Y [.ref (ad 0), .int x1] (WM Y ad F) (WM Y ad F') (some (.int r)) := by
  refine MGi (cc := cX5_kept) (maxL := 2) (ty := .int) (by decide) rfl (Nat.le_of_ble_eq_true rfl) (fun {p e s m args below meth c A} ls Q X hW hl hQ => ?_)
  have hx := X.x
  have hb := X.b
  have hl : lv_has ls 2 [(0, .ref (ad 0)), (1, .int x1)] := hl
  have hinX5 : ∀ w ∈ wsX50, w ∈ wsX5_kept := fun w h => List.mem_cons_of_mem _ (List.mem_append_right _ h)
  unfold dnX5_kept at hd
  refine lv_aload_n hx hb dX5_kept_0 rfl (lv_at hl 0 rfl) ?_
  refine lv_iconst (v := 0) hx hb dX5_kept_1 (by decide) ?_
  obtain ⟨F1, eF1, hd⟩ := bw_e hd
  refine p_ (ty := .int) X hinX5 tyX5 tyX5_ok nmX5 hW 0 rfl rfl 0 (by decide) 1 rfl rfl rfl (by decide +kernel) rfl rfl (Nat.le_of_ble_eq_true rfl) dX5_kept_2 (ws' := (WM Y ad F1)) (by rw [eF1]; rfl) (fun H locs hW => ?_)
  refine lv_aload_n hx hb dX5_kept_5 rfl (lv_at hl 0 rfl) ?_
  refine lv_aload_n hx hb dX5_kept_6 rfl (lv_at hl 0 rfl) ?_
  refine lv_iload_n hx hb dX5_kept_7 rfl (lv_at hl 1 rfl) ?_
  obtain ⟨r3, h2, hd⟩ := bp_e hd
  refine cVi_ (rest := [.ref (ad 0)]) X (kX5_isKept l Dd Y ad F1 x1 r3 h2) (cwV 1 X.1.2.2.2.2 gX5_kept_X5_isKept rfl rfl rfl (by decide +kernel) ⟨Nat.le_of_ble_eq_true rfl, Nat.le_of_ble_eq_true rfl⟩) hW 0 5 rfl rfl rfl rfl hl.1 rfl (Nat.le_of_ble_eq_true rfl) dX5_kept_8 ⟨Nat.zero_le _, Nat.zero_le _⟩ (fun H locs hW => ?_)
  refine lv_iconst (v := 1) hx hb dX5_kept_11 (by decide) ?_
  obtain ⟨r5, F6, h4, hd⟩ := bs_e hd
  refine cVi_ (rest := []) X (kX5_right l Dd Y ad F1 r3 1 r5 F6 h4) (cwV 2 X.1.2.2.2.2 gX5_kept_X5_right rfl rfl rfl (by decide +kernel) ⟨Nat.le_of_ble_eq_true rfl, Nat.le_of_ble_eq_true rfl⟩) hW 0 5 rfl rfl rfl rfl hl.1 rfl (Nat.le_of_ble_eq_true rfl) dX5_kept_12 ⟨Nat.zero_le _, Nat.zero_le _⟩ (fun H locs hW => ?_)
  refine lv_if_eq (tgt := 35) hx hb dX5_kept_15 (by decide) (fun c7 => ?_) (fun c7 => ?_)
  · replace hd := if_t c7 hd
    refine lv_iconst (v := 0) hx hb dX5_kept_35 (by decide) ?_
    obtain ⟨rfl, rfl⟩ := Prod.mk.inj (Option.some.inj hd)
    exact hQ _ _ _ _ rfl hW dX5_kept_36
  · replace hd := if_f c7 hd
    refine lv_bipush (v := 100) hx hb dX5_kept_18 (by decide) ?_
    refine lv_aload_n hx hb dX5_kept_20 rfl (lv_at hl 0 rfl) ?_
    refine lv_iload_n hx hb dX5_kept_21 rfl (lv_at hl 1 rfl) ?_
    obtain ⟨r9, h8, hd⟩ := bp_e hd
    refine cVi_ (rest := [.int 100]) X (kX5_keptFrom l Dd Y ad F6 x1 r9 h8) (cwV 1 X.1.2.2.2.2 gX5_kept_X5_keptFrom rfl rfl rfl (by decide +kernel) ⟨Nat.le_of_ble_eq_true rfl, Nat.le_of_ble_eq_true rfl⟩) hW 0 5 rfl rfl rfl rfl hl.1 rfl (Nat.le_of_ble_eq_true rfl) dX5_kept_22 ⟨Nat.zero_le _, Nat.zero_le _⟩ (fun H locs hW => ?_)
    refine lv_imul hx hb dX5_kept_25 ?_
    refine lv_aload_n hx hb dX5_kept_26 rfl (lv_at hl 0 rfl) ?_
    refine lv_iload_n hx hb dX5_kept_27 rfl (lv_at hl 1 rfl) ?_
    obtain ⟨r11, h10, hd⟩ := bp_e hd
    refine cVi_ (rest := [.int (100 * r9)]) X (kX5_keptTo l Dd Y ad F6 x1 r11 h10) (cwV 1 X.1.2.2.2.2 gX5_kept_X5_keptTo rfl rfl rfl (by decide +kernel) ⟨Nat.le_of_ble_eq_true rfl, Nat.le_of_ble_eq_true rfl⟩) hW 0 5 rfl rfl rfl rfl hl.1 rfl (Nat.le_of_ble_eq_true rfl) dX5_kept_28 ⟨Nat.zero_le _, Nat.zero_le _⟩ (fun H locs hW => ?_)
    refine lv_iadd hx hb dX5_kept_31 ?_
    refine lv_goto (tgt := 36) hx hb dX5_kept_32 (by decide) ?_
    obtain ⟨rfl, rfl⟩ := Prod.mk.inj (Option.some.inj hd)
    exact hQ _ _ _ _ rfl hW dX5_kept_36
abbrev rmX5_keptLooks : Room := { frames := 5, cells := 0, slots := 0, locals := 113 }
set_option maxRecDepth 100000 in
set_option maxHeartbeats 4000000 in
theorem kX5_keptLooks (l : Launch) (Dd : va_G) (Y : yT) (ad : Nat → Nat) (F : gF) (r : Int32) (hd : dnX5_keptLooks F = some r) : MG l yX5_keptLooks wsX5_keptLooks rmX5_keptLooks Dd Y [.ref (ad 0)] (WM Y ad F) (WM Y ad F) (some (.int r)) := by
  refine MGi (cc := cX5_keptLooks) (maxL := 3) (ty := .int) (by decide) rfl (Nat.le_of_ble_eq_true rfl) (fun {p e s m args below meth c A} ls Q X hW hl hQ => ?_)
  have hx := X.x
  have hb := X.b
  have hl : lv_has ls 3 [(0, .ref (ad 0))] := hl
  unfold dnX5_keptLooks at hd
  have K4 : ∀ (F : gF) (n : Nat) (x1 : Int32) (x2 : Int32) (z : Nat × Int32), lpX5_keptLooks_4 F n x1 x2 = some z → ∀ (H : Heap) (locs : List Loc) (ls : Array Slot), Wd Dd A s.heap (WM Y ad F) H locs → lv_has ls 3 [(0, .ref (ad 0)), (1, .int x1), (2, .int x2)] → (∀ (H : Heap) (locs : List Loc) (ls : Array Slot), z.1 = 0 → Wd Dd A s.heap (WM Y ad F) H locs → lv_has ls 3 [(1, .int z.2)] → W p l e rmX5_keptLooks s m args below meth c H locs 0 0 Q (F0 m 37 ls [])) → W p l e rmX5_keptLooks s m args below meth c H locs 0 0 Q (F0 m 4 ls []) := by
    intro F n
    induction n with
    | zero => intro x1 x2 z hd; cases hd
    | succ n ih =>
      intro x1 x2 z hd H locs ls hW hl kx0
      unfold lpX5_keptLooks_4 at hd
      refine lv_iload_n hx hb dX5_keptLooks_4 rfl (lv_at hl 2 rfl) ?_
      refine lv_aload_n hx hb dX5_keptLooks_5 rfl (lv_at hl 0 rfl) ?_
      refine lv_bipush (v := 6) hx hb dX5_keptLooks_6 (by decide) ?_
      obtain ⟨r2, h1, hd⟩ := bp_e hd
      refine cVi_ (rest := [.int x2]) X (kX5_get l Dd Y ad F 6 r2 h1) (cwV 1 X.1.2.2.2.2 gX5_keptLooks_X5_get rfl rfl rfl (by decide +kernel) ⟨Nat.le_of_ble_eq_true rfl, Nat.le_of_ble_eq_true rfl⟩) hW 0 5 rfl rfl rfl rfl hl.1 rfl (Nat.le_of_ble_eq_true rfl) dX5_keptLooks_8 ⟨Nat.zero_le _, Nat.zero_le _⟩ (fun H locs hW => ?_)
      refine lv_icmp_ge (tgt := 37) hx hb dX5_keptLooks_11 (by decide) (fun c3 => ?_) (fun c3 => ?_)
      · replace hd := if_t c3 hd
        cases hd
        exact kx0 _ _ _ rfl hW (lv_sub hl [1] rfl)
      · replace hd := if_f c3 hd
        refine lv_iload_n hx hb dX5_keptLooks_14 rfl (lv_at hl 1 rfl) ?_
        refine lv_aload_n hx hb dX5_keptLooks_15 rfl (lv_at hl 0 rfl) ?_
        refine lv_aload_n hx hb dX5_keptLooks_16 rfl (lv_at hl 0 rfl) ?_
        refine lv_iload_n hx hb dX5_keptLooks_17 rfl (lv_at hl 2 rfl) ?_
        obtain ⟨r5, h4, hd⟩ := bp_e hd
        refine cVi_ (rest := [.ref (ad 0), .int x1]) X (kX5_keptFrom l Dd Y ad F x2 r5 h4) (cwV 1 X.1.2.2.2.2 gX5_keptLooks_X5_keptFrom rfl rfl rfl (by decide +kernel) ⟨Nat.le_of_ble_eq_true rfl, Nat.le_of_ble_eq_true rfl⟩) hW 0 5 rfl rfl rfl rfl hl.1 rfl (Nat.le_of_ble_eq_true rfl) dX5_keptLooks_18 ⟨Nat.zero_le _, Nat.zero_le _⟩ (fun H locs hW => ?_)
        refine lv_aload_n hx hb dX5_keptLooks_21 rfl (lv_at hl 0 rfl) ?_
        refine lv_iload_n hx hb dX5_keptLooks_22 rfl (lv_at hl 2 rfl) ?_
        obtain ⟨r7, h6, hd⟩ := bp_e hd
        refine cVi_ (rest := [.int r5, .ref (ad 0), .int x1]) X (kX5_keptTo l Dd Y ad F x2 r7 h6) (cwV 1 X.1.2.2.2.2 gX5_keptLooks_X5_keptTo rfl rfl rfl (by decide +kernel) ⟨Nat.le_of_ble_eq_true rfl, Nat.le_of_ble_eq_true rfl⟩) hW 0 5 rfl rfl rfl rfl hl.1 rfl (Nat.le_of_ble_eq_true rfl) dX5_keptLooks_23 ⟨Nat.zero_le _, Nat.zero_le _⟩ (fun H locs hW => ?_)
        obtain ⟨r9, h8, hd⟩ := bp_e hd
        refine cVi_ (rest := [.int x1]) X (kX5_looksNow l Dd Y ad F r5 r7 r9 h8) (cwV 2 X.1.2.2.2.2 gX5_keptLooks_X5_looksNow rfl rfl rfl (by decide +kernel) ⟨Nat.le_of_ble_eq_true rfl, Nat.le_of_ble_eq_true rfl⟩) hW 0 5 rfl rfl rfl rfl hl.1 rfl (Nat.le_of_ble_eq_true rfl) dX5_keptLooks_26 ⟨Nat.zero_le _, Nat.zero_le _⟩ (fun H locs hW => ?_)
        refine lv_iadd hx hb dX5_keptLooks_29 ?_
        refine lv_istore_n (lv' := [(1, .int (x1 + r9)), (0, .ref (ad 0)), (2, .int x2)]) hx hb dX5_keptLooks_30 rfl hl (by decide) rfl (fun ls hl => ?_)
        refine lv_iinc (v := x2 + 1) (lv' := [(2, .int (x2 + 1)), (1, .int (x1 + r9)), (0, .ref (ad 0))]) hx hb dX5_keptLooks_31 hl (k := 2) rfl rfl (by decide) rfl (fun ls hl => ?_)
        refine lv_goto (tgt := 4) hx hb dX5_keptLooks_34 (by decide) ?_
        exact ih (x1 + r9) (x2 + 1) z hd _ _ _ hW (lv_sub hl [2, 1, 0] rfl) kx0
  refine lv_iconst (v := 0) hx hb dX5_keptLooks_0 (by decide) ?_
  refine lv_istore_n (lv' := [(1, .int 0), (0, .ref (ad 0))]) hx hb dX5_keptLooks_1 rfl hl (by decide) rfl (fun ls hl => ?_)
  refine lv_iconst (v := 0) hx hb dX5_keptLooks_2 (by decide) ?_
  refine lv_istore_n (lv' := [(2, .int 0), (1, .int 0), (0, .ref (ad 0))]) hx hb dX5_keptLooks_3 rfl hl (by decide) rfl (fun ls hl => ?_)
  obtain ⟨z4_9, hz4_9, hd⟩ := bp_e hd
  refine K4 F FU 0 0 z4_9 hz4_9 _ _ _ hW (lv_sub hl [2, 1, 0] rfl) (fun H locs ls e4 hW hl => ?_)
  refine lv_iload_n hx hb dX5_keptLooks_37 rfl (lv_at hl 0 rfl) ?_
  have hd := Option.some.inj hd
  subst hd
  exact hQ _ _ _ _ rfl hW dX5_keptLooks_38
abbrev rmX5_looksOfKept : Room := { frames := 6, cells := 0, slots := 0, locals := 135 }
set_option maxRecDepth 100000 in
set_option maxHeartbeats 4000000 in
theorem kX5_looksOfKept (l : Launch) (Dd : va_G) (Y : yT) (ad : Nat → Nat) (F : gF) (r : Int32) (F' : gF) (hd : dnX5_looksOfKept F = some (r, F')) : MG l yX5_looksOfKept wsX5_looksOfKept rmX5_looksOfKept Dd Y [.ref (ad 0)] (WM Y ad F) (WM Y ad F') (some (.int r)) := by
  refine MGi (cc := cX5_looksOfKept) (maxL := 1) (ty := .int) (by decide) rfl (Nat.le_of_ble_eq_true rfl) (fun {p e s m args below meth c A} ls Q X hW hl hQ => ?_)
  have hx := X.x
  have hb := X.b
  have hl : lv_has ls 1 [(0, .ref (ad 0))] := hl
  have hinX5 : ∀ w ∈ wsX50, w ∈ wsX5_looksOfKept := fun w h => List.mem_cons_of_mem _ (List.mem_append_right _ h)
  unfold dnX5_looksOfKept at hd
  refine lv_aload_n hx hb dX5_looksOfKept_0 rfl (lv_at hl 0 rfl) ?_
  refine lv_iconst (v := 0) hx hb dX5_looksOfKept_1 (by decide) ?_
  obtain ⟨F1, eF1, hd⟩ := bw_e hd
  refine p_ (ty := .int) X hinX5 tyX5 tyX5_ok nmX5 hW 0 rfl rfl 0 (by decide) 1 rfl rfl rfl (by decide +kernel) rfl rfl (Nat.le_of_ble_eq_true rfl) dX5_looksOfKept_2 (ws' := (WM Y ad F1)) (by rw [eF1]; rfl) (fun H locs hW => ?_)
  refine lv_aload_n hx hb dX5_looksOfKept_5 rfl (lv_at hl 0 rfl) ?_
  obtain ⟨r3, h2, hd⟩ := bp_e hd
  refine cVi_ (rest := []) X (kX5_keptLooks l Dd Y ad F1 r3 h2) (cwV 0 X.1.2.2.2.2 gX5_looksOfKept_X5_keptLooks rfl rfl rfl (by decide +kernel) ⟨Nat.le_of_ble_eq_true rfl, Nat.le_of_ble_eq_true rfl⟩) hW 0 5 rfl rfl rfl rfl hl.1 rfl (Nat.le_of_ble_eq_true rfl) dX5_looksOfKept_6 ⟨Nat.zero_le _, Nat.zero_le _⟩ (fun H locs hW => ?_)
  obtain ⟨rfl, rfl⟩ := Prod.mk.inj (Option.some.inj hd)
  exact hQ _ _ _ _ rfl hW dX5_looksOfKept_9
abbrev rmX5_costBy : Room := { frames := 6, cells := 0, slots := 0, locals := 136 }
set_option maxRecDepth 100000 in
set_option maxHeartbeats 4000000 in
theorem kX5_costBy (l : Launch) (Dd : va_G) (Y : yT) (ad : Nat → Nat) (F : gF) (x1 : Int32) (x2 : Int32) (r : Int32) (F' : gF) (hd : dnX5_costBy F x1 x2 = some (r, F')) : MG l yX5_costBy wsX5_costBy rmX5_costBy Dd Y [.ref (ad 0), .int x1, .int x2] (WM Y ad F) (WM Y ad F') (some (.int r)) := by
  refine MGi (cc := cX5_costBy) (maxL := 7) (ty := .int) (by decide) rfl (Nat.le_of_ble_eq_true rfl) (fun {p e s m args below meth c A} ls Q X hW hl hQ => ?_)
  have hx := X.x
  have hb := X.b
  have hl : lv_has ls 7 [(0, .ref (ad 0)), (1, .int x1), (2, .int x2)] := hl
  have hinX5 : ∀ w ∈ wsX50, w ∈ wsX5_costBy := fun w h => List.mem_cons_of_mem _ (List.mem_append_right _ h)
  unfold dnX5_costBy at hd
  have K34 : ∀ (x2 : Int32) (n : Nat) (x3 : Int32) (F : gF) (z : Nat × gF), lpX5_costBy_34 x2 n x3 F = some z → ∀ (H : Heap) (locs : List Loc) (ls : Array Slot), Wd Dd A s.heap (WM Y ad F) H locs → lv_has ls 7 [(0, .ref (ad 0)), (2, .int x2), (3, .int x3)] → (∀ (H : Heap) (locs : List Loc) (ls : Array Slot), z.1 = 0 → Wd Dd A s.heap (WM Y ad z.2) H locs → lv_has ls 7 [(0, .ref (ad 0)), (2, .int x2)] → W p l e rmX5_costBy s m args below meth c H locs 0 0 Q (F0 m 55 ls [])) → W p l e rmX5_costBy s m args below meth c H locs 0 0 Q (F0 m 34 ls []) := by
    intro x2 n
    induction n with
    | zero => intro x3 F z hd; cases hd
    | succ n ih =>
      intro x3 F z hd H locs ls hW hl kx0
      unfold lpX5_costBy_34 at hd
      refine lv_iload_n hx hb dX5_costBy_34 rfl (lv_at hl 2 rfl) ?_
      refine lv_bipush (v := 40) hx hb dX5_costBy_35 (by decide) ?_
      refine lv_icmp_ge (tgt := 55) hx hb dX5_costBy_37 (by decide) (fun c1 => ?_) (fun c1 => ?_)
      · replace hd := if_t c1 hd
        cases hd
        exact kx0 _ _ _ rfl hW (lv_sub hl [0, 1] rfl)
      · replace hd := if_f c1 hd
        refine lv_aload_n hx hb dX5_costBy_40 rfl (lv_at hl 0 rfl) ?_
        refine lv_bipush (v := 52) hx hb dX5_costBy_41 (by decide) ?_
        refine lv_iload_n hx hb dX5_costBy_43 rfl (lv_at hl 2 rfl) ?_
        refine lv_iadd hx hb dX5_costBy_44 ?_
        refine lv_iconst (v := 0) hx hb dX5_costBy_45 (by decide) ?_
        obtain ⟨F3, h2, hd⟩ := bp_e hd
        refine cVv_ (rest := []) X (kX5_put0 l Dd Y ad F (52 + x3) 0 F3 h2) (cwV 2 X.1.2.2.2.2 gX5_costBy_X5_put0 rfl rfl rfl (by decide +kernel) ⟨Nat.le_of_ble_eq_true rfl, Nat.le_of_ble_eq_true rfl⟩) hW 0 5 rfl rfl rfl rfl hl.1 rfl (Nat.le_of_ble_eq_true rfl) dX5_costBy_46 ⟨Nat.zero_le _, Nat.zero_le _⟩ (fun H locs hW => ?_)
        refine lv_iinc (v := x3 + 1) (lv' := [(3, .int (x3 + 1)), (0, .ref (ad 0)), (2, .int x2)]) hx hb dX5_costBy_49 hl (k := 2) rfl rfl (by decide) rfl (fun ls hl => ?_)
        refine lv_goto (tgt := 34) hx hb dX5_costBy_52 (by decide) ?_
        exact ih (x3 + 1) F3 z hd _ _ _ hW (lv_sub hl [1, 2, 0] rfl) kx0
  have K2 : ∀ (x1 : Int32) (x2 : Int32) (n : Nat) (x3 : Int32) (F : gF) (z : Nat × gF), lpX5_costBy_2 x1 x2 n x3 F = some z → ∀ (H : Heap) (locs : List Loc) (ls : Array Slot), Wd Dd A s.heap (WM Y ad F) H locs → lv_has ls 7 [(0, .ref (ad 0)), (1, .int x1), (2, .int x2), (3, .int x3)] → (∀ (H : Heap) (locs : List Loc) (ls : Array Slot), z.1 = 0 → Wd Dd A s.heap (WM Y ad z.2) H locs → lv_has ls 7 [(0, .ref (ad 0)), (1, .int x1), (2, .int x2)] → W p l e rmX5_costBy s m args below meth c H locs 0 0 Q (F0 m 26 ls [])) → W p l e rmX5_costBy s m args below meth c H locs 0 0 Q (F0 m 2 ls []) := by
    intro x1 x2 n
    induction n with
    | zero => intro x3 F z hd; cases hd
    | succ n ih =>
      intro x3 F z hd H locs ls hW hl kx0
      unfold lpX5_costBy_2 at hd
      refine lv_iload_n hx hb dX5_costBy_2 rfl (lv_at hl 3 rfl) ?_
      refine lv_sipush (v := 310) hx hb dX5_costBy_3 (by decide) ?_
      refine lv_icmp_ge (tgt := 26) hx hb dX5_costBy_6 (by decide) (fun c4 => ?_) (fun c4 => ?_)
      · replace hd := if_t c4 hd
        cases hd
        exact kx0 _ _ _ rfl hW (lv_sub hl [0, 1, 2] rfl)
      · replace hd := if_f c4 hd
        refine lv_aload_n hx hb dX5_costBy_9 rfl (lv_at hl 0 rfl) ?_
        refine g_ X hinX5 hW 0 rfl rfl 3 (by decide) 1 rfl rfl rfl dX5_costBy_10 ?_
        refine lv_iload_n hx hb dX5_costBy_13 rfl (lv_at hl 3 rfl) ?_
        refine lv_aload_n hx hb dX5_costBy_14 rfl (lv_at hl 0 rfl) ?_
        refine lv_iload_n hx hb dX5_costBy_15 rfl (lv_at hl 3 rfl) ?_
        obtain ⟨r6, h5, hd⟩ := bp_e hd
        refine cVi_ (rest := [.int x3, .ref (ad 3)]) X (kX5_get l Dd Y ad F x3 r6 h5) (cwV 1 X.1.2.2.2.2 gX5_costBy_X5_get rfl rfl rfl (by decide +kernel) ⟨Nat.le_of_ble_eq_true rfl, Nat.le_of_ble_eq_true rfl⟩) hW 0 5 rfl rfl rfl rfl hl.1 rfl (Nat.le_of_ble_eq_true rfl) dX5_costBy_16 ⟨Nat.zero_le _, Nat.zero_le _⟩ (fun H locs hW => ?_)
        obtain ⟨hi7, hd⟩ := wi_e hd
        obtain ⟨F8, eF8, hd⟩ := bw_e hd
        refine s_ X hW 3 rfl rfl hi7 dX5_costBy_19 (ws' := (WM Y ad F8)) (by rw [eF8]; rfl) (fun H locs hW => ?_)
        refine lv_iinc (v := x3 + 1) (lv' := [(3, .int (x3 + 1)), (0, .ref (ad 0)), (1, .int x1), (2, .int x2)]) hx hb dX5_costBy_20 hl (k := 3) rfl rfl (by decide) rfl (fun ls hl => ?_)
        refine lv_goto (tgt := 2) hx hb dX5_costBy_23 (by decide) ?_
        exact ih (x3 + 1) F8 z hd _ _ _ hW (lv_sub hl [1, 2, 3, 0] rfl) kx0
  have K152 : ∀ (x5 : Int32) (n : Nat) (x6 : Int32) (F : gF) (z : Nat × gF), lpX5_costBy_152 x5 n x6 F = some z → ∀ (H : Heap) (locs : List Loc) (ls : Array Slot), Wd Dd A s.heap (WM Y ad F) H locs → lv_has ls 7 [(0, .ref (ad 0)), (5, .int x5), (6, .int x6)] → (∀ (H : Heap) (locs : List Loc) (ls : Array Slot), z.1 = 0 → Wd Dd A s.heap (WM Y ad z.2) H locs → lv_has ls 7 [(5, .int x5)] → W p l e rmX5_costBy s m args below meth c H locs 0 0 Q (F0 m 179 ls [])) → W p l e rmX5_costBy s m args below meth c H locs 0 0 Q (F0 m 152 ls []) := by
    intro x5 n
    induction n with
    | zero => intro x6 F z hd; cases hd
    | succ n ih =>
      intro x6 F z hd H locs ls hW hl kx0
      unfold lpX5_costBy_152 at hd
      refine lv_iload hx hb dX5_costBy_152 (lv_at hl 2 rfl) ?_
      refine lv_sipush (v := 310) hx hb dX5_costBy_154 (by decide) ?_
      refine lv_icmp_ge (tgt := 179) hx hb dX5_costBy_157 (by decide) (fun c10 => ?_) (fun c10 => ?_)
      · replace hd := if_t c10 hd
        cases hd
        exact kx0 _ _ _ rfl hW (lv_sub hl [1] rfl)
      · replace hd := if_f c10 hd
        refine lv_aload_n hx hb dX5_costBy_160 rfl (lv_at hl 0 rfl) ?_
        refine lv_iload hx hb dX5_costBy_161 (lv_at hl 2 rfl) ?_
        refine lv_aload_n hx hb dX5_costBy_163 rfl (lv_at hl 0 rfl) ?_
        refine g_ X hinX5 hW 0 rfl rfl 3 (by decide) 1 rfl rfl rfl dX5_costBy_164 ?_
        refine lv_iload hx hb dX5_costBy_167 (lv_at hl 2 rfl) ?_
        obtain ⟨hi11, hd⟩ := ra_e hd
        refine a_ X hW 3 rfl rfl hi11 dX5_costBy_169 ?_
        generalize (F 3) x6.toNatClampNeg = v12 at hd ⊢
        obtain ⟨F14, h13, hd⟩ := bp_e hd
        refine cVv_ (rest := []) X (kX5_put0 l Dd Y ad F x6 v12 F14 h13) (cwV 2 X.1.2.2.2.2 gX5_costBy_X5_put0 rfl rfl rfl (by decide +kernel) ⟨Nat.le_of_ble_eq_true rfl, Nat.le_of_ble_eq_true rfl⟩) hW 0 5 rfl rfl rfl rfl hl.1 rfl (Nat.le_of_ble_eq_true rfl) dX5_costBy_170 ⟨Nat.zero_le _, Nat.zero_le _⟩ (fun H locs hW => ?_)
        refine lv_iinc (v := x6 + 1) (lv' := [(6, .int (x6 + 1)), (0, .ref (ad 0)), (5, .int x5)]) hx hb dX5_costBy_173 hl (k := 2) rfl rfl (by decide) rfl (fun ls hl => ?_)
        refine lv_goto (tgt := 152) hx hb dX5_costBy_176 (by decide) ?_
        exact ih (x6 + 1) F14 z hd _ _ _ hW (lv_sub hl [1, 2, 0] rfl) kx0
  have K84 : ∀ (x3 : Int32) (n : Nat) (x4 : Int32) (x5 : Int32) (F : gF) (z : Nat × gF), lpX5_costBy_84 x3 n x4 x5 F = some z → ∀ (H : Heap) (locs : List Loc) (ls : Array Slot), Wd Dd A s.heap (WM Y ad F) H locs → lv_has ls 7 [(0, .ref (ad 0)), (3, .int x3), (4, .int x4), (5, .int x5)] → (∀ (H : Heap) (locs : List Loc) (ls : Array Slot), z.1 = 0 → Wd Dd A s.heap (WM Y ad z.2) H locs → lv_has ls 7 [(0, .ref (ad 0)), (3, .int x3)] → W p l e rmX5_costBy s m args below meth c H locs 0 0 Q (F0 m 132 ls [])) → W p l e rmX5_costBy s m args below meth c H locs 0 0 Q (F0 m 84 ls []) := by
    intro x3 n
    induction n with
    | zero => intro x4 x5 F z hd; cases hd
    | succ n ih =>
      intro x4 x5 F z hd H locs ls hW hl kx0
      unfold lpX5_costBy_84 at hd
      refine lv_iload hx hb dX5_costBy_84 (lv_at hl 3 rfl) ?_
      refine lv_aload_n hx hb dX5_costBy_86 rfl (lv_at hl 0 rfl) ?_
      refine lv_bipush (v := 6) hx hb dX5_costBy_87 (by decide) ?_
      obtain ⟨r16, h15, hd⟩ := bp_e hd
      refine cVi_ (rest := [.int x5]) X (kX5_get l Dd Y ad F 6 r16 h15) (cwV 1 X.1.2.2.2.2 gX5_costBy_X5_get rfl rfl rfl (by decide +kernel) ⟨Nat.le_of_ble_eq_true rfl, Nat.le_of_ble_eq_true rfl⟩) hW 0 5 rfl rfl rfl rfl hl.1 rfl (Nat.le_of_ble_eq_true rfl) dX5_costBy_89 ⟨Nat.zero_le _, Nat.zero_le _⟩ (fun H locs hW => ?_)
      refine lv_icmp_ge (tgt := 132) hx hb dX5_costBy_92 (by decide) (fun c17 => ?_) (fun c17 => ?_)
      · replace hd := if_t c17 hd
        cases hd
        exact kx0 _ _ _ rfl hW (lv_sub hl [0, 1] rfl)
      · replace hd := if_f c17 hd
        refine lv_iload hx hb dX5_costBy_95 (lv_at hl 2 rfl) ?_
        refine lv_sipush (v := 999) hx hb dX5_costBy_97 (by decide) ?_
        refine lv_icmp_gt (tgt := 132) hx hb dX5_costBy_100 (by decide) (fun c18 => ?_) (fun c18 => ?_)
        · replace hd := if_t c18 hd
          cases hd
          exact kx0 _ _ _ rfl hW (lv_sub hl [0, 1] rfl)
        · replace hd := if_f c18 hd
          refine lv_iload hx hb dX5_costBy_103 (lv_at hl 2 rfl) ?_
          refine lv_aload_n hx hb dX5_costBy_105 rfl (lv_at hl 0 rfl) ?_
          refine lv_aload_n hx hb dX5_costBy_106 rfl (lv_at hl 0 rfl) ?_
          refine lv_iload hx hb dX5_costBy_107 (lv_at hl 3 rfl) ?_
          obtain ⟨r20, h19, hd⟩ := bp_e hd
          refine cVi_ (rest := [.ref (ad 0), .int x4]) X (kX5_keptFrom l Dd Y ad F x5 r20 h19) (cwV 1 X.1.2.2.2.2 gX5_costBy_X5_keptFrom rfl rfl rfl (by decide +kernel) ⟨Nat.le_of_ble_eq_true rfl, Nat.le_of_ble_eq_true rfl⟩) hW 0 5 rfl rfl rfl rfl hl.1 rfl (Nat.le_of_ble_eq_true rfl) dX5_costBy_109 ⟨Nat.zero_le _, Nat.zero_le _⟩ (fun H locs hW => ?_)
          refine lv_aload_n hx hb dX5_costBy_112 rfl (lv_at hl 0 rfl) ?_
          refine lv_iload hx hb dX5_costBy_113 (lv_at hl 3 rfl) ?_
          obtain ⟨r22, h21, hd⟩ := bp_e hd
          refine cVi_ (rest := [.int r20, .ref (ad 0), .int x4]) X (kX5_keptTo l Dd Y ad F x5 r22 h21) (cwV 1 X.1.2.2.2.2 gX5_costBy_X5_keptTo rfl rfl rfl (by decide +kernel) ⟨Nat.le_of_ble_eq_true rfl, Nat.le_of_ble_eq_true rfl⟩) hW 0 5 rfl rfl rfl rfl hl.1 rfl (Nat.le_of_ble_eq_true rfl) dX5_costBy_115 ⟨Nat.zero_le _, Nat.zero_le _⟩ (fun H locs hW => ?_)
          obtain ⟨r24, F25, h23, hd⟩ := bs_e hd
          refine cVi_ (rest := [.int x4]) X (kX5_asks l Dd Y ad F r20 r22 r24 F25 h23) (cwV 2 X.1.2.2.2.2 gX5_costBy_X5_asks rfl rfl rfl (by decide +kernel) ⟨Nat.le_of_ble_eq_true rfl, Nat.le_of_ble_eq_true rfl⟩) hW 0 5 rfl rfl rfl rfl hl.1 rfl (Nat.le_of_ble_eq_true rfl) dX5_costBy_118 ⟨Nat.zero_le _, Nat.zero_le _⟩ (fun H locs hW => ?_)
          refine min_ X hl.1 2 3 4 5 rfl rfl rfl rfl ⟨Nat.le_of_ble_eq_true rfl, Nat.le_of_ble_eq_true rfl⟩ (Nat.le_of_ble_eq_true rfl) ⟨Nat.zero_le _, Nat.zero_le _⟩ dX5_costBy_121 ?_
          refine lv_istore (lv' := [(4, .int (if r24 < x4 then r24 else x4)), (0, .ref (ad 0)), (3, .int x3), (5, .int x5)]) hx hb dX5_costBy_124 hl (by decide) rfl (fun ls hl => ?_)
          refine lv_iinc (v := x5 + 1) (lv' := [(5, .int (x5 + 1)), (4, .int (if r24 < x4 then r24 else x4)), (0, .ref (ad 0)), (3, .int x3)]) hx hb dX5_costBy_126 hl (k := 3) rfl rfl (by decide) rfl (fun ls hl => ?_)
          refine lv_goto (tgt := 84) hx hb dX5_costBy_129 (by decide) ?_
          exact ih (if r24 < x4 then r24 else x4) (x5 + 1) F25 z hd _ _ _ hW (lv_sub hl [2, 3, 1, 0] rfl) kx0
  refine lv_iconst (v := 0) hx hb dX5_costBy_0 (by decide) ?_
  refine lv_istore_n (lv' := [(3, .int 0), (0, .ref (ad 0)), (1, .int x1), (2, .int x2)]) hx hb dX5_costBy_1 rfl hl (by decide) rfl (fun ls hl => ?_)
  obtain ⟨z2_25, hz2_25, hd⟩ := bp_e hd
  refine K2 x1 x2 FU 0 F z2_25 hz2_25 _ _ _ hW (lv_sub hl [1, 2, 3, 0] rfl) (fun H locs ls e2 hW hl => ?_)
  refine lv_aload_n hx hb dX5_costBy_26 rfl (lv_at hl 0 rfl) ?_
  refine lv_iconst (v := 1) hx hb dX5_costBy_27 (by decide) ?_
  refine lv_iload_n hx hb dX5_costBy_28 rfl (lv_at hl 1 rfl) ?_
  obtain ⟨F28, h27, hd⟩ := bp_e hd
  refine cVv_ (rest := []) X (kX5_put0 l Dd Y ad z2_25.2 1 x1 F28 h27) (cwV 2 X.1.2.2.2.2 gX5_costBy_X5_put0 rfl rfl rfl (by decide +kernel) ⟨Nat.le_of_ble_eq_true rfl, Nat.le_of_ble_eq_true rfl⟩) hW 0 5 rfl rfl rfl rfl hl.1 rfl (Nat.le_of_ble_eq_true rfl) dX5_costBy_29 ⟨Nat.zero_le _, Nat.zero_le _⟩ (fun H locs hW => ?_)
  refine lv_iconst (v := 0) hx hb dX5_costBy_32 (by decide) ?_
  refine lv_istore_n (lv' := [(3, .int 0), (0, .ref (ad 0)), (1, .int x1), (2, .int x2)]) hx hb dX5_costBy_33 rfl hl (by decide) rfl (fun ls hl => ?_)
  obtain ⟨z34_28, hz34_28, hd⟩ := bp_e hd
  refine K34 x2 FU 0 F28 z34_28 hz34_28 _ _ _ hW (lv_sub hl [1, 3, 0] rfl) (fun H locs ls e34 hW hl => ?_)
  refine lv_aload_n hx hb dX5_costBy_55 rfl (lv_at hl 0 rfl) ?_
  refine lv_bipush (v := 7) hx hb dX5_costBy_56 (by decide) ?_
  obtain ⟨r31, h30, hd⟩ := bp_e hd
  refine cVi_ (rest := []) X (kX5_get l Dd Y ad z34_28.2 7 r31 h30) (cwV 1 X.1.2.2.2.2 gX5_costBy_X5_get rfl rfl rfl (by decide +kernel) ⟨Nat.le_of_ble_eq_true rfl, Nat.le_of_ble_eq_true rfl⟩) hW 0 5 rfl rfl rfl rfl hl.1 rfl (Nat.le_of_ble_eq_true rfl) dX5_costBy_58 ⟨Nat.zero_le _, Nat.zero_le _⟩ (fun H locs hW => ?_)
  refine lv_aload_n hx hb dX5_costBy_61 rfl (lv_at hl 0 rfl) ?_
  refine lv_bipush (v := 8) hx hb dX5_costBy_62 (by decide) ?_
  obtain ⟨r33, h32, hd⟩ := bp_e hd
  refine cVi_ (rest := [.int r31]) X (kX5_get l Dd Y ad z34_28.2 8 r33 h32) (cwV 1 X.1.2.2.2.2 gX5_costBy_X5_get rfl rfl rfl (by decide +kernel) ⟨Nat.le_of_ble_eq_true rfl, Nat.le_of_ble_eq_true rfl⟩) hW 0 5 rfl rfl rfl rfl hl.1 rfl (Nat.le_of_ble_eq_true rfl) dX5_costBy_64 ⟨Nat.zero_le _, Nat.zero_le _⟩ (fun H locs hW => ?_)
  refine lv_iadd hx hb dX5_costBy_67 ?_
  refine lv_istore_n (lv' := [(3, .int (r31 + r33)), (0, .ref (ad 0)), (2, .int x2)]) hx hb dX5_costBy_68 rfl hl (by decide) rfl (fun ls hl => ?_)
  refine lv_aload_n hx hb dX5_costBy_69 rfl (lv_at hl 1 rfl) ?_
  refine lv_iload_n hx hb dX5_costBy_70 rfl (lv_at hl 2 rfl) ?_
  refine lv_aload_n hx hb dX5_costBy_71 rfl (lv_at hl 1 rfl) ?_
  refine lv_iload_n hx hb dX5_costBy_72 rfl (lv_at hl 2 rfl) ?_
  obtain ⟨r35, h34, hd⟩ := bp_e hd
  refine cVi_ (rest := [.int x2, .ref (ad 0)]) X (kX5_valueAt l Dd Y ad z34_28.2 x2 r35 h34) (cwV 1 X.1.2.2.2.2 gX5_costBy_X5_valueAt rfl rfl rfl (by decide +kernel) ⟨Nat.le_of_ble_eq_true rfl, Nat.le_of_ble_eq_true rfl⟩) hW 0 5 rfl rfl rfl rfl hl.1 rfl (Nat.le_of_ble_eq_true rfl) dX5_costBy_73 ⟨Nat.zero_le _, Nat.zero_le _⟩ (fun H locs hW => ?_)
  obtain ⟨r37, F38, h36, hd⟩ := bs_e hd
  refine cVi_ (rest := []) X (kX5_sets l Dd Y ad z34_28.2 x2 r35 r37 F38 h36) (cwV 2 X.1.2.2.2.2 gX5_costBy_X5_sets rfl rfl rfl (by decide +kernel) ⟨Nat.le_of_ble_eq_true rfl, Nat.le_of_ble_eq_true rfl⟩) hW 0 5 rfl rfl rfl rfl hl.1 rfl (Nat.le_of_ble_eq_true rfl) dX5_costBy_76 ⟨Nat.zero_le _, Nat.zero_le _⟩ (fun H locs hW => ?_)
  refine lv_istore (lv' := [(4, .int r37), (3, .int (r31 + r33)), (0, .ref (ad 0)), (2, .int x2)]) hx hb dX5_costBy_79 hl (by decide) rfl (fun ls hl => ?_)
  refine lv_iconst (v := 0) hx hb dX5_costBy_81 (by decide) ?_
  refine lv_istore (lv' := [(5, .int 0), (4, .int r37), (3, .int (r31 + r33)), (0, .ref (ad 0)), (2, .int x2)]) hx hb dX5_costBy_82 hl (by decide) rfl (fun ls hl => ?_)
  obtain ⟨z84_38, hz84_38, hd⟩ := bp_e hd
  refine K84 (r31 + r33) FU r37 0 F38 z84_38 hz84_38 _ _ _ hW (lv_sub hl [3, 2, 1, 0] rfl) (fun H locs ls e84 hW hl => ?_)
  refine lv_aload_n hx hb dX5_costBy_132 rfl (lv_at hl 0 rfl) ?_
  refine lv_bipush (v := 7) hx hb dX5_costBy_133 (by decide) ?_
  obtain ⟨r41, h40, hd⟩ := bp_e hd
  refine cVi_ (rest := []) X (kX5_get l Dd Y ad z84_38.2 7 r41 h40) (cwV 1 X.1.2.2.2.2 gX5_costBy_X5_get rfl rfl rfl (by decide +kernel) ⟨Nat.le_of_ble_eq_true rfl, Nat.le_of_ble_eq_true rfl⟩) hW 0 5 rfl rfl rfl rfl hl.1 rfl (Nat.le_of_ble_eq_true rfl) dX5_costBy_135 ⟨Nat.zero_le _, Nat.zero_le _⟩ (fun H locs hW => ?_)
  refine lv_aload_n hx hb dX5_costBy_138 rfl (lv_at hl 0 rfl) ?_
  refine lv_bipush (v := 8) hx hb dX5_costBy_139 (by decide) ?_
  obtain ⟨r43, h42, hd⟩ := bp_e hd
  refine cVi_ (rest := [.int r41]) X (kX5_get l Dd Y ad z84_38.2 8 r43 h42) (cwV 1 X.1.2.2.2.2 gX5_costBy_X5_get rfl rfl rfl (by decide +kernel) ⟨Nat.le_of_ble_eq_true rfl, Nat.le_of_ble_eq_true rfl⟩) hW 0 5 rfl rfl rfl rfl hl.1 rfl (Nat.le_of_ble_eq_true rfl) dX5_costBy_141 ⟨Nat.zero_le _, Nat.zero_le _⟩ (fun H locs hW => ?_)
  refine lv_iadd hx hb dX5_costBy_144 ?_
  refine lv_iload_n hx hb dX5_costBy_145 rfl (lv_at hl 1 rfl) ?_
  refine lv_isub hx hb dX5_costBy_146 ?_
  refine lv_istore (lv' := [(5, .int ((r41 + r43) - (r31 + r33))), (0, .ref (ad 0)), (3, .int (r31 + r33))]) hx hb dX5_costBy_147 hl (by decide) rfl (fun ls hl => ?_)
  refine lv_iconst (v := 0) hx hb dX5_costBy_149 (by decide) ?_
  refine lv_istore (lv' := [(6, .int 0), (5, .int ((r41 + r43) - (r31 + r33))), (0, .ref (ad 0)), (3, .int (r31 + r33))]) hx hb dX5_costBy_150 hl (by decide) rfl (fun ls hl => ?_)
  obtain ⟨z152_43, hz152_43, hd⟩ := bp_e hd
  refine K152 ((r41 + r43) - (r31 + r33)) FU 0 z84_38.2 z152_43 hz152_43 _ _ _ hW (lv_sub hl [2, 1, 0] rfl) (fun H locs ls e152 hW hl => ?_)
  refine lv_iload hx hb dX5_costBy_179 (lv_at hl 0 rfl) ?_
  obtain ⟨rfl, rfl⟩ := Prod.mk.inj (Option.some.inj hd)
  exact hQ _ _ _ _ rfl hW dX5_costBy_181
abbrev rmX5_bestRule : Room := { frames := 7, cells := 0, slots := 0, locals := 162 }
set_option maxRecDepth 100000 in
set_option maxHeartbeats 4000000 in
theorem kX5_bestRule (l : Launch) (Dd : va_G) (Y : yT) (ad : Nat → Nat) (F : gF) (x1 : Int32) (r : Int32) (F' : gF) (hd : dnX5_bestRule F x1 = some (r, F')) : MG l yX5_bestRule wsX5_bestRule rmX5_bestRule Dd Y [.ref (ad 0), .int x1] (WM Y ad F) (WM Y ad F') (some (.int r)) := by
  refine MGi (cc := cX5_bestRule) (maxL := 6) (ty := .int) (by decide) rfl (Nat.le_of_ble_eq_true rfl) (fun {p e s m args below meth c A} ls Q X hW hl hQ => ?_)
  have hx := X.x
  have hb := X.b
  have hl : lv_has ls 6 [(0, .ref (ad 0)), (1, .int x1)] := hl
  have hinX5 : ∀ w ∈ wsX50, w ∈ wsX5_bestRule := fun w h => List.mem_cons_of_mem _ (List.mem_append_right _ h)
  unfold dnX5_bestRule at hd
  have K32 : ∀ (x1 : Int32) (n : Nat) (x2 : Int32) (x3 : Int32) (x4 : Int32) (F : gF) (z : Nat × Int32 × gF), lpX5_bestRule_32 x1 n x2 x3 x4 F = some z → ∀ (H : Heap) (locs : List Loc) (ls : Array Slot), Wd Dd A s.heap (WM Y ad F) H locs → lv_has ls 6 [(0, .ref (ad 0)), (1, .int x1), (2, .int x2), (3, .int x3), (4, .int x4)] → (∀ (H : Heap) (locs : List Loc) (ls : Array Slot), z.1 = 0 → Wd Dd A s.heap (WM Y ad z.2.2) H locs → lv_has ls 6 [(2, .int z.2.1)] → W p l e rmX5_bestRule s m args below meth c H locs 0 0 Q (F0 m 68 ls [])) → W p l e rmX5_bestRule s m args below meth c H locs 0 0 Q (F0 m 32 ls []) := by
    intro x1 n
    induction n with
    | zero => intro x2 x3 x4 F z hd; cases hd
    | succ n ih =>
      intro x2 x3 x4 F z hd H locs ls hW hl kx0
      unfold lpX5_bestRule_32 at hd
      refine lv_iload hx hb dX5_bestRule_32 (lv_at hl 4 rfl) ?_
      refine lv_iconst (v := 3) hx hb dX5_bestRule_34 (by decide) ?_
      refine lv_icmp_ge (tgt := 68) hx hb dX5_bestRule_35 (by decide) (fun c1 => ?_) (fun c1 => ?_)
      · replace hd := if_t c1 hd
        cases hd
        exact kx0 _ _ _ rfl hW (lv_sub hl [2] rfl)
      · replace hd := if_f c1 hd
        refine lv_aload_n hx hb dX5_bestRule_38 rfl (lv_at hl 0 rfl) ?_
        refine lv_iload hx hb dX5_bestRule_39 (lv_at hl 4 rfl) ?_
        refine lv_iload_n hx hb dX5_bestRule_41 rfl (lv_at hl 1 rfl) ?_
        obtain ⟨r3, F4, h2, hd⟩ := bs_e hd
        refine cVi_ (rest := []) X (kX5_costBy l Dd Y ad F x4 x1 r3 F4 h2) (cwV 2 X.1.2.2.2.2 gX5_bestRule_X5_costBy rfl rfl rfl (by decide +kernel) ⟨Nat.le_of_ble_eq_true rfl, Nat.le_of_ble_eq_true rfl⟩) hW 0 5 rfl rfl rfl rfl hl.1 rfl (Nat.le_of_ble_eq_true rfl) dX5_bestRule_42 ⟨Nat.zero_le _, Nat.zero_le _⟩ (fun H locs hW => ?_)
        refine lv_istore (lv' := [(5, .int r3), (0, .ref (ad 0)), (1, .int x1), (2, .int x2), (3, .int x3), (4, .int x4)]) hx hb dX5_bestRule_45 hl (by decide) rfl (fun ls hl => ?_)
        refine lv_iload hx hb dX5_bestRule_47 (lv_at hl 0 rfl) ?_
        refine lv_iload_n hx hb dX5_bestRule_49 rfl (lv_at hl 4 rfl) ?_
        refine lv_icmp_lt (tgt := 56) hx hb dX5_bestRule_50 (by decide) (fun c5 => ?_) (fun c5 => ?_)
        · replace hd := if_t c5 hd
          refine lv_iload hx hb dX5_bestRule_56 (lv_at hl 0 rfl) ?_
          refine lv_istore_n (lv' := [(3, .int r3), (5, .int r3), (0, .ref (ad 0)), (1, .int x1), (2, .int x2), (4, .int x4)]) hx hb dX5_bestRule_58 rfl hl (by decide) rfl (fun ls hl => ?_)
          refine lv_iload hx hb dX5_bestRule_59 (lv_at hl 5 rfl) ?_
          refine lv_istore_n (lv' := [(2, .int x4), (3, .int r3), (5, .int r3), (0, .ref (ad 0)), (1, .int x1), (4, .int x4)]) hx hb dX5_bestRule_61 rfl hl (by decide) rfl (fun ls hl => ?_)
          refine lv_iinc (v := x4 + 1) (lv' := [(4, .int (x4 + 1)), (2, .int x4), (3, .int r3), (5, .int r3), (0, .ref (ad 0)), (1, .int x1)]) hx hb dX5_bestRule_62 hl (k := 5) rfl rfl (by decide) rfl (fun ls hl => ?_)
          refine lv_goto (tgt := 32) hx hb dX5_bestRule_65 (by decide) ?_
          exact ih x4 r3 (x4 + 1) F4 z hd _ _ _ hW (lv_sub hl [4, 5, 1, 2, 0] rfl) kx0
        · replace hd := if_f c5 hd
          refine lv_goto (tgt := 62) hx hb dX5_bestRule_53 (by decide) ?_
          refine lv_iinc (v := x4 + 1) (lv' := [(4, .int (x4 + 1)), (5, .int r3), (0, .ref (ad 0)), (1, .int x1), (2, .int x2), (3, .int x3)]) hx hb dX5_bestRule_62 hl (k := 5) rfl rfl (by decide) rfl (fun ls hl => ?_)
          refine lv_goto (tgt := 32) hx hb dX5_bestRule_65 (by decide) ?_
          exact ih x2 x3 (x4 + 1) F4 z hd _ _ _ hW (lv_sub hl [2, 3, 4, 5, 0] rfl) kx0
  refine lv_aload_n hx hb dX5_bestRule_0 rfl (lv_at hl 0 rfl) ?_
  refine lv_iconst (v := 0) hx hb dX5_bestRule_1 (by decide) ?_
  obtain ⟨F6, eF6, hd⟩ := bw_e hd
  refine p_ (ty := .int) X hinX5 tyX5 tyX5_ok nmX5 hW 0 rfl rfl 0 (by decide) 1 rfl rfl rfl (by decide +kernel) rfl rfl (Nat.le_of_ble_eq_true rfl) dX5_bestRule_2 (ws' := (WM Y ad F6)) (by rw [eF6]; rfl) (fun H locs hW => ?_)
  refine lv_aload_n hx hb dX5_bestRule_5 rfl (lv_at hl 0 rfl) ?_
  refine lv_aload_n hx hb dX5_bestRule_6 rfl (lv_at hl 0 rfl) ?_
  refine lv_iload_n hx hb dX5_bestRule_7 rfl (lv_at hl 1 rfl) ?_
  obtain ⟨r8, h7, hd⟩ := bp_e hd
  refine cVi_ (rest := [.ref (ad 0)]) X (kX5_isPlace l Dd Y ad F6 x1 r8 h7) (cwV 1 X.1.2.2.2.2 gX5_bestRule_X5_isPlace rfl rfl rfl (by decide +kernel) ⟨Nat.le_of_ble_eq_true rfl, Nat.le_of_ble_eq_true rfl⟩) hW 0 5 rfl rfl rfl rfl hl.1 rfl (Nat.le_of_ble_eq_true rfl) dX5_bestRule_8 ⟨Nat.zero_le _, Nat.zero_le _⟩ (fun H locs hW => ?_)
  refine lv_iconst (v := 1) hx hb dX5_bestRule_11 (by decide) ?_
  obtain ⟨r10, F11, h9, hd⟩ := bs_e hd
  refine cVi_ (rest := []) X (kX5_right l Dd Y ad F6 r8 1 r10 F11 h9) (cwV 2 X.1.2.2.2.2 gX5_bestRule_X5_right rfl rfl rfl (by decide +kernel) ⟨Nat.le_of_ble_eq_true rfl, Nat.le_of_ble_eq_true rfl⟩) hW 0 5 rfl rfl rfl rfl hl.1 rfl (Nat.le_of_ble_eq_true rfl) dX5_bestRule_12 ⟨Nat.zero_le _, Nat.zero_le _⟩ (fun H locs hW => ?_)
  refine lv_if_ne (tgt := 20) hx hb dX5_bestRule_15 (by decide) (fun c12 => ?_) (fun c12 => ?_)
  · replace hd := if_f c12 hd
    refine lv_iconst (v := 0) hx hb dX5_bestRule_20 (by decide) ?_
    refine lv_istore_n (lv' := [(2, .int 0), (0, .ref (ad 0)), (1, .int x1)]) hx hb dX5_bestRule_21 rfl hl (by decide) rfl (fun ls hl => ?_)
    refine lv_aload_n hx hb dX5_bestRule_22 rfl (lv_at hl 1 rfl) ?_
    refine lv_iconst (v := 0) hx hb dX5_bestRule_23 (by decide) ?_
    refine lv_iload_n hx hb dX5_bestRule_24 rfl (lv_at hl 2 rfl) ?_
    obtain ⟨r14, F15, h13, hd⟩ := bs_e hd
    refine cVi_ (rest := []) X (kX5_costBy l Dd Y ad F11 0 x1 r14 F15 h13) (cwV 2 X.1.2.2.2.2 gX5_bestRule_X5_costBy rfl rfl rfl (by decide +kernel) ⟨Nat.le_of_ble_eq_true rfl, Nat.le_of_ble_eq_true rfl⟩) hW 0 5 rfl rfl rfl rfl hl.1 rfl (Nat.le_of_ble_eq_true rfl) dX5_bestRule_25 ⟨Nat.zero_le _, Nat.zero_le _⟩ (fun H locs hW => ?_)
    refine lv_istore_n (lv' := [(3, .int r14), (2, .int 0), (0, .ref (ad 0)), (1, .int x1)]) hx hb dX5_bestRule_28 rfl hl (by decide) rfl (fun ls hl => ?_)
    refine lv_iconst (v := 1) hx hb dX5_bestRule_29 (by decide) ?_
    refine lv_istore (lv' := [(4, .int 1), (3, .int r14), (2, .int 0), (0, .ref (ad 0)), (1, .int x1)]) hx hb dX5_bestRule_30 hl (by decide) rfl (fun ls hl => ?_)
    obtain ⟨z32_15, hz32_15, hd⟩ := bp_e hd
    refine K32 x1 FU 0 r14 1 F15 z32_15 hz32_15 _ _ _ hW (lv_sub hl [3, 4, 2, 1, 0] rfl) (fun H locs ls e32 hW hl => ?_)
    refine lv_iload_n hx hb dX5_bestRule_68 rfl (lv_at hl 0 rfl) ?_
    obtain ⟨rfl, rfl⟩ := Prod.mk.inj (Option.some.inj hd)
    exact hQ _ _ _ _ rfl hW dX5_bestRule_69
  · replace hd := if_t c12 hd
    refine lv_iconst (v := 0) hx hb dX5_bestRule_18 (by decide) ?_
    obtain ⟨rfl, rfl⟩ := Prod.mk.inj (Option.some.inj hd)
    exact hQ _ _ _ _ rfl hW dX5_bestRule_19
abbrev rmX5_ranked : Room := { frames := 2, cells := 0, slots := 0, locals := 42 }
set_option maxRecDepth 100000 in
set_option maxHeartbeats 4000000 in
theorem kX5_ranked (l : Launch) (Dd : va_G) (Y : yT) (ad : Nat → Nat) (F : gF) (x1 : Int32) (r : Int32) (F' : gF) (hd : dnX5_ranked F x1 = some (r, F')) : MG l yX5_ranked wsX5_ranked rmX5_ranked Dd Y [.ref (ad 0), .int x1] (WM Y ad F) (WM Y ad F') (some (.int r)) := by
  refine MGi (cc := cX5_ranked) (maxL := 5) (ty := .int) (by decide) rfl (Nat.le_of_ble_eq_true rfl) (fun {p e s m args below meth c A} ls Q X hW hl hQ => ?_)
  have hx := X.x
  have hb := X.b
  have hl : lv_has ls 5 [(0, .ref (ad 0)), (1, .int x1)] := hl
  have hinX5 : ∀ w ∈ wsX50, w ∈ wsX5_ranked := fun w h => List.mem_cons_of_mem _ (List.mem_append_right _ h)
  unfold dnX5_ranked at hd
  have K41 : ∀ (F : gF) (x1 : Int32) (x2 : Int32) (n : Nat) (x3 : Int32) (x4 : Int32) (z : Nat × Int32), lpX5_ranked_41 F x1 x2 n x3 x4 = some z → ∀ (H : Heap) (locs : List Loc) (ls : Array Slot), Wd Dd A s.heap (WM Y ad F) H locs → lv_has ls 5 [(0, .ref (ad 0)), (1, .int x1), (2, .int x2), (3, .int x3), (4, .int x4)] → (∀ (H : Heap) (locs : List Loc) (ls : Array Slot), z.1 = 0 → Wd Dd A s.heap (WM Y ad F) H locs → lv_has ls 5 [(0, .ref (ad 0)), (1, .int x1), (2, .int x2), (3, .int z.2)] → W p l e rmX5_ranked s m args below meth c H locs 0 0 Q (F0 m 98 ls [])) → W p l e rmX5_ranked s m args below meth c H locs 0 0 Q (F0 m 41 ls []) := by
    intro F x1 x2 n
    induction n with
    | zero => intro x3 x4 z hd; cases hd
    | succ n ih =>
      intro x3 x4 z hd H locs ls hW hl kx0
      unfold lpX5_ranked_41 at hd
      refine lv_iload hx hb dX5_ranked_41 (lv_at hl 4 rfl) ?_
      refine lv_aload_n hx hb dX5_ranked_43 rfl (lv_at hl 0 rfl) ?_
      obtain ⟨r2, h1, hd⟩ := bp_e hd
      refine cVi_ (rest := [.int x4]) X (kX5_size l Dd Y ad F r2 h1) (cwV 0 X.1.2.2.2.2 gX5_ranked_X5_size rfl rfl rfl (by decide +kernel) ⟨Nat.le_of_ble_eq_true rfl, Nat.le_of_ble_eq_true rfl⟩) hW 0 5 rfl rfl rfl rfl hl.1 rfl (Nat.le_of_ble_eq_true rfl) dX5_ranked_44 ⟨Nat.zero_le _, Nat.zero_le _⟩ (fun H locs hW => ?_)
      refine lv_icmp_ge (tgt := 98) hx hb dX5_ranked_47 (by decide) (fun c3 => ?_) (fun c3 => ?_)
      · replace hd := if_t c3 hd
        cases hd
        exact kx0 _ _ _ rfl hW (lv_sub hl [0, 1, 2, 3] rfl)
      · replace hd := if_f c3 hd
        refine lv_iload_n hx hb dX5_ranked_50 rfl (lv_at hl 3 rfl) ?_
        refine lv_aload_n hx hb dX5_ranked_51 rfl (lv_at hl 0 rfl) ?_
        refine lv_iload hx hb dX5_ranked_52 (lv_at hl 4 rfl) ?_
        obtain ⟨r5, h4, hd⟩ := bp_e hd
        refine cVi_ (rest := [.int x3]) X (kX5_valueAt l Dd Y ad F x4 r5 h4) (cwV 1 X.1.2.2.2.2 gX5_ranked_X5_valueAt rfl rfl rfl (by decide +kernel) ⟨Nat.le_of_ble_eq_true rfl, Nat.le_of_ble_eq_true rfl⟩) hW 0 5 rfl rfl rfl rfl hl.1 rfl (Nat.le_of_ble_eq_true rfl) dX5_ranked_54 ⟨Nat.zero_le _, Nat.zero_le _⟩ (fun H locs hW => ?_)
        refine lv_aload_n hx hb dX5_ranked_57 rfl (lv_at hl 0 rfl) ?_
        refine lv_iload_n hx hb dX5_ranked_58 rfl (lv_at hl 2 rfl) ?_
        obtain ⟨r7, h6, hd⟩ := bp_e hd
        refine cVi_ (rest := [.int r5, .int x3]) X (kX5_valueAt l Dd Y ad F x2 r7 h6) (cwV 1 X.1.2.2.2.2 gX5_ranked_X5_valueAt rfl rfl rfl (by decide +kernel) ⟨Nat.le_of_ble_eq_true rfl, Nat.le_of_ble_eq_true rfl⟩) hW 0 5 rfl rfl rfl rfl hl.1 rfl (Nat.le_of_ble_eq_true rfl) dX5_ranked_59 ⟨Nat.zero_le _, Nat.zero_le _⟩ (fun H locs hW => ?_)
        refine lv_icmp_lt (tgt := 85) hx hb dX5_ranked_62 (by decide) (fun c8 => ?_) (fun c8 => ?_)
        · replace hd := if_t c8 hd
          refine lv_iconst (v := 1) hx hb dX5_ranked_85 (by decide) ?_
          refine lv_goto (tgt := 90) hx hb dX5_ranked_86 (by decide) ?_
          refine lv_iadd hx hb dX5_ranked_90 ?_
          refine lv_istore_n (lv' := [(3, .int (x3 + 1)), (0, .ref (ad 0)), (1, .int x1), (2, .int x2), (4, .int x4)]) hx hb dX5_ranked_91 rfl hl (by decide) rfl (fun ls hl => ?_)
          refine lv_iinc (v := x4 + 1) (lv' := [(4, .int (x4 + 1)), (3, .int (x3 + 1)), (0, .ref (ad 0)), (1, .int x1), (2, .int x2)]) hx hb dX5_ranked_92 hl (k := 4) rfl rfl (by decide) rfl (fun ls hl => ?_)
          refine lv_goto (tgt := 41) hx hb dX5_ranked_95 (by decide) ?_
          exact ih (x3 + 1) (x4 + 1) z hd _ _ _ hW (lv_sub hl [2, 3, 4, 1, 0] rfl) kx0
        · replace hd := if_f c8 hd
          refine lv_aload_n hx hb dX5_ranked_65 rfl (lv_at hl 0 rfl) ?_
          refine lv_iload hx hb dX5_ranked_66 (lv_at hl 4 rfl) ?_
          obtain ⟨r10, h9, hd⟩ := bp_e hd
          refine cVi_ (rest := [.int x3]) X (kX5_valueAt l Dd Y ad F x4 r10 h9) (cwV 1 X.1.2.2.2.2 gX5_ranked_X5_valueAt rfl rfl rfl (by decide +kernel) ⟨Nat.le_of_ble_eq_true rfl, Nat.le_of_ble_eq_true rfl⟩) hW 0 5 rfl rfl rfl rfl hl.1 rfl (Nat.le_of_ble_eq_true rfl) dX5_ranked_68 ⟨Nat.zero_le _, Nat.zero_le _⟩ (fun H locs hW => ?_)
          refine lv_aload_n hx hb dX5_ranked_71 rfl (lv_at hl 0 rfl) ?_
          refine lv_iload_n hx hb dX5_ranked_72 rfl (lv_at hl 2 rfl) ?_
          obtain ⟨r12, h11, hd⟩ := bp_e hd
          refine cVi_ (rest := [.int r10, .int x3]) X (kX5_valueAt l Dd Y ad F x2 r12 h11) (cwV 1 X.1.2.2.2.2 gX5_ranked_X5_valueAt rfl rfl rfl (by decide +kernel) ⟨Nat.le_of_ble_eq_true rfl, Nat.le_of_ble_eq_true rfl⟩) hW 0 5 rfl rfl rfl rfl hl.1 rfl (Nat.le_of_ble_eq_true rfl) dX5_ranked_73 ⟨Nat.zero_le _, Nat.zero_le _⟩ (fun H locs hW => ?_)
          refine lv_icmp_ne (tgt := 89) hx hb dX5_ranked_76 (by decide) (fun c13 => ?_) (fun c13 => ?_)
          · replace hd := if_f c13 hd
            refine lv_iconst (v := 0) hx hb dX5_ranked_89 (by decide) ?_
            refine lv_iadd hx hb dX5_ranked_90 ?_
            refine lv_istore_n (lv' := [(3, .int (x3 + 0)), (0, .ref (ad 0)), (1, .int x1), (2, .int x2), (4, .int x4)]) hx hb dX5_ranked_91 rfl hl (by decide) rfl (fun ls hl => ?_)
            refine lv_iinc (v := x4 + 1) (lv' := [(4, .int (x4 + 1)), (3, .int (x3 + 0)), (0, .ref (ad 0)), (1, .int x1), (2, .int x2)]) hx hb dX5_ranked_92 hl (k := 4) rfl rfl (by decide) rfl (fun ls hl => ?_)
            refine lv_goto (tgt := 41) hx hb dX5_ranked_95 (by decide) ?_
            exact ih (x3 + 0) (x4 + 1) z hd _ _ _ hW (lv_sub hl [2, 3, 4, 1, 0] rfl) kx0
          · replace hd := if_t c13 hd
            refine lv_iload hx hb dX5_ranked_79 (lv_at hl 4 rfl) ?_
            refine lv_iload_n hx hb dX5_ranked_81 rfl (lv_at hl 2 rfl) ?_
            refine lv_icmp_ge (tgt := 89) hx hb dX5_ranked_82 (by decide) (fun c14 => ?_) (fun c14 => ?_)
            · replace hd := if_t c14 hd
              refine lv_iconst (v := 0) hx hb dX5_ranked_89 (by decide) ?_
              refine lv_iadd hx hb dX5_ranked_90 ?_
              refine lv_istore_n (lv' := [(3, .int (x3 + 0)), (0, .ref (ad 0)), (1, .int x1), (2, .int x2), (4, .int x4)]) hx hb dX5_ranked_91 rfl hl (by decide) rfl (fun ls hl => ?_)
              refine lv_iinc (v := x4 + 1) (lv' := [(4, .int (x4 + 1)), (3, .int (x3 + 0)), (0, .ref (ad 0)), (1, .int x1), (2, .int x2)]) hx hb dX5_ranked_92 hl (k := 4) rfl rfl (by decide) rfl (fun ls hl => ?_)
              refine lv_goto (tgt := 41) hx hb dX5_ranked_95 (by decide) ?_
              exact ih (x3 + 0) (x4 + 1) z hd _ _ _ hW (lv_sub hl [2, 3, 4, 1, 0] rfl) kx0
            · replace hd := if_f c14 hd
              refine lv_iconst (v := 1) hx hb dX5_ranked_85 (by decide) ?_
              refine lv_goto (tgt := 90) hx hb dX5_ranked_86 (by decide) ?_
              refine lv_iadd hx hb dX5_ranked_90 ?_
              refine lv_istore_n (lv' := [(3, .int (x3 + 1)), (0, .ref (ad 0)), (1, .int x1), (2, .int x2), (4, .int x4)]) hx hb dX5_ranked_91 rfl hl (by decide) rfl (fun ls hl => ?_)
              refine lv_iinc (v := x4 + 1) (lv' := [(4, .int (x4 + 1)), (3, .int (x3 + 1)), (0, .ref (ad 0)), (1, .int x1), (2, .int x2)]) hx hb dX5_ranked_92 hl (k := 4) rfl rfl (by decide) rfl (fun ls hl => ?_)
              refine lv_goto (tgt := 41) hx hb dX5_ranked_95 (by decide) ?_
              exact ih (x3 + 1) (x4 + 1) z hd _ _ _ hW (lv_sub hl [2, 3, 4, 1, 0] rfl) kx0
  have K28 : ∀ (F : gF) (x1 : Int32) (n : Nat) (x2 : Int32) (z : Nat × Int32), lpX5_ranked_28 F x1 n x2 = some z → ∀ (H : Heap) (locs : List Loc) (ls : Array Slot), Wd Dd A s.heap (WM Y ad F) H locs → lv_has ls 5 [(0, .ref (ad 0)), (1, .int x1), (2, .int x2)] → (∀ (H : Heap) (locs : List Loc) (ls : Array Slot), z.1 = 0 → Wd Dd A s.heap (WM Y ad F) H locs → lv_has ls 5 [(2, .int z.2)] → W p l e rmX5_ranked s m args below meth c H locs 0 0 Q (F0 m 103 ls [])) → (∀ (H : Heap) (locs : List Loc) (ls : Array Slot), z.1 = 1 → Wd Dd A s.heap (WM Y ad F) H locs → lv_has ls 5 [] → W p l e rmX5_ranked s m args below meth c H locs 0 0 Q (F0 m 111 ls [])) → W p l e rmX5_ranked s m args below meth c H locs 0 0 Q (F0 m 28 ls []) := by
    intro F x1 n
    induction n with
    | zero => intro x2 z hd; cases hd
    | succ n ih =>
      intro x2 z hd H locs ls hW hl kx0 kx1
      unfold lpX5_ranked_28 at hd
      refine lv_iload_n hx hb dX5_ranked_28 rfl (lv_at hl 2 rfl) ?_
      refine lv_aload_n hx hb dX5_ranked_29 rfl (lv_at hl 0 rfl) ?_
      obtain ⟨r16, h15, hd⟩ := bp_e hd
      refine cVi_ (rest := [.int x2]) X (kX5_size l Dd Y ad F r16 h15) (cwV 0 X.1.2.2.2.2 gX5_ranked_X5_size rfl rfl rfl (by decide +kernel) ⟨Nat.le_of_ble_eq_true rfl, Nat.le_of_ble_eq_true rfl⟩) hW 0 5 rfl rfl rfl rfl hl.1 rfl (Nat.le_of_ble_eq_true rfl) dX5_ranked_30 ⟨Nat.zero_le _, Nat.zero_le _⟩ (fun H locs hW => ?_)
      refine lv_icmp_ge (tgt := 111) hx hb dX5_ranked_33 (by decide) (fun c17 => ?_) (fun c17 => ?_)
      · replace hd := if_t c17 hd
        cases hd
        exact kx1 _ _ _ rfl hW (lv_sub hl [] rfl)
      · replace hd := if_f c17 hd
        refine lv_iconst (v := 0) hx hb dX5_ranked_36 (by decide) ?_
        refine lv_istore_n (lv' := [(3, .int 0), (0, .ref (ad 0)), (1, .int x1), (2, .int x2)]) hx hb dX5_ranked_37 rfl hl (by decide) rfl (fun ls hl => ?_)
        refine lv_iconst (v := 0) hx hb dX5_ranked_38 (by decide) ?_
        refine lv_istore (lv' := [(4, .int 0), (3, .int 0), (0, .ref (ad 0)), (1, .int x1), (2, .int x2)]) hx hb dX5_ranked_39 hl (by decide) rfl (fun ls hl => ?_)
        obtain ⟨z41_17, hz41_17, hd⟩ := bp_e hd
        refine K41 F x1 x2 FU 0 0 z41_17 hz41_17 _ _ _ hW (lv_sub hl [2, 3, 4, 1, 0] rfl) (fun H locs ls e41 hW hl => ?_)
        refine lv_iload_n hx hb dX5_ranked_98 rfl (lv_at hl 3 rfl) ?_
        refine lv_iload_n hx hb dX5_ranked_99 rfl (lv_at hl 1 rfl) ?_
        refine lv_icmp_ne (tgt := 105) hx hb dX5_ranked_100 (by decide) (fun c19 => ?_) (fun c19 => ?_)
        · replace hd := if_f c19 hd
          refine lv_iinc (v := x2 + 1) (lv' := [(2, .int (x2 + 1)), (0, .ref (ad 0)), (1, .int x1), (3, .int z41_17.2)]) hx hb dX5_ranked_105 hl (k := 2) rfl rfl (by decide) rfl (fun ls hl => ?_)
          refine lv_goto (tgt := 28) hx hb dX5_ranked_108 (by decide) ?_
          exact ih (x2 + 1) z hd _ _ _ hW (lv_sub hl [1, 2, 0] rfl) kx0 kx1
        · replace hd := if_t c19 hd
          cases hd
          exact kx0 _ _ _ rfl hW (lv_sub hl [2] rfl)
  refine lv_aload_n hx hb dX5_ranked_0 rfl (lv_at hl 0 rfl) ?_
  refine lv_iconst (v := 0) hx hb dX5_ranked_1 (by decide) ?_
  obtain ⟨F20, eF20, hd⟩ := bw_e hd
  refine p_ (ty := .int) X hinX5 tyX5 tyX5_ok nmX5 hW 0 rfl rfl 0 (by decide) 1 rfl rfl rfl (by decide +kernel) rfl rfl (Nat.le_of_ble_eq_true rfl) dX5_ranked_2 (ws' := (WM Y ad F20)) (by rw [eF20]; rfl) (fun H locs hW => ?_)
  refine lv_aload_n hx hb dX5_ranked_5 rfl (lv_at hl 0 rfl) ?_
  refine lv_iload_n hx hb dX5_ranked_6 rfl (lv_at hl 1 rfl) ?_
  refine lv_iconst (v := 0) hx hb dX5_ranked_7 (by decide) ?_
  refine lv_aload_n hx hb dX5_ranked_8 rfl (lv_at hl 0 rfl) ?_
  obtain ⟨r22, h21, hd⟩ := bp_e hd
  refine cVi_ (rest := [.int 0, .int x1, .ref (ad 0)]) X (kX5_size l Dd Y ad F20 r22 h21) (cwV 0 X.1.2.2.2.2 gX5_ranked_X5_size rfl rfl rfl (by decide +kernel) ⟨Nat.le_of_ble_eq_true rfl, Nat.le_of_ble_eq_true rfl⟩) hW 0 5 rfl rfl rfl rfl hl.1 rfl (Nat.le_of_ble_eq_true rfl) dX5_ranked_9 ⟨Nat.zero_le _, Nat.zero_le _⟩ (fun H locs hW => ?_)
  refine lv_iconst (v := 1) hx hb dX5_ranked_12 (by decide) ?_
  refine lv_isub hx hb dX5_ranked_13 ?_
  obtain ⟨r24, h23, hd⟩ := bp_e hd
  refine cSi_ (rest := [.ref (ad 0)]) X (kX5_isIn l Dd Y x1 0 (r22 - 1) r24 h23) (va_cwS 3 X.1.2.2.2.2 gX5_ranked_X5_isIn rfl rfl rfl (by decide +kernel) ⟨Nat.le_of_ble_eq_true rfl, Nat.le_of_ble_eq_true rfl⟩) hW rfl hl.1 rfl (Nat.le_of_ble_eq_true rfl) dX5_ranked_14 ⟨Nat.zero_le _, Nat.zero_le _⟩ (fun H locs hW => ?_)
  refine lv_iconst (v := 1) hx hb dX5_ranked_17 (by decide) ?_
  obtain ⟨r26, F27, h25, hd⟩ := bs_e hd
  refine cVi_ (rest := []) X (kX5_right l Dd Y ad F20 r24 1 r26 F27 h25) (cwV 2 X.1.2.2.2.2 gX5_ranked_X5_right rfl rfl rfl (by decide +kernel) ⟨Nat.le_of_ble_eq_true rfl, Nat.le_of_ble_eq_true rfl⟩) hW 0 5 rfl rfl rfl rfl hl.1 rfl (Nat.le_of_ble_eq_true rfl) dX5_ranked_18 ⟨Nat.zero_le _, Nat.zero_le _⟩ (fun H locs hW => ?_)
  refine lv_if_ne (tgt := 26) hx hb dX5_ranked_21 (by decide) (fun c28 => ?_) (fun c28 => ?_)
  · replace hd := if_f c28 hd
    refine lv_iconst (v := 0) hx hb dX5_ranked_26 (by decide) ?_
    refine lv_istore_n (lv' := [(2, .int 0), (0, .ref (ad 0)), (1, .int x1)]) hx hb dX5_ranked_27 rfl hl (by decide) rfl (fun ls hl => ?_)
    obtain ⟨z28_28, hz28_28, hd⟩ := bp_e hd
    refine K28 F27 x1 FU 0 z28_28 hz28_28 _ _ _ hW (lv_sub hl [1, 2, 0] rfl) (fun H locs ls e28 hW hl => ?_) (fun H locs ls e28 hW hl => ?_)
    · replace hd := if_t e28 (hd)
      refine lv_iload_n hx hb dX5_ranked_103 rfl (lv_at hl 0 rfl) ?_
      obtain ⟨rfl, rfl⟩ := Prod.mk.inj (Option.some.inj hd)
      exact hQ _ _ _ _ rfl hW dX5_ranked_104
    · replace hd := if_f (by rw [e28]; decide) hd
      refine lv_iconst (v := (-1)) hx hb dX5_ranked_111 (by decide) ?_
      obtain ⟨rfl, rfl⟩ := Prod.mk.inj (Option.some.inj hd)
      exact hQ _ _ _ _ rfl hW dX5_ranked_112
  · replace hd := if_t c28 hd
    refine lv_iconst (v := 0) hx hb dX5_ranked_24 (by decide) ?_
    obtain ⟨rfl, rfl⟩ := Prod.mk.inj (Option.some.inj hd)
    exact hQ _ _ _ _ rfl hW dX5_ranked_25
abbrev rmX5_hasWaiting : Room := { frames := 2, cells := 0, slots := 0, locals := 42 }
set_option maxRecDepth 100000 in
set_option maxHeartbeats 4000000 in
theorem kX5_hasWaiting (l : Launch) (Dd : va_G) (Y : yT) (ad : Nat → Nat) (F : gF) (x1 : Int32) (x2 : Int32) (r : Int32) (hd : dnX5_hasWaiting F x1 x2 = some r) : MG l yX5_hasWaiting wsX5_hasWaiting rmX5_hasWaiting Dd Y [.ref (ad 0), .int x1, .int x2] (WM Y ad F) (WM Y ad F) (some (.int r)) := by
  refine MGi (cc := cX5_hasWaiting) (maxL := 4) (ty := .boolean) (by decide) rfl (Nat.le_of_ble_eq_true rfl) (fun {p e s m args below meth c A} ls Q X hW hl hQ => ?_)
  have hx := X.x
  have hb := X.b
  have hl : lv_has ls 4 [(0, .ref (ad 0)), (1, .int x1), (2, .int x2)] := hl
  unfold dnX5_hasWaiting at hd
  have K2 : ∀ (F : gF) (x1 : Int32) (x2 : Int32) (n : Nat) (x3 : Int32) (z : Nat), lpX5_hasWaiting_2 F x1 x2 n x3 = some z → ∀ (H : Heap) (locs : List Loc) (ls : Array Slot), Wd Dd A s.heap (WM Y ad F) H locs → lv_has ls 4 [(0, .ref (ad 0)), (1, .int x1), (2, .int x2), (3, .int x3)] → (∀ (H : Heap) (locs : List Loc) (ls : Array Slot), z = 0 → Wd Dd A s.heap (WM Y ad F) H locs → lv_has ls 4 [] → W p l e rmX5_hasWaiting s m args below meth c H locs 0 0 Q (F0 m 19 ls [])) → (∀ (H : Heap) (locs : List Loc) (ls : Array Slot), z = 1 → Wd Dd A s.heap (WM Y ad F) H locs → lv_has ls 4 [] → W p l e rmX5_hasWaiting s m args below meth c H locs 0 0 Q (F0 m 27 ls [])) → W p l e rmX5_hasWaiting s m args below meth c H locs 0 0 Q (F0 m 2 ls []) := by
    intro F x1 x2 n
    induction n with
    | zero => intro x3 z hd; cases hd
    | succ n ih =>
      intro x3 z hd H locs ls hW hl kx0 kx1
      unfold lpX5_hasWaiting_2 at hd
      refine lv_iload_n hx hb dX5_hasWaiting_2 rfl (lv_at hl 3 rfl) ?_
      refine lv_iload_n hx hb dX5_hasWaiting_3 rfl (lv_at hl 2 rfl) ?_
      refine lv_iconst (v := 1) hx hb dX5_hasWaiting_4 (by decide) ?_
      refine lv_iload_n hx hb dX5_hasWaiting_5 rfl (lv_at hl 1 rfl) ?_
      refine lv_ishl hx hb dX5_hasWaiting_6 ?_
      refine lv_iadd hx hb dX5_hasWaiting_7 ?_
      refine lv_icmp_ge (tgt := 27) hx hb dX5_hasWaiting_8 (by decide) (fun c1 => ?_) (fun c1 => ?_)
      · replace hd := if_t c1 hd
        cases hd
        exact kx1 _ _ _ rfl hW (lv_sub hl [] rfl)
      · replace hd := if_f c1 hd
        refine lv_aload_n hx hb dX5_hasWaiting_11 rfl (lv_at hl 0 rfl) ?_
        refine lv_iload_n hx hb dX5_hasWaiting_12 rfl (lv_at hl 3 rfl) ?_
        obtain ⟨r3, h2, hd⟩ := bp_e hd
        refine cVi_ (rest := []) X (kX5_isWaiting l Dd Y ad F x3 r3 h2) (cwV 1 X.1.2.2.2.2 gX5_hasWaiting_X5_isWaiting rfl rfl rfl (by decide +kernel) ⟨Nat.le_of_ble_eq_true rfl, Nat.le_of_ble_eq_true rfl⟩) hW 0 5 rfl rfl rfl rfl hl.1 rfl (Nat.le_of_ble_eq_true rfl) dX5_hasWaiting_13 ⟨Nat.zero_le _, Nat.zero_le _⟩ (fun H locs hW => ?_)
        refine lv_if_eq (tgt := 21) hx hb dX5_hasWaiting_16 (by decide) (fun c4 => ?_) (fun c4 => ?_)
        · replace hd := if_t c4 hd
          refine lv_iinc (v := x3 + 1) (lv' := [(3, .int (x3 + 1)), (0, .ref (ad 0)), (1, .int x1), (2, .int x2)]) hx hb dX5_hasWaiting_21 hl (k := 3) rfl rfl (by decide) rfl (fun ls hl => ?_)
          refine lv_goto (tgt := 2) hx hb dX5_hasWaiting_24 (by decide) ?_
          exact ih (x3 + 1) z hd _ _ _ hW (lv_sub hl [1, 2, 3, 0] rfl) kx0 kx1
        · replace hd := if_f c4 hd
          cases hd
          exact kx0 _ _ _ rfl hW (lv_sub hl [] rfl)
  refine lv_iload_n hx hb dX5_hasWaiting_0 rfl (lv_at hl 2 rfl) ?_
  refine lv_istore_n (lv' := [(3, .int x2), (0, .ref (ad 0)), (1, .int x1), (2, .int x2)]) hx hb dX5_hasWaiting_1 rfl hl (by decide) rfl (fun ls hl => ?_)
  obtain ⟨z2_4, hz2_4, hd⟩ := bp_e hd
  refine K2 F x1 x2 FU x2 z2_4 hz2_4 _ _ _ hW (lv_sub hl [1, 2, 3, 0] rfl) (fun H locs ls e2 hW hl => ?_) (fun H locs ls e2 hW hl => ?_)
  · replace hd := if_t e2 (hd)
    refine lv_iconst (v := 1) hx hb dX5_hasWaiting_19 (by decide) ?_
    have hd := Option.some.inj hd
    subst hd
    exact hQ _ _ _ _ (nz_b (Or.inr rfl)) hW dX5_hasWaiting_20
  · replace hd := if_f (by rw [e2]; decide) hd
    refine lv_iconst (v := 0) hx hb dX5_hasWaiting_27 (by decide) ?_
    have hd := Option.some.inj hd
    subst hd
    exact hQ _ _ _ _ (nz_b (Or.inl rfl)) hW dX5_hasWaiting_28
abbrev rmX5_gap : Room := { frames := 3, cells := 0, slots := 0, locals := 66 }
set_option maxRecDepth 100000 in
set_option maxHeartbeats 4000000 in
theorem kX5_gap (l : Launch) (Dd : va_G) (Y : yT) (ad : Nat → Nat) (F : gF) (r : Int32) (F' : gF) (hd : dnX5_gap F = some (r, F')) : MG l yX5_gap wsX5_gap rmX5_gap Dd Y [.ref (ad 0)] (WM Y ad F) (WM Y ad F') (some (.int r)) := by
  refine MGi (cc := cX5_gap) (maxL := 4) (ty := .int) (by decide) rfl (Nat.le_of_ble_eq_true rfl) (fun {p e s m args below meth c A} ls Q X hW hl hQ => ?_)
  have hx := X.x
  have hb := X.b
  have hl : lv_has ls 4 [(0, .ref (ad 0))] := hl
  have hinX5 : ∀ w ∈ wsX50, w ∈ wsX5_gap := fun w h => List.mem_cons_of_mem _ (List.mem_append_right _ h)
  unfold dnX5_gap at hd
  have K80 : ∀ (F : gF) (n : Nat) (x1 : Int32) (x2 : Int32) (z : Nat × Int32), lpX5_gap_80 F n x1 x2 = some z → ∀ (H : Heap) (locs : List Loc) (ls : Array Slot), Wd Dd A s.heap (WM Y ad F) H locs → lv_has ls 4 [(0, .ref (ad 0)), (1, .int x1), (2, .int x2)] → (∀ (H : Heap) (locs : List Loc) (ls : Array Slot), z.1 = 0 → Wd Dd A s.heap (WM Y ad F) H locs → lv_has ls 4 [(1, .int z.2)] → W p l e rmX5_gap s m args below meth c H locs 0 0 Q (F0 m 137 ls [])) → W p l e rmX5_gap s m args below meth c H locs 0 0 Q (F0 m 80 ls []) := by
    intro F n
    induction n with
    | zero => intro x1 x2 z hd; cases hd
    | succ n ih =>
      intro x1 x2 z hd H locs ls hW hl kx0
      unfold lpX5_gap_80 at hd
      refine lv_iload_n hx hb dX5_gap_80 rfl (lv_at hl 2 rfl) ?_
      refine lv_aload_n hx hb dX5_gap_81 rfl (lv_at hl 0 rfl) ?_
      refine lv_bipush (v := 6) hx hb dX5_gap_82 (by decide) ?_
      obtain ⟨r2, h1, hd⟩ := bp_e hd
      refine cVi_ (rest := [.int x2]) X (kX5_get l Dd Y ad F 6 r2 h1) (cwV 1 X.1.2.2.2.2 gX5_gap_X5_get rfl rfl rfl (by decide +kernel) ⟨Nat.le_of_ble_eq_true rfl, Nat.le_of_ble_eq_true rfl⟩) hW 0 5 rfl rfl rfl rfl hl.1 rfl (Nat.le_of_ble_eq_true rfl) dX5_gap_84 ⟨Nat.zero_le _, Nat.zero_le _⟩ (fun H locs hW => ?_)
      refine lv_icmp_ge (tgt := 137) hx hb dX5_gap_87 (by decide) (fun c3 => ?_) (fun c3 => ?_)
      · replace hd := if_t c3 hd
        cases hd
        exact kx0 _ _ _ rfl hW (lv_sub hl [1] rfl)
      · replace hd := if_f c3 hd
        refine lv_iload_n hx hb dX5_gap_90 rfl (lv_at hl 1 rfl) ?_
        refine lv_aload_n hx hb dX5_gap_91 rfl (lv_at hl 0 rfl) ?_
        refine lv_iload_n hx hb dX5_gap_92 rfl (lv_at hl 2 rfl) ?_
        obtain ⟨r5, h4, hd⟩ := bp_e hd
        refine cVi_ (rest := [.int x1]) X (kX5_keptFrom l Dd Y ad F x2 r5 h4) (cwV 1 X.1.2.2.2.2 gX5_gap_X5_keptFrom rfl rfl rfl (by decide +kernel) ⟨Nat.le_of_ble_eq_true rfl, Nat.le_of_ble_eq_true rfl⟩) hW 0 5 rfl rfl rfl rfl hl.1 rfl (Nat.le_of_ble_eq_true rfl) dX5_gap_93 ⟨Nat.zero_le _, Nat.zero_le _⟩ (fun H locs hW => ?_)
        refine lv_if_lt (tgt := 124) hx hb dX5_gap_96 (by decide) (fun c6 => ?_) (fun c6 => ?_)
        · replace hd := if_t c6 hd
          refine lv_iconst (v := 1) hx hb dX5_gap_124 (by decide) ?_
          refine lv_goto (tgt := 129) hx hb dX5_gap_125 (by decide) ?_
          refine lv_iadd hx hb dX5_gap_129 ?_
          refine lv_istore_n (lv' := [(1, .int (x1 + 1)), (0, .ref (ad 0)), (2, .int x2)]) hx hb dX5_gap_130 rfl hl (by decide) rfl (fun ls hl => ?_)
          refine lv_iinc (v := x2 + 1) (lv' := [(2, .int (x2 + 1)), (1, .int (x1 + 1)), (0, .ref (ad 0))]) hx hb dX5_gap_131 hl (k := 2) rfl rfl (by decide) rfl (fun ls hl => ?_)
          refine lv_goto (tgt := 80) hx hb dX5_gap_134 (by decide) ?_
          exact ih (x1 + 1) (x2 + 1) z hd _ _ _ hW (lv_sub hl [2, 1, 0] rfl) kx0
        · replace hd := if_f c6 hd
          refine lv_aload_n hx hb dX5_gap_99 rfl (lv_at hl 0 rfl) ?_
          refine lv_iload_n hx hb dX5_gap_100 rfl (lv_at hl 2 rfl) ?_
          obtain ⟨r8, h7, hd⟩ := bp_e hd
          refine cVi_ (rest := [.int x1]) X (kX5_keptTo l Dd Y ad F x2 r8 h7) (cwV 1 X.1.2.2.2.2 gX5_gap_X5_keptTo rfl rfl rfl (by decide +kernel) ⟨Nat.le_of_ble_eq_true rfl, Nat.le_of_ble_eq_true rfl⟩) hW 0 5 rfl rfl rfl rfl hl.1 rfl (Nat.le_of_ble_eq_true rfl) dX5_gap_101 ⟨Nat.zero_le _, Nat.zero_le _⟩ (fun H locs hW => ?_)
          refine lv_aload_n hx hb dX5_gap_104 rfl (lv_at hl 0 rfl) ?_
          obtain ⟨r10, h9, hd⟩ := bp_e hd
          refine cVi_ (rest := [.int r8, .int x1]) X (kX5_size l Dd Y ad F r10 h9) (cwV 0 X.1.2.2.2.2 gX5_gap_X5_size rfl rfl rfl (by decide +kernel) ⟨Nat.le_of_ble_eq_true rfl, Nat.le_of_ble_eq_true rfl⟩) hW 0 5 rfl rfl rfl rfl hl.1 rfl (Nat.le_of_ble_eq_true rfl) dX5_gap_105 ⟨Nat.zero_le _, Nat.zero_le _⟩ (fun H locs hW => ?_)
          refine lv_icmp_ge (tgt := 124) hx hb dX5_gap_108 (by decide) (fun c11 => ?_) (fun c11 => ?_)
          · replace hd := if_t c11 hd
            refine lv_iconst (v := 1) hx hb dX5_gap_124 (by decide) ?_
            refine lv_goto (tgt := 129) hx hb dX5_gap_125 (by decide) ?_
            refine lv_iadd hx hb dX5_gap_129 ?_
            refine lv_istore_n (lv' := [(1, .int (x1 + 1)), (0, .ref (ad 0)), (2, .int x2)]) hx hb dX5_gap_130 rfl hl (by decide) rfl (fun ls hl => ?_)
            refine lv_iinc (v := x2 + 1) (lv' := [(2, .int (x2 + 1)), (1, .int (x1 + 1)), (0, .ref (ad 0))]) hx hb dX5_gap_131 hl (k := 2) rfl rfl (by decide) rfl (fun ls hl => ?_)
            refine lv_goto (tgt := 80) hx hb dX5_gap_134 (by decide) ?_
            exact ih (x1 + 1) (x2 + 1) z hd _ _ _ hW (lv_sub hl [2, 1, 0] rfl) kx0
          · replace hd := if_f c11 hd
            refine lv_aload_n hx hb dX5_gap_111 rfl (lv_at hl 0 rfl) ?_
            refine lv_iload_n hx hb dX5_gap_112 rfl (lv_at hl 2 rfl) ?_
            obtain ⟨r13, h12, hd⟩ := bp_e hd
            refine cVi_ (rest := [.int x1]) X (kX5_keptFrom l Dd Y ad F x2 r13 h12) (cwV 1 X.1.2.2.2.2 gX5_gap_X5_keptFrom rfl rfl rfl (by decide +kernel) ⟨Nat.le_of_ble_eq_true rfl, Nat.le_of_ble_eq_true rfl⟩) hW 0 5 rfl rfl rfl rfl hl.1 rfl (Nat.le_of_ble_eq_true rfl) dX5_gap_113 ⟨Nat.zero_le _, Nat.zero_le _⟩ (fun H locs hW => ?_)
            refine lv_aload_n hx hb dX5_gap_116 rfl (lv_at hl 0 rfl) ?_
            refine lv_iload_n hx hb dX5_gap_117 rfl (lv_at hl 2 rfl) ?_
            obtain ⟨r15, h14, hd⟩ := bp_e hd
            refine cVi_ (rest := [.int r13, .int x1]) X (kX5_keptTo l Dd Y ad F x2 r15 h14) (cwV 1 X.1.2.2.2.2 gX5_gap_X5_keptTo rfl rfl rfl (by decide +kernel) ⟨Nat.le_of_ble_eq_true rfl, Nat.le_of_ble_eq_true rfl⟩) hW 0 5 rfl rfl rfl rfl hl.1 rfl (Nat.le_of_ble_eq_true rfl) dX5_gap_118 ⟨Nat.zero_le _, Nat.zero_le _⟩ (fun H locs hW => ?_)
            refine lv_icmp_le (tgt := 128) hx hb dX5_gap_121 (by decide) (fun c16 => ?_) (fun c16 => ?_)
            · replace hd := if_t c16 hd
              refine lv_iconst (v := 0) hx hb dX5_gap_128 (by decide) ?_
              refine lv_iadd hx hb dX5_gap_129 ?_
              refine lv_istore_n (lv' := [(1, .int (x1 + 0)), (0, .ref (ad 0)), (2, .int x2)]) hx hb dX5_gap_130 rfl hl (by decide) rfl (fun ls hl => ?_)
              refine lv_iinc (v := x2 + 1) (lv' := [(2, .int (x2 + 1)), (1, .int (x1 + 0)), (0, .ref (ad 0))]) hx hb dX5_gap_131 hl (k := 2) rfl rfl (by decide) rfl (fun ls hl => ?_)
              refine lv_goto (tgt := 80) hx hb dX5_gap_134 (by decide) ?_
              exact ih (x1 + 0) (x2 + 1) z hd _ _ _ hW (lv_sub hl [2, 1, 0] rfl) kx0
            · replace hd := if_f c16 hd
              refine lv_iconst (v := 1) hx hb dX5_gap_124 (by decide) ?_
              refine lv_goto (tgt := 129) hx hb dX5_gap_125 (by decide) ?_
              refine lv_iadd hx hb dX5_gap_129 ?_
              refine lv_istore_n (lv' := [(1, .int (x1 + 1)), (0, .ref (ad 0)), (2, .int x2)]) hx hb dX5_gap_130 rfl hl (by decide) rfl (fun ls hl => ?_)
              refine lv_iinc (v := x2 + 1) (lv' := [(2, .int (x2 + 1)), (1, .int (x1 + 1)), (0, .ref (ad 0))]) hx hb dX5_gap_131 hl (k := 2) rfl rfl (by decide) rfl (fun ls hl => ?_)
              refine lv_goto (tgt := 80) hx hb dX5_gap_134 (by decide) ?_
              exact ih (x1 + 1) (x2 + 1) z hd _ _ _ hW (lv_sub hl [2, 1, 0] rfl) kx0
  have K16 : ∀ (F : gF) (x2 : Int32) (n : Nat) (x1 : Int32) (x3 : Int32) (z : Nat × Int32), lpX5_gap_16 F x2 n x1 x3 = some z → ∀ (H : Heap) (locs : List Loc) (ls : Array Slot), Wd Dd A s.heap (WM Y ad F) H locs → lv_has ls 4 [(0, .ref (ad 0)), (1, .int x1), (2, .int x2), (3, .int x3)] → (∀ (H : Heap) (locs : List Loc) (ls : Array Slot), z.1 = 0 → Wd Dd A s.heap (WM Y ad F) H locs → lv_has ls 4 [(0, .ref (ad 0)), (1, .int z.2), (2, .int x2)] → W p l e rmX5_gap s m args below meth c H locs 0 0 Q (F0 m 72 ls [])) → W p l e rmX5_gap s m args below meth c H locs 0 0 Q (F0 m 16 ls []) := by
    intro F x2 n
    induction n with
    | zero => intro x1 x3 z hd; cases hd
    | succ n ih =>
      intro x1 x3 z hd H locs ls hW hl kx0
      unfold lpX5_gap_16 at hd
      refine lv_iload_n hx hb dX5_gap_16 rfl (lv_at hl 3 rfl) ?_
      refine lv_aload_n hx hb dX5_gap_17 rfl (lv_at hl 0 rfl) ?_
      refine lv_iload_n hx hb dX5_gap_18 rfl (lv_at hl 2 rfl) ?_
      obtain ⟨r18, h17, hd⟩ := bp_e hd
      refine cVi_ (rest := [.int x3]) X (kX5_cellsOn l Dd Y ad F x2 r18 h17) (cwV 1 X.1.2.2.2.2 gX5_gap_X5_cellsOn rfl rfl rfl (by decide +kernel) ⟨Nat.le_of_ble_eq_true rfl, Nat.le_of_ble_eq_true rfl⟩) hW 0 5 rfl rfl rfl rfl hl.1 rfl (Nat.le_of_ble_eq_true rfl) dX5_gap_19 ⟨Nat.zero_le _, Nat.zero_le _⟩ (fun H locs hW => ?_)
      refine lv_icmp_ge (tgt := 72) hx hb dX5_gap_22 (by decide) (fun c19 => ?_) (fun c19 => ?_)
      · replace hd := if_t c19 hd
        cases hd
        exact kx0 _ _ _ rfl hW (lv_sub hl [0, 1, 2] rfl)
      · replace hd := if_f c19 hd
        refine lv_iload_n hx hb dX5_gap_25 rfl (lv_at hl 1 rfl) ?_
        refine lv_aload_n hx hb dX5_gap_26 rfl (lv_at hl 0 rfl) ?_
        refine lv_iload_n hx hb dX5_gap_27 rfl (lv_at hl 2 rfl) ?_
        refine lv_iload_n hx hb dX5_gap_28 rfl (lv_at hl 3 rfl) ?_
        obtain ⟨r21, h20, hd⟩ := bp_e hd
        refine cVi_ (rest := [.int x1]) X (kX5_hasWaiting l Dd Y ad F x2 x3 r21 h20) (cwV 2 X.1.2.2.2.2 gX5_gap_X5_hasWaiting rfl rfl rfl (by decide +kernel) ⟨Nat.le_of_ble_eq_true rfl, Nat.le_of_ble_eq_true rfl⟩) hW 0 5 rfl rfl rfl rfl hl.1 rfl (Nat.le_of_ble_eq_true rfl) dX5_gap_29 ⟨Nat.zero_le _, Nat.zero_le _⟩ (fun H locs hW => ?_)
        refine lv_if_ne (tgt := 63) hx hb dX5_gap_32 (by decide) (fun c22 => ?_) (fun c22 => ?_)
        · replace hd := if_f c22 hd
          refine lv_iconst (v := 0) hx hb dX5_gap_63 (by decide) ?_
          refine lv_iadd hx hb dX5_gap_64 ?_
          refine lv_istore_n (lv' := [(1, .int (x1 + 0)), (0, .ref (ad 0)), (2, .int x2), (3, .int x3)]) hx hb dX5_gap_65 rfl hl (by decide) rfl (fun ls hl => ?_)
          refine lv_iinc (v := x3 + 1) (lv' := [(3, .int (x3 + 1)), (1, .int (x1 + 0)), (0, .ref (ad 0)), (2, .int x2)]) hx hb dX5_gap_66 hl (k := 3) rfl rfl (by decide) rfl (fun ls hl => ?_)
          refine lv_goto (tgt := 16) hx hb dX5_gap_69 (by decide) ?_
          exact ih (x1 + 0) (x3 + 1) z hd _ _ _ hW (lv_sub hl [2, 1, 3, 0] rfl) kx0
        · replace hd := if_t c22 hd
          refine lv_aload_n hx hb dX5_gap_35 rfl (lv_at hl 0 rfl) ?_
          refine lv_iload_n hx hb dX5_gap_36 rfl (lv_at hl 2 rfl) ?_
          refine lv_iload_n hx hb dX5_gap_37 rfl (lv_at hl 3 rfl) ?_
          obtain ⟨r24, h23, hd⟩ := bp_e hd
          refine cSi_ (rest := [.ref (ad 0), .int x1]) X (kX5_cellAt l Dd Y x2 x3 r24 h23) (va_cwS 2 X.1.2.2.2.2 gX5_gap_X5_cellAt rfl rfl rfl (by decide +kernel) ⟨Nat.le_of_ble_eq_true rfl, Nat.le_of_ble_eq_true rfl⟩) hW rfl hl.1 rfl (Nat.le_of_ble_eq_true rfl) dX5_gap_38 ⟨Nat.zero_le _, Nat.zero_le _⟩ (fun H locs hW => ?_)
          obtain ⟨r26, h25, hd⟩ := bp_e hd
          refine cVi_ (rest := [.int x1]) X (kX5_get l Dd Y ad F r24 r26 h25) (cwV 1 X.1.2.2.2.2 gX5_gap_X5_get rfl rfl rfl (by decide +kernel) ⟨Nat.le_of_ble_eq_true rfl, Nat.le_of_ble_eq_true rfl⟩) hW 0 5 rfl rfl rfl rfl hl.1 rfl (Nat.le_of_ble_eq_true rfl) dX5_gap_41 ⟨Nat.zero_le _, Nat.zero_le _⟩ (fun H locs hW => ?_)
          refine lv_aload_n hx hb dX5_gap_44 rfl (lv_at hl 0 rfl) ?_
          refine lv_iload_n hx hb dX5_gap_45 rfl (lv_at hl 3 rfl) ?_
          refine lv_iload_n hx hb dX5_gap_46 rfl (lv_at hl 3 rfl) ?_
          refine lv_iconst (v := 1) hx hb dX5_gap_47 (by decide) ?_
          refine lv_iload_n hx hb dX5_gap_48 rfl (lv_at hl 2 rfl) ?_
          refine lv_ishl hx hb dX5_gap_49 ?_
          refine lv_iadd hx hb dX5_gap_50 ?_
          refine lv_iconst (v := 1) hx hb dX5_gap_51 (by decide) ?_
          refine lv_isub hx hb dX5_gap_52 ?_
          obtain ⟨r28, h27, hd⟩ := bp_e hd
          refine cVi_ (rest := [.int r26, .int x1]) X (kX5_leastIn l Dd Y ad F x3 ((x3 + ((1 : Int32) <<< (x2 &&& 31))) - 1) r28 h27) (cwV 2 X.1.2.2.2.2 gX5_gap_X5_leastIn rfl rfl rfl (by decide +kernel) ⟨Nat.le_of_ble_eq_true rfl, Nat.le_of_ble_eq_true rfl⟩) hW 0 5 rfl rfl rfl rfl hl.1 rfl (Nat.le_of_ble_eq_true rfl) dX5_gap_53 ⟨Nat.zero_le _, Nat.zero_le _⟩ (fun H locs hW => ?_)
          refine lv_icmp_eq (tgt := 63) hx hb dX5_gap_56 (by decide) (fun c29 => ?_) (fun c29 => ?_)
          · replace hd := if_t c29 hd
            refine lv_iconst (v := 0) hx hb dX5_gap_63 (by decide) ?_
            refine lv_iadd hx hb dX5_gap_64 ?_
            refine lv_istore_n (lv' := [(1, .int (x1 + 0)), (0, .ref (ad 0)), (2, .int x2), (3, .int x3)]) hx hb dX5_gap_65 rfl hl (by decide) rfl (fun ls hl => ?_)
            refine lv_iinc (v := x3 + 1) (lv' := [(3, .int (x3 + 1)), (1, .int (x1 + 0)), (0, .ref (ad 0)), (2, .int x2)]) hx hb dX5_gap_66 hl (k := 3) rfl rfl (by decide) rfl (fun ls hl => ?_)
            refine lv_goto (tgt := 16) hx hb dX5_gap_69 (by decide) ?_
            exact ih (x1 + 0) (x3 + 1) z hd _ _ _ hW (lv_sub hl [2, 1, 3, 0] rfl) kx0
          · replace hd := if_f c29 hd
            refine lv_iconst (v := 1) hx hb dX5_gap_59 (by decide) ?_
            refine lv_goto (tgt := 64) hx hb dX5_gap_60 (by decide) ?_
            refine lv_iadd hx hb dX5_gap_64 ?_
            refine lv_istore_n (lv' := [(1, .int (x1 + 1)), (0, .ref (ad 0)), (2, .int x2), (3, .int x3)]) hx hb dX5_gap_65 rfl hl (by decide) rfl (fun ls hl => ?_)
            refine lv_iinc (v := x3 + 1) (lv' := [(3, .int (x3 + 1)), (1, .int (x1 + 1)), (0, .ref (ad 0)), (2, .int x2)]) hx hb dX5_gap_66 hl (k := 3) rfl rfl (by decide) rfl (fun ls hl => ?_)
            refine lv_goto (tgt := 16) hx hb dX5_gap_69 (by decide) ?_
            exact ih (x1 + 1) (x3 + 1) z hd _ _ _ hW (lv_sub hl [2, 1, 3, 0] rfl) kx0
  have K9 : ∀ (F : gF) (n : Nat) (x1 : Int32) (x2 : Int32) (z : Nat × Int32), lpX5_gap_9 F n x1 x2 = some z → ∀ (H : Heap) (locs : List Loc) (ls : Array Slot), Wd Dd A s.heap (WM Y ad F) H locs → lv_has ls 4 [(0, .ref (ad 0)), (1, .int x1), (2, .int x2)] → (∀ (H : Heap) (locs : List Loc) (ls : Array Slot), z.1 = 0 → Wd Dd A s.heap (WM Y ad F) H locs → lv_has ls 4 [(0, .ref (ad 0)), (1, .int z.2)] → W p l e rmX5_gap s m args below meth c H locs 0 0 Q (F0 m 78 ls [])) → W p l e rmX5_gap s m args below meth c H locs 0 0 Q (F0 m 9 ls []) := by
    intro F n
    induction n with
    | zero => intro x1 x2 z hd; cases hd
    | succ n ih =>
      intro x1 x2 z hd H locs ls hW hl kx0
      unfold lpX5_gap_9 at hd
      refine lv_iload_n hx hb dX5_gap_9 rfl (lv_at hl 2 rfl) ?_
      refine lv_iconst (v := 5) hx hb dX5_gap_10 (by decide) ?_
      refine lv_icmp_gt (tgt := 78) hx hb dX5_gap_11 (by decide) (fun c30 => ?_) (fun c30 => ?_)
      · replace hd := if_t c30 hd
        cases hd
        exact kx0 _ _ _ rfl hW (lv_sub hl [0, 1] rfl)
      · replace hd := if_f c30 hd
        refine lv_iconst (v := 0) hx hb dX5_gap_14 (by decide) ?_
        refine lv_istore_n (lv' := [(3, .int 0), (0, .ref (ad 0)), (1, .int x1), (2, .int x2)]) hx hb dX5_gap_15 rfl hl (by decide) rfl (fun ls hl => ?_)
        obtain ⟨z16_30, hz16_30, hd⟩ := bp_e hd
        refine K16 F x2 FU x1 0 z16_30 hz16_30 _ _ _ hW (lv_sub hl [1, 2, 3, 0] rfl) (fun H locs ls e16 hW hl => ?_)
        refine lv_iinc (v := x2 + 1) (lv' := [(2, .int (x2 + 1)), (0, .ref (ad 0)), (1, .int z16_30.2)]) hx hb dX5_gap_72 hl (k := 2) rfl rfl (by decide) rfl (fun ls hl => ?_)
        refine lv_goto (tgt := 9) hx hb dX5_gap_75 (by decide) ?_
        exact ih z16_30.2 (x2 + 1) z hd _ _ _ hW (lv_sub hl [1, 2, 0] rfl) kx0
  refine lv_aload_n hx hb dX5_gap_0 rfl (lv_at hl 0 rfl) ?_
  refine lv_iconst (v := 0) hx hb dX5_gap_1 (by decide) ?_
  obtain ⟨F32, eF32, hd⟩ := bw_e hd
  refine p_ (ty := .int) X hinX5 tyX5 tyX5_ok nmX5 hW 0 rfl rfl 0 (by decide) 1 rfl rfl rfl (by decide +kernel) rfl rfl (Nat.le_of_ble_eq_true rfl) dX5_gap_2 (ws' := (WM Y ad F32)) (by rw [eF32]; rfl) (fun H locs hW => ?_)
  refine lv_iconst (v := 0) hx hb dX5_gap_5 (by decide) ?_
  refine lv_istore_n (lv' := [(1, .int 0), (0, .ref (ad 0))]) hx hb dX5_gap_6 rfl hl (by decide) rfl (fun ls hl => ?_)
  refine lv_iconst (v := 1) hx hb dX5_gap_7 (by decide) ?_
  refine lv_istore_n (lv' := [(2, .int 1), (1, .int 0), (0, .ref (ad 0))]) hx hb dX5_gap_8 rfl hl (by decide) rfl (fun ls hl => ?_)
  obtain ⟨z9_32, hz9_32, hd⟩ := bp_e hd
  refine K9 F32 FU 0 1 z9_32 hz9_32 _ _ _ hW (lv_sub hl [2, 1, 0] rfl) (fun H locs ls e9 hW hl => ?_)
  refine lv_iconst (v := 0) hx hb dX5_gap_78 (by decide) ?_
  refine lv_istore_n (lv' := [(2, .int 0), (0, .ref (ad 0)), (1, .int z9_32.2)]) hx hb dX5_gap_79 rfl hl (by decide) rfl (fun ls hl => ?_)
  obtain ⟨z80_33, hz80_33, hd⟩ := bp_e hd
  refine K80 F32 FU z9_32.2 0 z80_33 hz80_33 _ _ _ hW (lv_sub hl [1, 2, 0] rfl) (fun H locs ls e80 hW hl => ?_)
  refine lv_iload_n hx hb dX5_gap_137 rfl (lv_at hl 0 rfl) ?_
  obtain ⟨rfl, rfl⟩ := Prod.mk.inj (Option.some.inj hd)
  exact hQ _ _ _ _ rfl hW dX5_gap_138
abbrev rmX5_isValue : Room := { frames := 1, cells := 0, slots := 0, locals := 22 }
set_option maxRecDepth 100000 in
set_option maxHeartbeats 4000000 in
theorem kX5_isValue (l : Launch) (Dd : va_G) (Y : yT) (x0 : Int32) (r : Int32) (hd : dnX5_isValue x0 = some r) : MG l yX5_isValue wsX5_isValue rmX5_isValue Dd Y [.int x0] [] [] (some (.int r)) := by
  refine MGi (cc := cX5_isValue) (maxL := 1) (ty := .boolean) (by decide) rfl (Nat.le_of_ble_eq_true rfl) (fun {p e s m args below meth c A} ls Q X hW hl hQ => ?_)
  have hx := X.x
  have hb := X.b
  have hl : lv_has ls 1 [(0, .int x0)] := hl
  unfold dnX5_isValue at hd
  refine lv_iload_n hx hb dX5_isValue_0 rfl (lv_at hl 0 rfl) ?_
  refine lv_sipush (v := (-999)) hx hb dX5_isValue_1 (by decide) ?_
  refine lv_sipush (v := 999) hx hb dX5_isValue_4 (by decide) ?_
  obtain ⟨r2, h1, hd⟩ := bp_e hd
  refine cSi_ (rest := []) X (kX5_isIn l Dd Y x0 (-999) 999 r2 h1) (va_cwS 3 X.1.2.2.2.2 gX5_isValue_X5_isIn rfl rfl rfl (by decide +kernel) ⟨Nat.le_of_ble_eq_true rfl, Nat.le_of_ble_eq_true rfl⟩) hW rfl hl.1 rfl (Nat.le_of_ble_eq_true rfl) dX5_isValue_7 ⟨Nat.zero_le _, Nat.zero_le _⟩ (fun H locs hW => ?_)
  obtain ⟨hz3, hd⟩ := rz_e hd
  subst hd
  exact hQ _ _ _ _ (nz_b hz3) hW dX5_isValue_10
abbrev rmX5_set : Room := { frames := 6, cells := 0, slots := 0, locals := 135 }
set_option maxRecDepth 100000 in
set_option maxHeartbeats 4000000 in
theorem kX5_set (l : Launch) (Dd : va_G) (Y : yT) (ad : Nat → Nat) (F : gF) (x1 : Int32) (x2 : Int32) (r : Int32) (F' : gF) (hd : dnX5_set F x1 x2 = some (r, F')) : MG l yX5_set wsX5_set rmX5_set Dd Y [.ref (ad 0), .int x1, .int x2] (WM Y ad F) (WM Y ad F') (some (.int r)) := by
  refine MGi (cc := cX5_set) (maxL := 3) (ty := .int) (by decide) rfl (Nat.le_of_ble_eq_true rfl) (fun {p e s m args below meth c A} ls Q X hW hl hQ => ?_)
  have hx := X.x
  have hb := X.b
  have hl : lv_has ls 3 [(0, .ref (ad 0)), (1, .int x1), (2, .int x2)] := hl
  have hinX5 : ∀ w ∈ wsX50, w ∈ wsX5_set := fun w h => List.mem_cons_of_mem _ (List.mem_append_right _ h)
  unfold dnX5_set at hd
  refine lv_aload_n hx hb dX5_set_0 rfl (lv_at hl 0 rfl) ?_
  refine lv_iconst (v := 0) hx hb dX5_set_1 (by decide) ?_
  obtain ⟨F1, eF1, hd⟩ := bw_e hd
  refine p_ (ty := .int) X hinX5 tyX5 tyX5_ok nmX5 hW 0 rfl rfl 0 (by decide) 1 rfl rfl rfl (by decide +kernel) rfl rfl (Nat.le_of_ble_eq_true rfl) dX5_set_2 (ws' := (WM Y ad F1)) (by rw [eF1]; rfl) (fun H locs hW => ?_)
  refine lv_aload_n hx hb dX5_set_5 rfl (lv_at hl 0 rfl) ?_
  refine lv_aload_n hx hb dX5_set_6 rfl (lv_at hl 0 rfl) ?_
  refine lv_iload_n hx hb dX5_set_7 rfl (lv_at hl 1 rfl) ?_
  obtain ⟨r3, h2, hd⟩ := bp_e hd
  refine cVi_ (rest := [.ref (ad 0)]) X (kX5_isPlace l Dd Y ad F1 x1 r3 h2) (cwV 1 X.1.2.2.2.2 gX5_set_X5_isPlace rfl rfl rfl (by decide +kernel) ⟨Nat.le_of_ble_eq_true rfl, Nat.le_of_ble_eq_true rfl⟩) hW 0 5 rfl rfl rfl rfl hl.1 rfl (Nat.le_of_ble_eq_true rfl) dX5_set_8 ⟨Nat.zero_le _, Nat.zero_le _⟩ (fun H locs hW => ?_)
  refine lv_iconst (v := 1) hx hb dX5_set_11 (by decide) ?_
  obtain ⟨r5, F6, h4, hd⟩ := bs_e hd
  refine cVi_ (rest := []) X (kX5_right l Dd Y ad F1 r3 1 r5 F6 h4) (cwV 2 X.1.2.2.2.2 gX5_set_X5_right rfl rfl rfl (by decide +kernel) ⟨Nat.le_of_ble_eq_true rfl, Nat.le_of_ble_eq_true rfl⟩) hW 0 5 rfl rfl rfl rfl hl.1 rfl (Nat.le_of_ble_eq_true rfl) dX5_set_12 ⟨Nat.zero_le _, Nat.zero_le _⟩ (fun H locs hW => ?_)
  refine lv_if_eq (tgt := 30) hx hb dX5_set_15 (by decide) (fun c7 => ?_) (fun c7 => ?_)
  · replace hd := if_t c7 hd
    refine lv_iconst (v := 0) hx hb dX5_set_30 (by decide) ?_
    obtain ⟨rfl, rfl⟩ := Prod.mk.inj (Option.some.inj hd)
    exact hQ _ _ _ _ rfl hW dX5_set_31
  · replace hd := if_f c7 hd
    refine lv_aload_n hx hb dX5_set_18 rfl (lv_at hl 0 rfl) ?_
    refine lv_iload_n hx hb dX5_set_19 rfl (lv_at hl 2 rfl) ?_
    obtain ⟨r9, h8, hd⟩ := bp_e hd
    refine cSi_ (rest := [.ref (ad 0)]) X (kX5_isValue l Dd Y x2 r9 h8) (va_cwS 1 X.1.2.2.2.2 gX5_set_X5_isValue rfl rfl rfl (by decide +kernel) ⟨Nat.le_of_ble_eq_true rfl, Nat.le_of_ble_eq_true rfl⟩) hW rfl hl.1 rfl (Nat.le_of_ble_eq_true rfl) dX5_set_20 ⟨Nat.zero_le _, Nat.zero_le _⟩ (fun H locs hW => ?_)
    refine lv_iconst (v := 2) hx hb dX5_set_23 (by decide) ?_
    obtain ⟨r11, F12, h10, hd⟩ := bs_e hd
    refine cVi_ (rest := []) X (kX5_right l Dd Y ad F6 r9 2 r11 F12 h10) (cwV 2 X.1.2.2.2.2 gX5_set_X5_right rfl rfl rfl (by decide +kernel) ⟨Nat.le_of_ble_eq_true rfl, Nat.le_of_ble_eq_true rfl⟩) hW 0 5 rfl rfl rfl rfl hl.1 rfl (Nat.le_of_ble_eq_true rfl) dX5_set_24 ⟨Nat.zero_le _, Nat.zero_le _⟩ (fun H locs hW => ?_)
    refine lv_if_ne (tgt := 32) hx hb dX5_set_27 (by decide) (fun c13 => ?_) (fun c13 => ?_)
    · replace hd := if_f c13 hd
      refine lv_aload_n hx hb dX5_set_32 rfl (lv_at hl 0 rfl) ?_
      obtain ⟨F15, h14, hd⟩ := bp_e hd
      refine cVv_ (rest := []) X (kX5_change l Dd Y ad F12 F15 h14) (cwV 0 X.1.2.2.2.2 gX5_set_X5_change rfl rfl rfl (by decide +kernel) ⟨Nat.le_of_ble_eq_true rfl, Nat.le_of_ble_eq_true rfl⟩) hW 0 5 rfl rfl rfl rfl hl.1 rfl (Nat.le_of_ble_eq_true rfl) dX5_set_33 ⟨Nat.zero_le _, Nat.zero_le _⟩ (fun H locs hW => ?_)
      refine lv_aload_n hx hb dX5_set_36 rfl (lv_at hl 0 rfl) ?_
      refine lv_iload_n hx hb dX5_set_37 rfl (lv_at hl 1 rfl) ?_
      refine lv_iload_n hx hb dX5_set_38 rfl (lv_at hl 2 rfl) ?_
      obtain ⟨r17, F18, h16, hd⟩ := bs_e hd
      refine cVi_ (rest := []) X (kX5_sets l Dd Y ad F15 x1 x2 r17 F18 h16) (cwV 2 X.1.2.2.2.2 gX5_set_X5_sets rfl rfl rfl (by decide +kernel) ⟨Nat.le_of_ble_eq_true rfl, Nat.le_of_ble_eq_true rfl⟩) hW 0 5 rfl rfl rfl rfl hl.1 rfl (Nat.le_of_ble_eq_true rfl) dX5_set_39 ⟨Nat.zero_le _, Nat.zero_le _⟩ (fun H locs hW => ?_)
      obtain ⟨rfl, rfl⟩ := Prod.mk.inj (Option.some.inj hd)
      exact hQ _ _ _ _ rfl hW dX5_set_42
    · replace hd := if_t c13 hd
      refine lv_iconst (v := 0) hx hb dX5_set_30 (by decide) ?_
      obtain ⟨rfl, rfl⟩ := Prod.mk.inj (Option.some.inj hd)
      exact hQ _ _ _ _ rfl hW dX5_set_31
abbrev rmX5_ask : Room := { frames := 6, cells := 0, slots := 0, locals := 136 }
set_option maxRecDepth 100000 in
set_option maxHeartbeats 4000000 in
theorem kX5_ask (l : Launch) (Dd : va_G) (Y : yT) (ad : Nat → Nat) (F : gF) (x1 : Int32) (x2 : Int32) (r : Int32) (F' : gF) (hd : dnX5_ask F x1 x2 = some (r, F')) : MG l yX5_ask wsX5_ask rmX5_ask Dd Y [.ref (ad 0), .int x1, .int x2] (WM Y ad F) (WM Y ad F') (some (.int r)) := by
  refine MGi (cc := cX5_ask) (maxL := 3) (ty := .int) (by decide) rfl (Nat.le_of_ble_eq_true rfl) (fun {p e s m args below meth c A} ls Q X hW hl hQ => ?_)
  have hx := X.x
  have hb := X.b
  have hl : lv_has ls 3 [(0, .ref (ad 0)), (1, .int x1), (2, .int x2)] := hl
  have hinX5 : ∀ w ∈ wsX50, w ∈ wsX5_ask := fun w h => List.mem_cons_of_mem _ (List.mem_append_right _ h)
  unfold dnX5_ask at hd
  refine lv_aload_n hx hb dX5_ask_0 rfl (lv_at hl 0 rfl) ?_
  refine lv_iconst (v := 0) hx hb dX5_ask_1 (by decide) ?_
  obtain ⟨F1, eF1, hd⟩ := bw_e hd
  refine p_ (ty := .int) X hinX5 tyX5 tyX5_ok nmX5 hW 0 rfl rfl 0 (by decide) 1 rfl rfl rfl (by decide +kernel) rfl rfl (Nat.le_of_ble_eq_true rfl) dX5_ask_2 (ws' := (WM Y ad F1)) (by rw [eF1]; rfl) (fun H locs hW => ?_)
  refine lv_aload_n hx hb dX5_ask_5 rfl (lv_at hl 0 rfl) ?_
  refine lv_iload_n hx hb dX5_ask_6 rfl (lv_at hl 1 rfl) ?_
  refine lv_iload_n hx hb dX5_ask_7 rfl (lv_at hl 2 rfl) ?_
  obtain ⟨r3, F4, h2, hd⟩ := bs_e hd
  refine cVi_ (rest := []) X (kX5_isStretch l Dd Y ad F1 x1 x2 r3 F4 h2) (cwV 2 X.1.2.2.2.2 gX5_ask_X5_isStretch rfl rfl rfl (by decide +kernel) ⟨Nat.le_of_ble_eq_true rfl, Nat.le_of_ble_eq_true rfl⟩) hW 0 5 rfl rfl rfl rfl hl.1 rfl (Nat.le_of_ble_eq_true rfl) dX5_ask_8 ⟨Nat.zero_le _, Nat.zero_le _⟩ (fun H locs hW => ?_)
  refine lv_if_ne (tgt := 16) hx hb dX5_ask_11 (by decide) (fun c5 => ?_) (fun c5 => ?_)
  · replace hd := if_f c5 hd
    refine lv_aload_n hx hb dX5_ask_16 rfl (lv_at hl 0 rfl) ?_
    obtain ⟨F7, h6, hd⟩ := bp_e hd
    refine cVv_ (rest := []) X (kX5_change l Dd Y ad F4 F7 h6) (cwV 0 X.1.2.2.2.2 gX5_ask_X5_change rfl rfl rfl (by decide +kernel) ⟨Nat.le_of_ble_eq_true rfl, Nat.le_of_ble_eq_true rfl⟩) hW 0 5 rfl rfl rfl rfl hl.1 rfl (Nat.le_of_ble_eq_true rfl) dX5_ask_17 ⟨Nat.zero_le _, Nat.zero_le _⟩ (fun H locs hW => ?_)
    refine lv_aload_n hx hb dX5_ask_20 rfl (lv_at hl 0 rfl) ?_
    refine lv_iload_n hx hb dX5_ask_21 rfl (lv_at hl 1 rfl) ?_
    refine lv_iload_n hx hb dX5_ask_22 rfl (lv_at hl 2 rfl) ?_
    obtain ⟨r9, F10, h8, hd⟩ := bs_e hd
    refine cVi_ (rest := []) X (kX5_asks l Dd Y ad F7 x1 x2 r9 F10 h8) (cwV 2 X.1.2.2.2.2 gX5_ask_X5_asks rfl rfl rfl (by decide +kernel) ⟨Nat.le_of_ble_eq_true rfl, Nat.le_of_ble_eq_true rfl⟩) hW 0 5 rfl rfl rfl rfl hl.1 rfl (Nat.le_of_ble_eq_true rfl) dX5_ask_23 ⟨Nat.zero_le _, Nat.zero_le _⟩ (fun H locs hW => ?_)
    obtain ⟨rfl, rfl⟩ := Prod.mk.inj (Option.some.inj hd)
    exact hQ _ _ _ _ rfl hW dX5_ask_26
  · replace hd := if_t c5 hd
    refine lv_iconst (v := 0) hx hb dX5_ask_14 (by decide) ?_
    obtain ⟨rfl, rfl⟩ := Prod.mk.inj (Option.some.inj hd)
    exact hQ _ _ _ _ rfl hW dX5_ask_15
abbrev rmX5_keep : Room := { frames := 4, cells := 0, slots := 0, locals := 84 }
set_option maxRecDepth 100000 in
set_option maxHeartbeats 4000000 in
theorem kX5_keep (l : Launch) (Dd : va_G) (Y : yT) (ad : Nat → Nat) (F : gF) (x1 : Int32) (x2 : Int32) (r : Int32) (F' : gF) (hd : dnX5_keep F x1 x2 = some (r, F')) : MG l yX5_keep wsX5_keep rmX5_keep Dd Y [.ref (ad 0), .int x1, .int x2] (WM Y ad F) (WM Y ad F') (some (.int r)) := by
  refine MGi (cc := cX5_keep) (maxL := 3) (ty := .int) (by decide) rfl (Nat.le_of_ble_eq_true rfl) (fun {p e s m args below meth c A} ls Q X hW hl hQ => ?_)
  have hx := X.x
  have hb := X.b
  have hl : lv_has ls 3 [(0, .ref (ad 0)), (1, .int x1), (2, .int x2)] := hl
  have hinX5 : ∀ w ∈ wsX50, w ∈ wsX5_keep := fun w h => List.mem_cons_of_mem _ (List.mem_append_right _ h)
  unfold dnX5_keep at hd
  refine lv_aload_n hx hb dX5_keep_0 rfl (lv_at hl 0 rfl) ?_
  refine lv_iconst (v := 0) hx hb dX5_keep_1 (by decide) ?_
  obtain ⟨F1, eF1, hd⟩ := bw_e hd
  refine p_ (ty := .int) X hinX5 tyX5 tyX5_ok nmX5 hW 0 rfl rfl 0 (by decide) 1 rfl rfl rfl (by decide +kernel) rfl rfl (Nat.le_of_ble_eq_true rfl) dX5_keep_2 (ws' := (WM Y ad F1)) (by rw [eF1]; rfl) (fun H locs hW => ?_)
  refine lv_aload_n hx hb dX5_keep_5 rfl (lv_at hl 0 rfl) ?_
  refine lv_iload_n hx hb dX5_keep_6 rfl (lv_at hl 1 rfl) ?_
  refine lv_iload_n hx hb dX5_keep_7 rfl (lv_at hl 2 rfl) ?_
  obtain ⟨r3, F4, h2, hd⟩ := bs_e hd
  refine cVi_ (rest := []) X (kX5_isStretch l Dd Y ad F1 x1 x2 r3 F4 h2) (cwV 2 X.1.2.2.2.2 gX5_keep_X5_isStretch rfl rfl rfl (by decide +kernel) ⟨Nat.le_of_ble_eq_true rfl, Nat.le_of_ble_eq_true rfl⟩) hW 0 5 rfl rfl rfl rfl hl.1 rfl (Nat.le_of_ble_eq_true rfl) dX5_keep_8 ⟨Nat.zero_le _, Nat.zero_le _⟩ (fun H locs hW => ?_)
  refine lv_if_eq (tgt := 38) hx hb dX5_keep_11 (by decide) (fun c5 => ?_) (fun c5 => ?_)
  · replace hd := if_t c5 hd
    refine lv_iconst (v := 0) hx hb dX5_keep_38 (by decide) ?_
    obtain ⟨rfl, rfl⟩ := Prod.mk.inj (Option.some.inj hd)
    exact hQ _ _ _ _ rfl hW dX5_keep_39
  · replace hd := if_f c5 hd
    refine lv_aload_n hx hb dX5_keep_14 rfl (lv_at hl 0 rfl) ?_
    refine lv_aload_n hx hb dX5_keep_15 rfl (lv_at hl 0 rfl) ?_
    refine lv_bipush (v := 6) hx hb dX5_keep_16 (by decide) ?_
    obtain ⟨r7, h6, hd⟩ := bp_e hd
    refine cVi_ (rest := [.ref (ad 0)]) X (kX5_get l Dd Y ad F4 6 r7 h6) (cwV 1 X.1.2.2.2.2 gX5_keep_X5_get rfl rfl rfl (by decide +kernel) ⟨Nat.le_of_ble_eq_true rfl, Nat.le_of_ble_eq_true rfl⟩) hW 0 5 rfl rfl rfl rfl hl.1 rfl (Nat.le_of_ble_eq_true rfl) dX5_keep_18 ⟨Nat.zero_le _, Nat.zero_le _⟩ (fun H locs hW => ?_)
    refine lv_bipush (v := 8) hx hb dX5_keep_21 (by decide) ?_
    refine lv_icmp_ge (tgt := 30) hx hb dX5_keep_23 (by decide) (fun c8 => ?_) (fun c8 => ?_)
    · replace hd := if_t c8 hd
      refine lv_iconst (v := 0) hx hb dX5_keep_30 (by decide) ?_
      refine lv_iconst (v := 3) hx hb dX5_keep_31 (by decide) ?_
      obtain ⟨r10, F11, h9, hd⟩ := bs_e hd
      refine cVi_ (rest := []) X (kX5_right l Dd Y ad F4 0 3 r10 F11 h9) (cwV 2 X.1.2.2.2.2 gX5_keep_X5_right rfl rfl rfl (by decide +kernel) ⟨Nat.le_of_ble_eq_true rfl, Nat.le_of_ble_eq_true rfl⟩) hW 0 5 rfl rfl rfl rfl hl.1 rfl (Nat.le_of_ble_eq_true rfl) dX5_keep_32 ⟨Nat.zero_le _, Nat.zero_le _⟩ (fun H locs hW => ?_)
      refine lv_if_ne (tgt := 40) hx hb dX5_keep_35 (by decide) (fun c12 => ?_) (fun c12 => ?_)
      · replace hd := if_f c12 hd
        refine lv_aload_n hx hb dX5_keep_40 rfl (lv_at hl 0 rfl) ?_
        obtain ⟨F14, h13, hd⟩ := bp_e hd
        refine cVv_ (rest := []) X (kX5_change l Dd Y ad F11 F14 h13) (cwV 0 X.1.2.2.2.2 gX5_keep_X5_change rfl rfl rfl (by decide +kernel) ⟨Nat.le_of_ble_eq_true rfl, Nat.le_of_ble_eq_true rfl⟩) hW 0 5 rfl rfl rfl rfl hl.1 rfl (Nat.le_of_ble_eq_true rfl) dX5_keep_41 ⟨Nat.zero_le _, Nat.zero_le _⟩ (fun H locs hW => ?_)
        refine lv_aload_n hx hb dX5_keep_44 rfl (lv_at hl 0 rfl) ?_
        refine lv_iload_n hx hb dX5_keep_45 rfl (lv_at hl 1 rfl) ?_
        refine lv_iload_n hx hb dX5_keep_46 rfl (lv_at hl 2 rfl) ?_
        obtain ⟨r16, F17, h15, hd⟩ := bs_e hd
        refine cVi_ (rest := []) X (kX5_keeps l Dd Y ad F14 x1 x2 r16 F17 h15) (cwV 2 X.1.2.2.2.2 gX5_keep_X5_keeps rfl rfl rfl (by decide +kernel) ⟨Nat.le_of_ble_eq_true rfl, Nat.le_of_ble_eq_true rfl⟩) hW 0 5 rfl rfl rfl rfl hl.1 rfl (Nat.le_of_ble_eq_true rfl) dX5_keep_47 ⟨Nat.zero_le _, Nat.zero_le _⟩ (fun H locs hW => ?_)
        obtain ⟨rfl, rfl⟩ := Prod.mk.inj (Option.some.inj hd)
        exact hQ _ _ _ _ rfl hW dX5_keep_50
      · replace hd := if_t c12 hd
        refine lv_iconst (v := 0) hx hb dX5_keep_38 (by decide) ?_
        obtain ⟨rfl, rfl⟩ := Prod.mk.inj (Option.some.inj hd)
        exact hQ _ _ _ _ rfl hW dX5_keep_39
    · replace hd := if_f c8 hd
      refine lv_iconst (v := 1) hx hb dX5_keep_26 (by decide) ?_
      refine lv_goto (tgt := 31) hx hb dX5_keep_27 (by decide) ?_
      refine lv_iconst (v := 3) hx hb dX5_keep_31 (by decide) ?_
      obtain ⟨r19, F20, h18, hd⟩ := bs_e hd
      refine cVi_ (rest := []) X (kX5_right l Dd Y ad F4 1 3 r19 F20 h18) (cwV 2 X.1.2.2.2.2 gX5_keep_X5_right rfl rfl rfl (by decide +kernel) ⟨Nat.le_of_ble_eq_true rfl, Nat.le_of_ble_eq_true rfl⟩) hW 0 5 rfl rfl rfl rfl hl.1 rfl (Nat.le_of_ble_eq_true rfl) dX5_keep_32 ⟨Nat.zero_le _, Nat.zero_le _⟩ (fun H locs hW => ?_)
      refine lv_if_ne (tgt := 40) hx hb dX5_keep_35 (by decide) (fun c21 => ?_) (fun c21 => ?_)
      · replace hd := if_f c21 hd
        refine lv_aload_n hx hb dX5_keep_40 rfl (lv_at hl 0 rfl) ?_
        obtain ⟨F23, h22, hd⟩ := bp_e hd
        refine cVv_ (rest := []) X (kX5_change l Dd Y ad F20 F23 h22) (cwV 0 X.1.2.2.2.2 gX5_keep_X5_change rfl rfl rfl (by decide +kernel) ⟨Nat.le_of_ble_eq_true rfl, Nat.le_of_ble_eq_true rfl⟩) hW 0 5 rfl rfl rfl rfl hl.1 rfl (Nat.le_of_ble_eq_true rfl) dX5_keep_41 ⟨Nat.zero_le _, Nat.zero_le _⟩ (fun H locs hW => ?_)
        refine lv_aload_n hx hb dX5_keep_44 rfl (lv_at hl 0 rfl) ?_
        refine lv_iload_n hx hb dX5_keep_45 rfl (lv_at hl 1 rfl) ?_
        refine lv_iload_n hx hb dX5_keep_46 rfl (lv_at hl 2 rfl) ?_
        obtain ⟨r25, F26, h24, hd⟩ := bs_e hd
        refine cVi_ (rest := []) X (kX5_keeps l Dd Y ad F23 x1 x2 r25 F26 h24) (cwV 2 X.1.2.2.2.2 gX5_keep_X5_keeps rfl rfl rfl (by decide +kernel) ⟨Nat.le_of_ble_eq_true rfl, Nat.le_of_ble_eq_true rfl⟩) hW 0 5 rfl rfl rfl rfl hl.1 rfl (Nat.le_of_ble_eq_true rfl) dX5_keep_47 ⟨Nat.zero_le _, Nat.zero_le _⟩ (fun H locs hW => ?_)
        obtain ⟨rfl, rfl⟩ := Prod.mk.inj (Option.some.inj hd)
        exact hQ _ _ _ _ rfl hW dX5_keep_50
      · replace hd := if_t c21 hd
        refine lv_iconst (v := 0) hx hb dX5_keep_38 (by decide) ?_
        obtain ⟨rfl, rfl⟩ := Prod.mk.inj (Option.some.inj hd)
        exact hQ _ _ _ _ rfl hW dX5_keep_39
abbrev rmX5_forget : Room := { frames := 3, cells := 0, slots := 0, locals := 66 }
set_option maxRecDepth 100000 in
set_option maxHeartbeats 4000000 in
theorem kX5_forget (l : Launch) (Dd : va_G) (Y : yT) (ad : Nat → Nat) (F : gF) (x1 : Int32) (r : Int32) (F' : gF) (hd : dnX5_forget F x1 = some (r, F')) : MG l yX5_forget wsX5_forget rmX5_forget Dd Y [.ref (ad 0), .int x1] (WM Y ad F) (WM Y ad F') (some (.int r)) := by
  refine MGi (cc := cX5_forget) (maxL := 2) (ty := .int) (by decide) rfl (Nat.le_of_ble_eq_true rfl) (fun {p e s m args below meth c A} ls Q X hW hl hQ => ?_)
  have hx := X.x
  have hb := X.b
  have hl : lv_has ls 2 [(0, .ref (ad 0)), (1, .int x1)] := hl
  have hinX5 : ∀ w ∈ wsX50, w ∈ wsX5_forget := fun w h => List.mem_cons_of_mem _ (List.mem_append_right _ h)
  unfold dnX5_forget at hd
  refine lv_aload_n hx hb dX5_forget_0 rfl (lv_at hl 0 rfl) ?_
  refine lv_iconst (v := 0) hx hb dX5_forget_1 (by decide) ?_
  obtain ⟨F1, eF1, hd⟩ := bw_e hd
  refine p_ (ty := .int) X hinX5 tyX5 tyX5_ok nmX5 hW 0 rfl rfl 0 (by decide) 1 rfl rfl rfl (by decide +kernel) rfl rfl (Nat.le_of_ble_eq_true rfl) dX5_forget_2 (ws' := (WM Y ad F1)) (by rw [eF1]; rfl) (fun H locs hW => ?_)
  refine lv_aload_n hx hb dX5_forget_5 rfl (lv_at hl 0 rfl) ?_
  refine lv_aload_n hx hb dX5_forget_6 rfl (lv_at hl 0 rfl) ?_
  refine lv_iload_n hx hb dX5_forget_7 rfl (lv_at hl 1 rfl) ?_
  obtain ⟨r3, h2, hd⟩ := bp_e hd
  refine cVi_ (rest := [.ref (ad 0)]) X (kX5_isKept l Dd Y ad F1 x1 r3 h2) (cwV 1 X.1.2.2.2.2 gX5_forget_X5_isKept rfl rfl rfl (by decide +kernel) ⟨Nat.le_of_ble_eq_true rfl, Nat.le_of_ble_eq_true rfl⟩) hW 0 5 rfl rfl rfl rfl hl.1 rfl (Nat.le_of_ble_eq_true rfl) dX5_forget_8 ⟨Nat.zero_le _, Nat.zero_le _⟩ (fun H locs hW => ?_)
  refine lv_iconst (v := 1) hx hb dX5_forget_11 (by decide) ?_
  obtain ⟨r5, F6, h4, hd⟩ := bs_e hd
  refine cVi_ (rest := []) X (kX5_right l Dd Y ad F1 r3 1 r5 F6 h4) (cwV 2 X.1.2.2.2.2 gX5_forget_X5_right rfl rfl rfl (by decide +kernel) ⟨Nat.le_of_ble_eq_true rfl, Nat.le_of_ble_eq_true rfl⟩) hW 0 5 rfl rfl rfl rfl hl.1 rfl (Nat.le_of_ble_eq_true rfl) dX5_forget_12 ⟨Nat.zero_le _, Nat.zero_le _⟩ (fun H locs hW => ?_)
  refine lv_if_ne (tgt := 20) hx hb dX5_forget_15 (by decide) (fun c7 => ?_) (fun c7 => ?_)
  · replace hd := if_f c7 hd
    refine lv_aload_n hx hb dX5_forget_20 rfl (lv_at hl 0 rfl) ?_
    obtain ⟨F9, h8, hd⟩ := bp_e hd
    refine cVv_ (rest := []) X (kX5_change l Dd Y ad F6 F9 h8) (cwV 0 X.1.2.2.2.2 gX5_forget_X5_change rfl rfl rfl (by decide +kernel) ⟨Nat.le_of_ble_eq_true rfl, Nat.le_of_ble_eq_true rfl⟩) hW 0 5 rfl rfl rfl rfl hl.1 rfl (Nat.le_of_ble_eq_true rfl) dX5_forget_21 ⟨Nat.zero_le _, Nat.zero_le _⟩ (fun H locs hW => ?_)
    refine lv_aload_n hx hb dX5_forget_24 rfl (lv_at hl 0 rfl) ?_
    refine lv_iload_n hx hb dX5_forget_25 rfl (lv_at hl 1 rfl) ?_
    obtain ⟨r11, F12, h10, hd⟩ := bs_e hd
    refine cVi_ (rest := []) X (kX5_forgets l Dd Y ad F9 x1 r11 F12 h10) (cwV 1 X.1.2.2.2.2 gX5_forget_X5_forgets rfl rfl rfl (by decide +kernel) ⟨Nat.le_of_ble_eq_true rfl, Nat.le_of_ble_eq_true rfl⟩) hW 0 5 rfl rfl rfl rfl hl.1 rfl (Nat.le_of_ble_eq_true rfl) dX5_forget_26 ⟨Nat.zero_le _, Nat.zero_le _⟩ (fun H locs hW => ?_)
    obtain ⟨rfl, rfl⟩ := Prod.mk.inj (Option.some.inj hd)
    exact hQ _ _ _ _ rfl hW dX5_forget_29
  · replace hd := if_t c7 hd
    refine lv_iconst (v := 0) hx hb dX5_forget_18 (by decide) ?_
    obtain ⟨rfl, rfl⟩ := Prod.mk.inj (Option.some.inj hd)
    exact hQ _ _ _ _ rfl hW dX5_forget_19
abbrev rmX5_sweep : Room := { frames := 6, cells := 0, slots := 0, locals := 136 }
set_option maxRecDepth 100000 in
set_option maxHeartbeats 4000000 in
theorem kX5_sweep (l : Launch) (Dd : va_G) (Y : yT) (ad : Nat → Nat) (F : gF) (x1 : Int32) (r : Int32) (F' : gF) (hd : dnX5_sweep F x1 = some (r, F')) : MG l yX5_sweep wsX5_sweep rmX5_sweep Dd Y [.ref (ad 0), .int x1] (WM Y ad F) (WM Y ad F') (some (.int r)) := by
  refine MGi (cc := cX5_sweep) (maxL := 4) (ty := .int) (by decide) rfl (Nat.le_of_ble_eq_true rfl) (fun {p e s m args below meth c A} ls Q X hW hl hQ => ?_)
  have hx := X.x
  have hb := X.b
  have hl : lv_has ls 4 [(0, .ref (ad 0)), (1, .int x1)] := hl
  have hinX5 : ∀ w ∈ wsX50, w ∈ wsX5_sweep := fun w h => List.mem_cons_of_mem _ (List.mem_append_right _ h)
  unfold dnX5_sweep at hd
  have K91 : ∀ (n : Nat) (x2 : Int32) (x3 : Int32) (F : gF) (z : Nat × Int32 × gF), lpX5_sweep_91 n x2 x3 F = some z → ∀ (H : Heap) (locs : List Loc) (ls : Array Slot), Wd Dd A s.heap (WM Y ad F) H locs → lv_has ls 4 [(0, .ref (ad 0)), (2, .int x2), (3, .int x3)] → (∀ (H : Heap) (locs : List Loc) (ls : Array Slot), z.1 = 0 → Wd Dd A s.heap (WM Y ad z.2.2) H locs → lv_has ls 4 [(2, .int z.2.1)] → W p l e rmX5_sweep s m args below meth c H locs 0 0 Q (F0 m 124 ls [])) → W p l e rmX5_sweep s m args below meth c H locs 0 0 Q (F0 m 91 ls []) := by
    intro n
    induction n with
    | zero => intro x2 x3 F z hd; cases hd
    | succ n ih =>
      intro x2 x3 F z hd H locs ls hW hl kx0
      unfold lpX5_sweep_91 at hd
      refine lv_iload_n hx hb dX5_sweep_91 rfl (lv_at hl 2 rfl) ?_
      refine lv_if_lt (tgt := 124) hx hb dX5_sweep_92 (by decide) (fun c1 => ?_) (fun c1 => ?_)
      · replace hd := if_t c1 hd
        cases hd
        exact kx0 _ _ _ rfl hW (lv_sub hl [1] rfl)
      · replace hd := if_f c1 hd
        refine lv_aload_n hx hb dX5_sweep_95 rfl (lv_at hl 0 rfl) ?_
        refine g_ X hinX5 hW 0 rfl rfl 14 (by decide) 2 rfl rfl rfl dX5_sweep_96 ?_
        refine lv_iload_n hx hb dX5_sweep_99 rfl (lv_at hl 2 rfl) ?_
        obtain ⟨hi2, hd⟩ := ra_e hd
        refine az_ X hW 5 rfl rfl hi2 dX5_sweep_100 ?_
        generalize (F 5) x3.toNatClampNeg = v3 at hd ⊢
        refine lv_if_eq (tgt := 118) hx hb dX5_sweep_101 (by decide) (fun c4 => ?_) (fun c4 => ?_)
        · replace hd := if_t c4 hd
          refine lv_iinc (v := x3 + (-1)) (lv' := [(3, .int (x3 + (-1))), (0, .ref (ad 0)), (2, .int x2)]) hx hb dX5_sweep_118 hl (k := 2) rfl rfl (by decide) rfl (fun ls hl => ?_)
          refine lv_goto (tgt := 91) hx hb dX5_sweep_121 (by decide) ?_
          exact ih x2 (x3 + (-1)) F z hd _ _ _ hW (lv_sub hl [1, 2, 0] rfl) kx0
        · replace hd := if_f c4 hd
          refine lv_aload_n hx hb dX5_sweep_104 rfl (lv_at hl 0 rfl) ?_
          refine lv_iload_n hx hb dX5_sweep_105 rfl (lv_at hl 2 rfl) ?_
          obtain ⟨r6, F7, h5, hd⟩ := bs_e hd
          refine cVi_ (rest := []) X (kX5_forgets l Dd Y ad F x3 r6 F7 h5) (cwV 1 X.1.2.2.2.2 gX5_sweep_X5_forgets rfl rfl rfl (by decide +kernel) ⟨Nat.le_of_ble_eq_true rfl, Nat.le_of_ble_eq_true rfl⟩) hW 0 5 rfl rfl rfl rfl hl.1 rfl (Nat.le_of_ble_eq_true rfl) dX5_sweep_106 ⟨Nat.zero_le _, Nat.zero_le _⟩ (fun H locs hW => ?_)
          refine lv_if_ge (tgt := 115) hx hb dX5_sweep_109 (by decide) (fun c8 => ?_) (fun c8 => ?_)
          · replace hd := if_t c8 hd
            refine lv_iinc (v := x2 + 1) (lv' := [(2, .int (x2 + 1)), (0, .ref (ad 0)), (3, .int x3)]) hx hb dX5_sweep_115 hl (k := 1) rfl rfl (by decide) rfl (fun ls hl => ?_)
            refine lv_iinc (v := x3 + (-1)) (lv' := [(3, .int (x3 + (-1))), (2, .int (x2 + 1)), (0, .ref (ad 0))]) hx hb dX5_sweep_118 hl (k := 2) rfl rfl (by decide) rfl (fun ls hl => ?_)
            refine lv_goto (tgt := 91) hx hb dX5_sweep_121 (by decide) ?_
            exact ih (x2 + 1) (x3 + (-1)) F7 z hd _ _ _ hW (lv_sub hl [2, 1, 0] rfl) kx0
          · replace hd := if_f c8 hd
            refine lv_goto (tgt := 118) hx hb dX5_sweep_112 (by decide) ?_
            refine lv_iinc (v := x3 + (-1)) (lv' := [(3, .int (x3 + (-1))), (0, .ref (ad 0)), (2, .int x2)]) hx hb dX5_sweep_118 hl (k := 2) rfl rfl (by decide) rfl (fun ls hl => ?_)
            refine lv_goto (tgt := 91) hx hb dX5_sweep_121 (by decide) ?_
            exact ih x2 (x3 + (-1)) F7 z hd _ _ _ hW (lv_sub hl [1, 2, 0] rfl) kx0
  have K31 : ∀ (x1 : Int32) (n : Nat) (x2 : Int32) (F : gF) (z : Nat × gF), lpX5_sweep_31 x1 n x2 F = some z → ∀ (H : Heap) (locs : List Loc) (ls : Array Slot), Wd Dd A s.heap (WM Y ad F) H locs → lv_has ls 4 [(0, .ref (ad 0)), (1, .int x1), (2, .int x2)] → (∀ (H : Heap) (locs : List Loc) (ls : Array Slot), z.1 = 0 → Wd Dd A s.heap (WM Y ad z.2) H locs → lv_has ls 4 [(0, .ref (ad 0))] → W p l e rmX5_sweep s m args below meth c H locs 0 0 Q (F0 m 80 ls [])) → W p l e rmX5_sweep s m args below meth c H locs 0 0 Q (F0 m 31 ls []) := by
    intro x1 n
    induction n with
    | zero => intro x2 F z hd; cases hd
    | succ n ih =>
      intro x2 F z hd H locs ls hW hl kx0
      unfold lpX5_sweep_31 at hd
      refine lv_iload_n hx hb dX5_sweep_31 rfl (lv_at hl 2 rfl) ?_
      refine lv_aload_n hx hb dX5_sweep_32 rfl (lv_at hl 0 rfl) ?_
      refine lv_bipush (v := 6) hx hb dX5_sweep_33 (by decide) ?_
      obtain ⟨r10, h9, hd⟩ := bp_e hd
      refine cVi_ (rest := [.int x2]) X (kX5_get l Dd Y ad F 6 r10 h9) (cwV 1 X.1.2.2.2.2 gX5_sweep_X5_get rfl rfl rfl (by decide +kernel) ⟨Nat.le_of_ble_eq_true rfl, Nat.le_of_ble_eq_true rfl⟩) hW 0 5 rfl rfl rfl rfl hl.1 rfl (Nat.le_of_ble_eq_true rfl) dX5_sweep_35 ⟨Nat.zero_le _, Nat.zero_le _⟩ (fun H locs hW => ?_)
      refine lv_icmp_ge (tgt := 80) hx hb dX5_sweep_38 (by decide) (fun c11 => ?_) (fun c11 => ?_)
      · replace hd := if_t c11 hd
        cases hd
        exact kx0 _ _ _ rfl hW (lv_sub hl [0] rfl)
      · replace hd := if_f c11 hd
        refine lv_aload_n hx hb dX5_sweep_41 rfl (lv_at hl 0 rfl) ?_
        refine g_ X hinX5 hW 0 rfl rfl 14 (by decide) 2 rfl rfl rfl dX5_sweep_42 ?_
        refine lv_iload_n hx hb dX5_sweep_45 rfl (lv_at hl 2 rfl) ?_
        refine lv_aload_n hx hb dX5_sweep_46 rfl (lv_at hl 0 rfl) ?_
        refine lv_aload_n hx hb dX5_sweep_47 rfl (lv_at hl 0 rfl) ?_
        refine lv_aload_n hx hb dX5_sweep_48 rfl (lv_at hl 0 rfl) ?_
        refine lv_iload_n hx hb dX5_sweep_49 rfl (lv_at hl 2 rfl) ?_
        obtain ⟨r13, h12, hd⟩ := bp_e hd
        refine cVi_ (rest := [.ref (ad 0), .ref (ad 0), .int x2, .ref (ad 5)]) X (kX5_keptFrom l Dd Y ad F x2 r13 h12) (cwV 1 X.1.2.2.2.2 gX5_sweep_X5_keptFrom rfl rfl rfl (by decide +kernel) ⟨Nat.le_of_ble_eq_true rfl, Nat.le_of_ble_eq_true rfl⟩) hW 0 5 rfl rfl rfl rfl hl.1 rfl (Nat.le_of_ble_eq_true rfl) dX5_sweep_50 ⟨Nat.zero_le _, Nat.zero_le _⟩ (fun H locs hW => ?_)
        refine lv_aload_n hx hb dX5_sweep_53 rfl (lv_at hl 0 rfl) ?_
        refine lv_iload_n hx hb dX5_sweep_54 rfl (lv_at hl 2 rfl) ?_
        obtain ⟨r15, h14, hd⟩ := bp_e hd
        refine cVi_ (rest := [.int r13, .ref (ad 0), .ref (ad 0), .int x2, .ref (ad 5)]) X (kX5_keptTo l Dd Y ad F x2 r15 h14) (cwV 1 X.1.2.2.2.2 gX5_sweep_X5_keptTo rfl rfl rfl (by decide +kernel) ⟨Nat.le_of_ble_eq_true rfl, Nat.le_of_ble_eq_true rfl⟩) hW 0 5 rfl rfl rfl rfl hl.1 rfl (Nat.le_of_ble_eq_true rfl) dX5_sweep_55 ⟨Nat.zero_le _, Nat.zero_le _⟩ (fun H locs hW => ?_)
        obtain ⟨r17, F18, h16, hd⟩ := bs_e hd
        refine cVi_ (rest := [.ref (ad 0), .int x2, .ref (ad 5)]) X (kX5_asks l Dd Y ad F r13 r15 r17 F18 h16) (cwV 2 X.1.2.2.2.2 gX5_sweep_X5_asks rfl rfl rfl (by decide +kernel) ⟨Nat.le_of_ble_eq_true rfl, Nat.le_of_ble_eq_true rfl⟩) hW 0 5 rfl rfl rfl rfl hl.1 rfl (Nat.le_of_ble_eq_true rfl) dX5_sweep_58 ⟨Nat.zero_le _, Nat.zero_le _⟩ (fun H locs hW => ?_)
        obtain ⟨r20, h19, hd⟩ := bp_e hd
        refine cVi_ (rest := [.int x2, .ref (ad 5)]) X (kX5_valueAt l Dd Y ad F18 r17 r20 h19) (cwV 1 X.1.2.2.2.2 gX5_sweep_X5_valueAt rfl rfl rfl (by decide +kernel) ⟨Nat.le_of_ble_eq_true rfl, Nat.le_of_ble_eq_true rfl⟩) hW 0 5 rfl rfl rfl rfl hl.1 rfl (Nat.le_of_ble_eq_true rfl) dX5_sweep_61 ⟨Nat.zero_le _, Nat.zero_le _⟩ (fun H locs hW => ?_)
        refine lv_iload_n hx hb dX5_sweep_64 rfl (lv_at hl 1 rfl) ?_
        refine lv_icmp_ge (tgt := 72) hx hb dX5_sweep_65 (by decide) (fun c21 => ?_) (fun c21 => ?_)
        · replace hd := if_t c21 hd
          refine lv_iconst (v := 0) hx hb dX5_sweep_72 (by decide) ?_
          obtain ⟨hi22, hd⟩ := wi_e hd
          obtain ⟨F23, eF23, hd⟩ := bw_e hd
          refine sz_ X hW 5 rfl rfl hi22 dX5_sweep_73 (ws' := (WM Y ad F23)) (by rw [eF23]; rfl) (fun H locs hW => ?_)
          refine lv_iinc (v := x2 + 1) (lv' := [(2, .int (x2 + 1)), (0, .ref (ad 0)), (1, .int x1)]) hx hb dX5_sweep_74 hl (k := 2) rfl rfl (by decide) rfl (fun ls hl => ?_)
          refine lv_goto (tgt := 31) hx hb dX5_sweep_77 (by decide) ?_
          exact ih (x2 + 1) F23 z hd _ _ _ hW (lv_sub hl [1, 2, 0] rfl) kx0
        · replace hd := if_f c21 hd
          refine lv_iconst (v := 1) hx hb dX5_sweep_68 (by decide) ?_
          refine lv_goto (tgt := 73) hx hb dX5_sweep_69 (by decide) ?_
          obtain ⟨hi25, hd⟩ := wi_e hd
          obtain ⟨F26, eF26, hd⟩ := bw_e hd
          refine sz_ X hW 5 rfl rfl hi25 dX5_sweep_73 (ws' := (WM Y ad F26)) (by rw [eF26]; rfl) (fun H locs hW => ?_)
          refine lv_iinc (v := x2 + 1) (lv' := [(2, .int (x2 + 1)), (0, .ref (ad 0)), (1, .int x1)]) hx hb dX5_sweep_74 hl (k := 2) rfl rfl (by decide) rfl (fun ls hl => ?_)
          refine lv_goto (tgt := 31) hx hb dX5_sweep_77 (by decide) ?_
          exact ih (x2 + 1) F26 z hd _ _ _ hW (lv_sub hl [1, 2, 0] rfl) kx0
  refine lv_aload_n hx hb dX5_sweep_0 rfl (lv_at hl 0 rfl) ?_
  refine lv_iconst (v := 0) hx hb dX5_sweep_1 (by decide) ?_
  obtain ⟨F28, eF28, hd⟩ := bw_e hd
  refine p_ (ty := .int) X hinX5 tyX5 tyX5_ok nmX5 hW 0 rfl rfl 0 (by decide) 1 rfl rfl rfl (by decide +kernel) rfl rfl (Nat.le_of_ble_eq_true rfl) dX5_sweep_2 (ws' := (WM Y ad F28)) (by rw [eF28]; rfl) (fun H locs hW => ?_)
  refine lv_aload_n hx hb dX5_sweep_5 rfl (lv_at hl 0 rfl) ?_
  refine lv_iload_n hx hb dX5_sweep_6 rfl (lv_at hl 1 rfl) ?_
  refine lv_sipush (v := (-999)) hx hb dX5_sweep_7 (by decide) ?_
  refine lv_sipush (v := 1000) hx hb dX5_sweep_10 (by decide) ?_
  obtain ⟨r30, h29, hd⟩ := bp_e hd
  refine cSi_ (rest := [.ref (ad 0)]) X (kX5_isIn l Dd Y x1 (-999) 1000 r30 h29) (va_cwS 3 X.1.2.2.2.2 gX5_sweep_X5_isIn rfl rfl rfl (by decide +kernel) ⟨Nat.le_of_ble_eq_true rfl, Nat.le_of_ble_eq_true rfl⟩) hW rfl hl.1 rfl (Nat.le_of_ble_eq_true rfl) dX5_sweep_13 ⟨Nat.zero_le _, Nat.zero_le _⟩ (fun H locs hW => ?_)
  refine lv_iconst (v := 1) hx hb dX5_sweep_16 (by decide) ?_
  obtain ⟨r32, F33, h31, hd⟩ := bs_e hd
  refine cVi_ (rest := []) X (kX5_right l Dd Y ad F28 r30 1 r32 F33 h31) (cwV 2 X.1.2.2.2.2 gX5_sweep_X5_right rfl rfl rfl (by decide +kernel) ⟨Nat.le_of_ble_eq_true rfl, Nat.le_of_ble_eq_true rfl⟩) hW 0 5 rfl rfl rfl rfl hl.1 rfl (Nat.le_of_ble_eq_true rfl) dX5_sweep_17 ⟨Nat.zero_le _, Nat.zero_le _⟩ (fun H locs hW => ?_)
  refine lv_if_ne (tgt := 25) hx hb dX5_sweep_20 (by decide) (fun c34 => ?_) (fun c34 => ?_)
  · replace hd := if_f c34 hd
    refine lv_aload_n hx hb dX5_sweep_25 rfl (lv_at hl 0 rfl) ?_
    obtain ⟨F36, h35, hd⟩ := bp_e hd
    refine cVv_ (rest := []) X (kX5_change l Dd Y ad F33 F36 h35) (cwV 0 X.1.2.2.2.2 gX5_sweep_X5_change rfl rfl rfl (by decide +kernel) ⟨Nat.le_of_ble_eq_true rfl, Nat.le_of_ble_eq_true rfl⟩) hW 0 5 rfl rfl rfl rfl hl.1 rfl (Nat.le_of_ble_eq_true rfl) dX5_sweep_26 ⟨Nat.zero_le _, Nat.zero_le _⟩ (fun H locs hW => ?_)
    refine lv_iconst (v := 0) hx hb dX5_sweep_29 (by decide) ?_
    refine lv_istore_n (lv' := [(2, .int 0), (0, .ref (ad 0)), (1, .int x1)]) hx hb dX5_sweep_30 rfl hl (by decide) rfl (fun ls hl => ?_)
    obtain ⟨z31_36, hz31_36, hd⟩ := bp_e hd
    refine K31 x1 FU 0 F36 z31_36 hz31_36 _ _ _ hW (lv_sub hl [1, 2, 0] rfl) (fun H locs ls e31 hW hl => ?_)
    refine lv_iconst (v := 0) hx hb dX5_sweep_80 (by decide) ?_
    refine lv_istore_n (lv' := [(2, .int 0), (0, .ref (ad 0))]) hx hb dX5_sweep_81 rfl hl (by decide) rfl (fun ls hl => ?_)
    refine lv_aload_n hx hb dX5_sweep_82 rfl (lv_at hl 1 rfl) ?_
    refine lv_bipush (v := 6) hx hb dX5_sweep_83 (by decide) ?_
    obtain ⟨r39, h38, hd⟩ := bp_e hd
    refine cVi_ (rest := []) X (kX5_get l Dd Y ad z31_36.2 6 r39 h38) (cwV 1 X.1.2.2.2.2 gX5_sweep_X5_get rfl rfl rfl (by decide +kernel) ⟨Nat.le_of_ble_eq_true rfl, Nat.le_of_ble_eq_true rfl⟩) hW 0 5 rfl rfl rfl rfl hl.1 rfl (Nat.le_of_ble_eq_true rfl) dX5_sweep_85 ⟨Nat.zero_le _, Nat.zero_le _⟩ (fun H locs hW => ?_)
    refine lv_iconst (v := 1) hx hb dX5_sweep_88 (by decide) ?_
    refine lv_isub hx hb dX5_sweep_89 ?_
    refine lv_istore_n (lv' := [(3, .int (r39 - 1)), (2, .int 0), (0, .ref (ad 0))]) hx hb dX5_sweep_90 rfl hl (by decide) rfl (fun ls hl => ?_)
    obtain ⟨z91_39, hz91_39, hd⟩ := bp_e hd
    refine K91 FU 0 (r39 - 1) z31_36.2 z91_39 hz91_39 _ _ _ hW (lv_sub hl [2, 1, 0] rfl) (fun H locs ls e91 hW hl => ?_)
    refine lv_iload_n hx hb dX5_sweep_124 rfl (lv_at hl 0 rfl) ?_
    obtain ⟨rfl, rfl⟩ := Prod.mk.inj (Option.some.inj hd)
    exact hQ _ _ _ _ rfl hW dX5_sweep_125
  · replace hd := if_t c34 hd
    refine lv_iconst (v := 0) hx hb dX5_sweep_23 (by decide) ?_
    obtain ⟨rfl, rfl⟩ := Prod.mk.inj (Option.some.inj hd)
    exact hQ _ _ _ _ rfl hW dX5_sweep_24
abbrev rmX5_put : Room := { frames := 6, cells := 0, slots := 0, locals := 133 }
set_option maxRecDepth 100000 in
set_option maxHeartbeats 4000000 in
theorem kX5_put (l : Launch) (Dd : va_G) (Y : yT) (ad : Nat → Nat) (F : gF) (x1 : Int32) (x2 : Int32) (r : Int32) (F' : gF) (hd : dnX5_put F x1 x2 = some (r, F')) : MG l yX5_put wsX5_put rmX5_put Dd Y [.ref (ad 0), .int x1, .int x2] (WM Y ad F) (WM Y ad F') (some (.int r)) := by
  refine MGi (cc := cX5_put) (maxL := 3) (ty := .int) (by decide) rfl (Nat.le_of_ble_eq_true rfl) (fun {p e s m args below meth c A} ls Q X hW hl hQ => ?_)
  have hx := X.x
  have hb := X.b
  have hl : lv_has ls 3 [(0, .ref (ad 0)), (1, .int x1), (2, .int x2)] := hl
  have hinX5 : ∀ w ∈ wsX50, w ∈ wsX5_put := fun w h => List.mem_cons_of_mem _ (List.mem_append_right _ h)
  unfold dnX5_put at hd
  refine lv_aload_n hx hb dX5_put_0 rfl (lv_at hl 0 rfl) ?_
  refine lv_iconst (v := 0) hx hb dX5_put_1 (by decide) ?_
  obtain ⟨F1, eF1, hd⟩ := bw_e hd
  refine p_ (ty := .int) X hinX5 tyX5 tyX5_ok nmX5 hW 0 rfl rfl 0 (by decide) 1 rfl rfl rfl (by decide +kernel) rfl rfl (Nat.le_of_ble_eq_true rfl) dX5_put_2 (ws' := (WM Y ad F1)) (by rw [eF1]; rfl) (fun H locs hW => ?_)
  refine lv_aload_n hx hb dX5_put_5 rfl (lv_at hl 0 rfl) ?_
  refine lv_iload_n hx hb dX5_put_6 rfl (lv_at hl 1 rfl) ?_
  refine lv_iconst (v := 0) hx hb dX5_put_7 (by decide) ?_
  refine lv_aload_n hx hb dX5_put_8 rfl (lv_at hl 0 rfl) ?_
  obtain ⟨r3, h2, hd⟩ := bp_e hd
  refine cVi_ (rest := [.int 0, .int x1, .ref (ad 0)]) X (kX5_size l Dd Y ad F1 r3 h2) (cwV 0 X.1.2.2.2.2 gX5_put_X5_size rfl rfl rfl (by decide +kernel) ⟨Nat.le_of_ble_eq_true rfl, Nat.le_of_ble_eq_true rfl⟩) hW 0 5 rfl rfl rfl rfl hl.1 rfl (Nat.le_of_ble_eq_true rfl) dX5_put_9 ⟨Nat.zero_le _, Nat.zero_le _⟩ (fun H locs hW => ?_)
  obtain ⟨r5, h4, hd⟩ := bp_e hd
  refine cSi_ (rest := [.ref (ad 0)]) X (kX5_isIn l Dd Y x1 0 r3 r5 h4) (va_cwS 3 X.1.2.2.2.2 gX5_put_X5_isIn rfl rfl rfl (by decide +kernel) ⟨Nat.le_of_ble_eq_true rfl, Nat.le_of_ble_eq_true rfl⟩) hW rfl hl.1 rfl (Nat.le_of_ble_eq_true rfl) dX5_put_12 ⟨Nat.zero_le _, Nat.zero_le _⟩ (fun H locs hW => ?_)
  refine lv_iconst (v := 1) hx hb dX5_put_15 (by decide) ?_
  obtain ⟨r7, F8, h6, hd⟩ := bs_e hd
  refine cVi_ (rest := []) X (kX5_right l Dd Y ad F1 r5 1 r7 F8 h6) (cwV 2 X.1.2.2.2.2 gX5_put_X5_right rfl rfl rfl (by decide +kernel) ⟨Nat.le_of_ble_eq_true rfl, Nat.le_of_ble_eq_true rfl⟩) hW 0 5 rfl rfl rfl rfl hl.1 rfl (Nat.le_of_ble_eq_true rfl) dX5_put_16 ⟨Nat.zero_le _, Nat.zero_le _⟩ (fun H locs hW => ?_)
  refine lv_if_eq (tgt := 56) hx hb dX5_put_19 (by decide) (fun c9 => ?_) (fun c9 => ?_)
  · replace hd := if_t c9 hd
    refine lv_iconst (v := 0) hx hb dX5_put_56 (by decide) ?_
    obtain ⟨rfl, rfl⟩ := Prod.mk.inj (Option.some.inj hd)
    exact hQ _ _ _ _ rfl hW dX5_put_57
  · replace hd := if_f c9 hd
    refine lv_aload_n hx hb dX5_put_22 rfl (lv_at hl 0 rfl) ?_
    refine lv_iload_n hx hb dX5_put_23 rfl (lv_at hl 2 rfl) ?_
    obtain ⟨r11, h10, hd⟩ := bp_e hd
    refine cSi_ (rest := [.ref (ad 0)]) X (kX5_isValue l Dd Y x2 r11 h10) (va_cwS 1 X.1.2.2.2.2 gX5_put_X5_isValue rfl rfl rfl (by decide +kernel) ⟨Nat.le_of_ble_eq_true rfl, Nat.le_of_ble_eq_true rfl⟩) hW rfl hl.1 rfl (Nat.le_of_ble_eq_true rfl) dX5_put_24 ⟨Nat.zero_le _, Nat.zero_le _⟩ (fun H locs hW => ?_)
    refine lv_iconst (v := 2) hx hb dX5_put_27 (by decide) ?_
    obtain ⟨r13, F14, h12, hd⟩ := bs_e hd
    refine cVi_ (rest := []) X (kX5_right l Dd Y ad F8 r11 2 r13 F14 h12) (cwV 2 X.1.2.2.2.2 gX5_put_X5_right rfl rfl rfl (by decide +kernel) ⟨Nat.le_of_ble_eq_true rfl, Nat.le_of_ble_eq_true rfl⟩) hW 0 5 rfl rfl rfl rfl hl.1 rfl (Nat.le_of_ble_eq_true rfl) dX5_put_28 ⟨Nat.zero_le _, Nat.zero_le _⟩ (fun H locs hW => ?_)
    refine lv_if_eq (tgt := 56) hx hb dX5_put_31 (by decide) (fun c15 => ?_) (fun c15 => ?_)
    · replace hd := if_t c15 hd
      refine lv_iconst (v := 0) hx hb dX5_put_56 (by decide) ?_
      obtain ⟨rfl, rfl⟩ := Prod.mk.inj (Option.some.inj hd)
      exact hQ _ _ _ _ rfl hW dX5_put_57
    · replace hd := if_f c15 hd
      refine lv_aload_n hx hb dX5_put_34 rfl (lv_at hl 0 rfl) ?_
      refine lv_aload_n hx hb dX5_put_35 rfl (lv_at hl 0 rfl) ?_
      obtain ⟨r17, h16, hd⟩ := bp_e hd
      refine cVi_ (rest := [.ref (ad 0)]) X (kX5_size l Dd Y ad F14 r17 h16) (cwV 0 X.1.2.2.2.2 gX5_put_X5_size rfl rfl rfl (by decide +kernel) ⟨Nat.le_of_ble_eq_true rfl, Nat.le_of_ble_eq_true rfl⟩) hW 0 5 rfl rfl rfl rfl hl.1 rfl (Nat.le_of_ble_eq_true rfl) dX5_put_36 ⟨Nat.zero_le _, Nat.zero_le _⟩ (fun H locs hW => ?_)
      refine lv_bipush (v := 40) hx hb dX5_put_39 (by decide) ?_
      refine lv_icmp_ge (tgt := 48) hx hb dX5_put_41 (by decide) (fun c18 => ?_) (fun c18 => ?_)
      · replace hd := if_t c18 hd
        refine lv_iconst (v := 0) hx hb dX5_put_48 (by decide) ?_
        refine lv_iconst (v := 3) hx hb dX5_put_49 (by decide) ?_
        obtain ⟨r20, F21, h19, hd⟩ := bs_e hd
        refine cVi_ (rest := []) X (kX5_right l Dd Y ad F14 0 3 r20 F21 h19) (cwV 2 X.1.2.2.2.2 gX5_put_X5_right rfl rfl rfl (by decide +kernel) ⟨Nat.le_of_ble_eq_true rfl, Nat.le_of_ble_eq_true rfl⟩) hW 0 5 rfl rfl rfl rfl hl.1 rfl (Nat.le_of_ble_eq_true rfl) dX5_put_50 ⟨Nat.zero_le _, Nat.zero_le _⟩ (fun H locs hW => ?_)
        refine lv_if_ne (tgt := 58) hx hb dX5_put_53 (by decide) (fun c22 => ?_) (fun c22 => ?_)
        · replace hd := if_f c22 hd
          refine lv_aload_n hx hb dX5_put_58 rfl (lv_at hl 0 rfl) ?_
          obtain ⟨F24, h23, hd⟩ := bp_e hd
          refine cVv_ (rest := []) X (kX5_change l Dd Y ad F21 F24 h23) (cwV 0 X.1.2.2.2.2 gX5_put_X5_change rfl rfl rfl (by decide +kernel) ⟨Nat.le_of_ble_eq_true rfl, Nat.le_of_ble_eq_true rfl⟩) hW 0 5 rfl rfl rfl rfl hl.1 rfl (Nat.le_of_ble_eq_true rfl) dX5_put_59 ⟨Nat.zero_le _, Nat.zero_le _⟩ (fun H locs hW => ?_)
          refine lv_aload_n hx hb dX5_put_62 rfl (lv_at hl 0 rfl) ?_
          refine lv_iload_n hx hb dX5_put_63 rfl (lv_at hl 1 rfl) ?_
          refine lv_iload_n hx hb dX5_put_64 rfl (lv_at hl 2 rfl) ?_
          obtain ⟨r26, F27, h25, hd⟩ := bs_e hd
          refine cVi_ (rest := []) X (kX5_putsIn l Dd Y ad F24 x1 x2 r26 F27 h25) (cwV 2 X.1.2.2.2.2 gX5_put_X5_putsIn rfl rfl rfl (by decide +kernel) ⟨Nat.le_of_ble_eq_true rfl, Nat.le_of_ble_eq_true rfl⟩) hW 0 5 rfl rfl rfl rfl hl.1 rfl (Nat.le_of_ble_eq_true rfl) dX5_put_65 ⟨Nat.zero_le _, Nat.zero_le _⟩ (fun H locs hW => ?_)
          obtain ⟨rfl, rfl⟩ := Prod.mk.inj (Option.some.inj hd)
          exact hQ _ _ _ _ rfl hW dX5_put_68
        · replace hd := if_t c22 hd
          refine lv_iconst (v := 0) hx hb dX5_put_56 (by decide) ?_
          obtain ⟨rfl, rfl⟩ := Prod.mk.inj (Option.some.inj hd)
          exact hQ _ _ _ _ rfl hW dX5_put_57
      · replace hd := if_f c18 hd
        refine lv_iconst (v := 1) hx hb dX5_put_44 (by decide) ?_
        refine lv_goto (tgt := 49) hx hb dX5_put_45 (by decide) ?_
        refine lv_iconst (v := 3) hx hb dX5_put_49 (by decide) ?_
        obtain ⟨r29, F30, h28, hd⟩ := bs_e hd
        refine cVi_ (rest := []) X (kX5_right l Dd Y ad F14 1 3 r29 F30 h28) (cwV 2 X.1.2.2.2.2 gX5_put_X5_right rfl rfl rfl (by decide +kernel) ⟨Nat.le_of_ble_eq_true rfl, Nat.le_of_ble_eq_true rfl⟩) hW 0 5 rfl rfl rfl rfl hl.1 rfl (Nat.le_of_ble_eq_true rfl) dX5_put_50 ⟨Nat.zero_le _, Nat.zero_le _⟩ (fun H locs hW => ?_)
        refine lv_if_ne (tgt := 58) hx hb dX5_put_53 (by decide) (fun c31 => ?_) (fun c31 => ?_)
        · replace hd := if_f c31 hd
          refine lv_aload_n hx hb dX5_put_58 rfl (lv_at hl 0 rfl) ?_
          obtain ⟨F33, h32, hd⟩ := bp_e hd
          refine cVv_ (rest := []) X (kX5_change l Dd Y ad F30 F33 h32) (cwV 0 X.1.2.2.2.2 gX5_put_X5_change rfl rfl rfl (by decide +kernel) ⟨Nat.le_of_ble_eq_true rfl, Nat.le_of_ble_eq_true rfl⟩) hW 0 5 rfl rfl rfl rfl hl.1 rfl (Nat.le_of_ble_eq_true rfl) dX5_put_59 ⟨Nat.zero_le _, Nat.zero_le _⟩ (fun H locs hW => ?_)
          refine lv_aload_n hx hb dX5_put_62 rfl (lv_at hl 0 rfl) ?_
          refine lv_iload_n hx hb dX5_put_63 rfl (lv_at hl 1 rfl) ?_
          refine lv_iload_n hx hb dX5_put_64 rfl (lv_at hl 2 rfl) ?_
          obtain ⟨r35, F36, h34, hd⟩ := bs_e hd
          refine cVi_ (rest := []) X (kX5_putsIn l Dd Y ad F33 x1 x2 r35 F36 h34) (cwV 2 X.1.2.2.2.2 gX5_put_X5_putsIn rfl rfl rfl (by decide +kernel) ⟨Nat.le_of_ble_eq_true rfl, Nat.le_of_ble_eq_true rfl⟩) hW 0 5 rfl rfl rfl rfl hl.1 rfl (Nat.le_of_ble_eq_true rfl) dX5_put_65 ⟨Nat.zero_le _, Nat.zero_le _⟩ (fun H locs hW => ?_)
          obtain ⟨rfl, rfl⟩ := Prod.mk.inj (Option.some.inj hd)
          exact hQ _ _ _ _ rfl hW dX5_put_68
        · replace hd := if_t c31 hd
          refine lv_iconst (v := 0) hx hb dX5_put_56 (by decide) ?_
          obtain ⟨rfl, rfl⟩ := Prod.mk.inj (Option.some.inj hd)
          exact hQ _ _ _ _ rfl hW dX5_put_57
abbrev rmX5_take : Room := { frames := 6, cells := 0, slots := 0, locals := 133 }
set_option maxRecDepth 100000 in
set_option maxHeartbeats 4000000 in
theorem kX5_take (l : Launch) (Dd : va_G) (Y : yT) (ad : Nat → Nat) (F : gF) (x1 : Int32) (r : Int32) (F' : gF) (hd : dnX5_take F x1 = some (r, F')) : MG l yX5_take wsX5_take rmX5_take Dd Y [.ref (ad 0), .int x1] (WM Y ad F) (WM Y ad F') (some (.int r)) := by
  refine MGi (cc := cX5_take) (maxL := 2) (ty := .int) (by decide) rfl (Nat.le_of_ble_eq_true rfl) (fun {p e s m args below meth c A} ls Q X hW hl hQ => ?_)
  have hx := X.x
  have hb := X.b
  have hl : lv_has ls 2 [(0, .ref (ad 0)), (1, .int x1)] := hl
  have hinX5 : ∀ w ∈ wsX50, w ∈ wsX5_take := fun w h => List.mem_cons_of_mem _ (List.mem_append_right _ h)
  unfold dnX5_take at hd
  refine lv_aload_n hx hb dX5_take_0 rfl (lv_at hl 0 rfl) ?_
  refine lv_iconst (v := 0) hx hb dX5_take_1 (by decide) ?_
  obtain ⟨F1, eF1, hd⟩ := bw_e hd
  refine p_ (ty := .int) X hinX5 tyX5 tyX5_ok nmX5 hW 0 rfl rfl 0 (by decide) 1 rfl rfl rfl (by decide +kernel) rfl rfl (Nat.le_of_ble_eq_true rfl) dX5_take_2 (ws' := (WM Y ad F1)) (by rw [eF1]; rfl) (fun H locs hW => ?_)
  refine lv_aload_n hx hb dX5_take_5 rfl (lv_at hl 0 rfl) ?_
  refine lv_aload_n hx hb dX5_take_6 rfl (lv_at hl 0 rfl) ?_
  refine lv_iload_n hx hb dX5_take_7 rfl (lv_at hl 1 rfl) ?_
  obtain ⟨r3, h2, hd⟩ := bp_e hd
  refine cVi_ (rest := [.ref (ad 0)]) X (kX5_isPlace l Dd Y ad F1 x1 r3 h2) (cwV 1 X.1.2.2.2.2 gX5_take_X5_isPlace rfl rfl rfl (by decide +kernel) ⟨Nat.le_of_ble_eq_true rfl, Nat.le_of_ble_eq_true rfl⟩) hW 0 5 rfl rfl rfl rfl hl.1 rfl (Nat.le_of_ble_eq_true rfl) dX5_take_8 ⟨Nat.zero_le _, Nat.zero_le _⟩ (fun H locs hW => ?_)
  refine lv_iconst (v := 1) hx hb dX5_take_11 (by decide) ?_
  obtain ⟨r5, F6, h4, hd⟩ := bs_e hd
  refine cVi_ (rest := []) X (kX5_right l Dd Y ad F1 r3 1 r5 F6 h4) (cwV 2 X.1.2.2.2.2 gX5_take_X5_right rfl rfl rfl (by decide +kernel) ⟨Nat.le_of_ble_eq_true rfl, Nat.le_of_ble_eq_true rfl⟩) hW 0 5 rfl rfl rfl rfl hl.1 rfl (Nat.le_of_ble_eq_true rfl) dX5_take_12 ⟨Nat.zero_le _, Nat.zero_le _⟩ (fun H locs hW => ?_)
  refine lv_if_eq (tgt := 39) hx hb dX5_take_15 (by decide) (fun c7 => ?_) (fun c7 => ?_)
  · replace hd := if_t c7 hd
    refine lv_iconst (v := 0) hx hb dX5_take_39 (by decide) ?_
    obtain ⟨rfl, rfl⟩ := Prod.mk.inj (Option.some.inj hd)
    exact hQ _ _ _ _ rfl hW dX5_take_40
  · replace hd := if_f c7 hd
    refine lv_aload_n hx hb dX5_take_18 rfl (lv_at hl 0 rfl) ?_
    refine lv_aload_n hx hb dX5_take_19 rfl (lv_at hl 0 rfl) ?_
    obtain ⟨r9, h8, hd⟩ := bp_e hd
    refine cVi_ (rest := [.ref (ad 0)]) X (kX5_size l Dd Y ad F6 r9 h8) (cwV 0 X.1.2.2.2.2 gX5_take_X5_size rfl rfl rfl (by decide +kernel) ⟨Nat.le_of_ble_eq_true rfl, Nat.le_of_ble_eq_true rfl⟩) hW 0 5 rfl rfl rfl rfl hl.1 rfl (Nat.le_of_ble_eq_true rfl) dX5_take_20 ⟨Nat.zero_le _, Nat.zero_le _⟩ (fun H locs hW => ?_)
    refine lv_iconst (v := 1) hx hb dX5_take_23 (by decide) ?_
    refine lv_icmp_le (tgt := 31) hx hb dX5_take_24 (by decide) (fun c10 => ?_) (fun c10 => ?_)
    · replace hd := if_t c10 hd
      refine lv_iconst (v := 0) hx hb dX5_take_31 (by decide) ?_
      refine lv_iconst (v := 2) hx hb dX5_take_32 (by decide) ?_
      obtain ⟨r12, F13, h11, hd⟩ := bs_e hd
      refine cVi_ (rest := []) X (kX5_right l Dd Y ad F6 0 2 r12 F13 h11) (cwV 2 X.1.2.2.2.2 gX5_take_X5_right rfl rfl rfl (by decide +kernel) ⟨Nat.le_of_ble_eq_true rfl, Nat.le_of_ble_eq_true rfl⟩) hW 0 5 rfl rfl rfl rfl hl.1 rfl (Nat.le_of_ble_eq_true rfl) dX5_take_33 ⟨Nat.zero_le _, Nat.zero_le _⟩ (fun H locs hW => ?_)
      refine lv_if_ne (tgt := 41) hx hb dX5_take_36 (by decide) (fun c14 => ?_) (fun c14 => ?_)
      · replace hd := if_f c14 hd
        refine lv_aload_n hx hb dX5_take_41 rfl (lv_at hl 0 rfl) ?_
        obtain ⟨F16, h15, hd⟩ := bp_e hd
        refine cVv_ (rest := []) X (kX5_change l Dd Y ad F13 F16 h15) (cwV 0 X.1.2.2.2.2 gX5_take_X5_change rfl rfl rfl (by decide +kernel) ⟨Nat.le_of_ble_eq_true rfl, Nat.le_of_ble_eq_true rfl⟩) hW 0 5 rfl rfl rfl rfl hl.1 rfl (Nat.le_of_ble_eq_true rfl) dX5_take_42 ⟨Nat.zero_le _, Nat.zero_le _⟩ (fun H locs hW => ?_)
        refine lv_aload_n hx hb dX5_take_45 rfl (lv_at hl 0 rfl) ?_
        refine lv_iload_n hx hb dX5_take_46 rfl (lv_at hl 1 rfl) ?_
        obtain ⟨r18, F19, h17, hd⟩ := bs_e hd
        refine cVi_ (rest := []) X (kX5_takesOut l Dd Y ad F16 x1 r18 F19 h17) (cwV 1 X.1.2.2.2.2 gX5_take_X5_takesOut rfl rfl rfl (by decide +kernel) ⟨Nat.le_of_ble_eq_true rfl, Nat.le_of_ble_eq_true rfl⟩) hW 0 5 rfl rfl rfl rfl hl.1 rfl (Nat.le_of_ble_eq_true rfl) dX5_take_47 ⟨Nat.zero_le _, Nat.zero_le _⟩ (fun H locs hW => ?_)
        obtain ⟨rfl, rfl⟩ := Prod.mk.inj (Option.some.inj hd)
        exact hQ _ _ _ _ rfl hW dX5_take_50
      · replace hd := if_t c14 hd
        refine lv_iconst (v := 0) hx hb dX5_take_39 (by decide) ?_
        obtain ⟨rfl, rfl⟩ := Prod.mk.inj (Option.some.inj hd)
        exact hQ _ _ _ _ rfl hW dX5_take_40
    · replace hd := if_f c10 hd
      refine lv_iconst (v := 1) hx hb dX5_take_27 (by decide) ?_
      refine lv_goto (tgt := 32) hx hb dX5_take_28 (by decide) ?_
      refine lv_iconst (v := 2) hx hb dX5_take_32 (by decide) ?_
      obtain ⟨r21, F22, h20, hd⟩ := bs_e hd
      refine cVi_ (rest := []) X (kX5_right l Dd Y ad F6 1 2 r21 F22 h20) (cwV 2 X.1.2.2.2.2 gX5_take_X5_right rfl rfl rfl (by decide +kernel) ⟨Nat.le_of_ble_eq_true rfl, Nat.le_of_ble_eq_true rfl⟩) hW 0 5 rfl rfl rfl rfl hl.1 rfl (Nat.le_of_ble_eq_true rfl) dX5_take_33 ⟨Nat.zero_le _, Nat.zero_le _⟩ (fun H locs hW => ?_)
      refine lv_if_ne (tgt := 41) hx hb dX5_take_36 (by decide) (fun c23 => ?_) (fun c23 => ?_)
      · replace hd := if_f c23 hd
        refine lv_aload_n hx hb dX5_take_41 rfl (lv_at hl 0 rfl) ?_
        obtain ⟨F25, h24, hd⟩ := bp_e hd
        refine cVv_ (rest := []) X (kX5_change l Dd Y ad F22 F25 h24) (cwV 0 X.1.2.2.2.2 gX5_take_X5_change rfl rfl rfl (by decide +kernel) ⟨Nat.le_of_ble_eq_true rfl, Nat.le_of_ble_eq_true rfl⟩) hW 0 5 rfl rfl rfl rfl hl.1 rfl (Nat.le_of_ble_eq_true rfl) dX5_take_42 ⟨Nat.zero_le _, Nat.zero_le _⟩ (fun H locs hW => ?_)
        refine lv_aload_n hx hb dX5_take_45 rfl (lv_at hl 0 rfl) ?_
        refine lv_iload_n hx hb dX5_take_46 rfl (lv_at hl 1 rfl) ?_
        obtain ⟨r27, F28, h26, hd⟩ := bs_e hd
        refine cVi_ (rest := []) X (kX5_takesOut l Dd Y ad F25 x1 r27 F28 h26) (cwV 1 X.1.2.2.2.2 gX5_take_X5_takesOut rfl rfl rfl (by decide +kernel) ⟨Nat.le_of_ble_eq_true rfl, Nat.le_of_ble_eq_true rfl⟩) hW 0 5 rfl rfl rfl rfl hl.1 rfl (Nat.le_of_ble_eq_true rfl) dX5_take_47 ⟨Nat.zero_le _, Nat.zero_le _⟩ (fun H locs hW => ?_)
        obtain ⟨rfl, rfl⟩ := Prod.mk.inj (Option.some.inj hd)
        exact hQ _ _ _ _ rfl hW dX5_take_50
      · replace hd := if_t c23 hd
        refine lv_iconst (v := 0) hx hb dX5_take_39 (by decide) ?_
        obtain ⟨rfl, rfl⟩ := Prod.mk.inj (Option.some.inj hd)
        exact hQ _ _ _ _ rfl hW dX5_take_40
abbrev rmX5_rule : Room := { frames := 5, cells := 0, slots := 0, locals := 110 }
set_option maxRecDepth 100000 in
set_option maxHeartbeats 4000000 in
theorem kX5_rule (l : Launch) (Dd : va_G) (Y : yT) (ad : Nat → Nat) (F : gF) (x1 : Int32) (x2 : Int32) (r : Int32) (F' : gF) (hd : dnX5_rule F x1 x2 = some (r, F')) : MG l yX5_rule wsX5_rule rmX5_rule Dd Y [.ref (ad 0), .int x1, .int x2] (WM Y ad F) (WM Y ad F') (some (.int r)) := by
  refine MGi (cc := cX5_rule) (maxL := 4) (ty := .int) (by decide) rfl (Nat.le_of_ble_eq_true rfl) (fun {p e s m args below meth c A} ls Q X hW hl hQ => ?_)
  have hx := X.x
  have hb := X.b
  have hl : lv_has ls 4 [(0, .ref (ad 0)), (1, .int x1), (2, .int x2)] := hl
  have hinX5 : ∀ w ∈ wsX50, w ∈ wsX5_rule := fun w h => List.mem_cons_of_mem _ (List.mem_append_right _ h)
  unfold dnX5_rule at hd
  refine lv_aload_n hx hb dX5_rule_0 rfl (lv_at hl 0 rfl) ?_
  refine lv_iconst (v := 0) hx hb dX5_rule_1 (by decide) ?_
  obtain ⟨F1, eF1, hd⟩ := bw_e hd
  refine p_ (ty := .int) X hinX5 tyX5 tyX5_ok nmX5 hW 0 rfl rfl 0 (by decide) 1 rfl rfl rfl (by decide +kernel) rfl rfl (Nat.le_of_ble_eq_true rfl) dX5_rule_2 (ws' := (WM Y ad F1)) (by rw [eF1]; rfl) (fun H locs hW => ?_)
  refine lv_aload_n hx hb dX5_rule_5 rfl (lv_at hl 0 rfl) ?_
  refine lv_iload_n hx hb dX5_rule_6 rfl (lv_at hl 1 rfl) ?_
  refine lv_iconst (v := 1) hx hb dX5_rule_7 (by decide) ?_
  refine lv_icmp_ne (tgt := 20) hx hb dX5_rule_8 (by decide) (fun c2 => ?_) (fun c2 => ?_)
  · replace hd := if_f c2 hd
    refine lv_iload_n hx hb dX5_rule_20 rfl (lv_at hl 1 rfl) ?_
    refine lv_iconst (v := 2) hx hb dX5_rule_21 (by decide) ?_
    refine lv_icmp_ne (tgt := 39) hx hb dX5_rule_22 (by decide) (fun c3 => ?_) (fun c3 => ?_)
    · replace hd := if_f c3 hd
      refine lv_iconst (v := 0) hx hb dX5_rule_39 (by decide) ?_
      refine lv_iconst (v := 1) hx hb dX5_rule_40 (by decide) ?_
      obtain ⟨r5, F6, h4, hd⟩ := bs_e hd
      refine cVi_ (rest := []) X (kX5_right l Dd Y ad F1 0 1 r5 F6 h4) (cwV 2 X.1.2.2.2.2 gX5_rule_X5_right rfl rfl rfl (by decide +kernel) ⟨Nat.le_of_ble_eq_true rfl, Nat.le_of_ble_eq_true rfl⟩) hW 0 5 rfl rfl rfl rfl hl.1 rfl (Nat.le_of_ble_eq_true rfl) dX5_rule_41 ⟨Nat.zero_le _, Nat.zero_le _⟩ (fun H locs hW => ?_)
      refine lv_if_ne (tgt := 49) hx hb dX5_rule_44 (by decide) (fun c7 => ?_) (fun c7 => ?_)
      · replace hd := if_f c7 hd
        refine lv_aload_n hx hb dX5_rule_49 rfl (lv_at hl 0 rfl) ?_
        obtain ⟨F9, h8, hd⟩ := bp_e hd
        refine cVv_ (rest := []) X (kX5_change l Dd Y ad F6 F9 h8) (cwV 0 X.1.2.2.2.2 gX5_rule_X5_change rfl rfl rfl (by decide +kernel) ⟨Nat.le_of_ble_eq_true rfl, Nat.le_of_ble_eq_true rfl⟩) hW 0 5 rfl rfl rfl rfl hl.1 rfl (Nat.le_of_ble_eq_true rfl) dX5_rule_50 ⟨Nat.zero_le _, Nat.zero_le _⟩ (fun H locs hW => ?_)
        refine lv_aload_n hx hb dX5_rule_53 rfl (lv_at hl 0 rfl) ?_
        refine lv_iload_n hx hb dX5_rule_54 rfl (lv_at hl 1 rfl) ?_
        obtain ⟨r11, h10, hd⟩ := bp_e hd
        refine cVi_ (rest := []) X (kX5_get l Dd Y ad F9 x1 r11 h10) (cwV 1 X.1.2.2.2.2 gX5_rule_X5_get rfl rfl rfl (by decide +kernel) ⟨Nat.le_of_ble_eq_true rfl, Nat.le_of_ble_eq_true rfl⟩) hW 0 5 rfl rfl rfl rfl hl.1 rfl (Nat.le_of_ble_eq_true rfl) dX5_rule_55 ⟨Nat.zero_le _, Nat.zero_le _⟩ (fun H locs hW => ?_)
        refine lv_istore_n (lv' := [(3, .int r11), (0, .ref (ad 0)), (1, .int x1), (2, .int x2)]) hx hb dX5_rule_58 rfl hl (by decide) rfl (fun ls hl => ?_)
        refine lv_aload_n hx hb dX5_rule_59 rfl (lv_at hl 1 rfl) ?_
        refine lv_iload_n hx hb dX5_rule_60 rfl (lv_at hl 2 rfl) ?_
        refine lv_iload_n hx hb dX5_rule_61 rfl (lv_at hl 3 rfl) ?_
        obtain ⟨F13, h12, hd⟩ := bp_e hd
        refine cVv_ (rest := []) X (kX5_put0 l Dd Y ad F9 x1 x2 F13 h12) (cwV 2 X.1.2.2.2.2 gX5_rule_X5_put0 rfl rfl rfl (by decide +kernel) ⟨Nat.le_of_ble_eq_true rfl, Nat.le_of_ble_eq_true rfl⟩) hW 0 5 rfl rfl rfl rfl hl.1 rfl (Nat.le_of_ble_eq_true rfl) dX5_rule_62 ⟨Nat.zero_le _, Nat.zero_le _⟩ (fun H locs hW => ?_)
        refine lv_iload_n hx hb dX5_rule_65 rfl (lv_at hl 2 rfl) ?_
        refine lv_iconst (v := 1) hx hb dX5_rule_66 (by decide) ?_
        refine lv_icmp_ne (tgt := 74) hx hb dX5_rule_67 (by decide) (fun _ => ?_) (fun h => absurd h c2)
        refine lv_iload_n hx hb dX5_rule_74 rfl (lv_at hl 0 rfl) ?_
        obtain ⟨rfl, rfl⟩ := Prod.mk.inj (Option.some.inj hd)
        exact hQ _ _ _ _ rfl hW dX5_rule_75
      · replace hd := if_t c7 hd
        refine lv_iconst (v := 0) hx hb dX5_rule_47 (by decide) ?_
        obtain ⟨rfl, rfl⟩ := Prod.mk.inj (Option.some.inj hd)
        exact hQ _ _ _ _ rfl hW dX5_rule_48
    · replace hd := if_t c3 hd
      refine lv_iload_n hx hb dX5_rule_25 rfl (lv_at hl 2 rfl) ?_
      refine lv_iconst (v := 1) hx hb dX5_rule_26 (by decide) ?_
      refine lv_bipush (v := 8) hx hb dX5_rule_27 (by decide) ?_
      obtain ⟨r15, h14, hd⟩ := bp_e hd
      refine cSi_ (rest := [.ref (ad 0)]) X (kX5_isIn l Dd Y x2 1 8 r15 h14) (va_cwS 3 X.1.2.2.2.2 gX5_rule_X5_isIn rfl rfl rfl (by decide +kernel) ⟨Nat.le_of_ble_eq_true rfl, Nat.le_of_ble_eq_true rfl⟩) hW rfl hl.1 rfl (Nat.le_of_ble_eq_true rfl) dX5_rule_29 ⟨Nat.zero_le _, Nat.zero_le _⟩ (fun H locs hW => ?_)
      refine lv_if_eq (tgt := 39) hx hb dX5_rule_32 (by decide) (fun c16 => ?_) (fun c16 => ?_)
      · replace hd := if_t c16 hd
        refine lv_iconst (v := 0) hx hb dX5_rule_39 (by decide) ?_
        refine lv_iconst (v := 1) hx hb dX5_rule_40 (by decide) ?_
        obtain ⟨r18, F19, h17, hd⟩ := bs_e hd
        refine cVi_ (rest := []) X (kX5_right l Dd Y ad F1 0 1 r18 F19 h17) (cwV 2 X.1.2.2.2.2 gX5_rule_X5_right rfl rfl rfl (by decide +kernel) ⟨Nat.le_of_ble_eq_true rfl, Nat.le_of_ble_eq_true rfl⟩) hW 0 5 rfl rfl rfl rfl hl.1 rfl (Nat.le_of_ble_eq_true rfl) dX5_rule_41 ⟨Nat.zero_le _, Nat.zero_le _⟩ (fun H locs hW => ?_)
        refine lv_if_ne (tgt := 49) hx hb dX5_rule_44 (by decide) (fun c20 => ?_) (fun c20 => ?_)
        · replace hd := if_f c20 hd
          refine lv_aload_n hx hb dX5_rule_49 rfl (lv_at hl 0 rfl) ?_
          obtain ⟨F22, h21, hd⟩ := bp_e hd
          refine cVv_ (rest := []) X (kX5_change l Dd Y ad F19 F22 h21) (cwV 0 X.1.2.2.2.2 gX5_rule_X5_change rfl rfl rfl (by decide +kernel) ⟨Nat.le_of_ble_eq_true rfl, Nat.le_of_ble_eq_true rfl⟩) hW 0 5 rfl rfl rfl rfl hl.1 rfl (Nat.le_of_ble_eq_true rfl) dX5_rule_50 ⟨Nat.zero_le _, Nat.zero_le _⟩ (fun H locs hW => ?_)
          refine lv_aload_n hx hb dX5_rule_53 rfl (lv_at hl 0 rfl) ?_
          refine lv_iload_n hx hb dX5_rule_54 rfl (lv_at hl 1 rfl) ?_
          obtain ⟨r24, h23, hd⟩ := bp_e hd
          refine cVi_ (rest := []) X (kX5_get l Dd Y ad F22 x1 r24 h23) (cwV 1 X.1.2.2.2.2 gX5_rule_X5_get rfl rfl rfl (by decide +kernel) ⟨Nat.le_of_ble_eq_true rfl, Nat.le_of_ble_eq_true rfl⟩) hW 0 5 rfl rfl rfl rfl hl.1 rfl (Nat.le_of_ble_eq_true rfl) dX5_rule_55 ⟨Nat.zero_le _, Nat.zero_le _⟩ (fun H locs hW => ?_)
          refine lv_istore_n (lv' := [(3, .int r24), (0, .ref (ad 0)), (1, .int x1), (2, .int x2)]) hx hb dX5_rule_58 rfl hl (by decide) rfl (fun ls hl => ?_)
          refine lv_aload_n hx hb dX5_rule_59 rfl (lv_at hl 1 rfl) ?_
          refine lv_iload_n hx hb dX5_rule_60 rfl (lv_at hl 2 rfl) ?_
          refine lv_iload_n hx hb dX5_rule_61 rfl (lv_at hl 3 rfl) ?_
          obtain ⟨F26, h25, hd⟩ := bp_e hd
          refine cVv_ (rest := []) X (kX5_put0 l Dd Y ad F22 x1 x2 F26 h25) (cwV 2 X.1.2.2.2.2 gX5_rule_X5_put0 rfl rfl rfl (by decide +kernel) ⟨Nat.le_of_ble_eq_true rfl, Nat.le_of_ble_eq_true rfl⟩) hW 0 5 rfl rfl rfl rfl hl.1 rfl (Nat.le_of_ble_eq_true rfl) dX5_rule_62 ⟨Nat.zero_le _, Nat.zero_le _⟩ (fun H locs hW => ?_)
          refine lv_iload_n hx hb dX5_rule_65 rfl (lv_at hl 2 rfl) ?_
          refine lv_iconst (v := 1) hx hb dX5_rule_66 (by decide) ?_
          refine lv_icmp_ne (tgt := 74) hx hb dX5_rule_67 (by decide) (fun _ => ?_) (fun h => absurd h c2)
          refine lv_iload_n hx hb dX5_rule_74 rfl (lv_at hl 0 rfl) ?_
          obtain ⟨rfl, rfl⟩ := Prod.mk.inj (Option.some.inj hd)
          exact hQ _ _ _ _ rfl hW dX5_rule_75
        · replace hd := if_t c20 hd
          refine lv_iconst (v := 0) hx hb dX5_rule_47 (by decide) ?_
          obtain ⟨rfl, rfl⟩ := Prod.mk.inj (Option.some.inj hd)
          exact hQ _ _ _ _ rfl hW dX5_rule_48
      · replace hd := if_f c16 hd
        refine lv_iconst (v := 1) hx hb dX5_rule_35 (by decide) ?_
        refine lv_goto (tgt := 40) hx hb dX5_rule_36 (by decide) ?_
        refine lv_iconst (v := 1) hx hb dX5_rule_40 (by decide) ?_
        obtain ⟨r28, F29, h27, hd⟩ := bs_e hd
        refine cVi_ (rest := []) X (kX5_right l Dd Y ad F1 1 1 r28 F29 h27) (cwV 2 X.1.2.2.2.2 gX5_rule_X5_right rfl rfl rfl (by decide +kernel) ⟨Nat.le_of_ble_eq_true rfl, Nat.le_of_ble_eq_true rfl⟩) hW 0 5 rfl rfl rfl rfl hl.1 rfl (Nat.le_of_ble_eq_true rfl) dX5_rule_41 ⟨Nat.zero_le _, Nat.zero_le _⟩ (fun H locs hW => ?_)
        refine lv_if_ne (tgt := 49) hx hb dX5_rule_44 (by decide) (fun c30 => ?_) (fun c30 => ?_)
        · replace hd := if_f c30 hd
          refine lv_aload_n hx hb dX5_rule_49 rfl (lv_at hl 0 rfl) ?_
          obtain ⟨F32, h31, hd⟩ := bp_e hd
          refine cVv_ (rest := []) X (kX5_change l Dd Y ad F29 F32 h31) (cwV 0 X.1.2.2.2.2 gX5_rule_X5_change rfl rfl rfl (by decide +kernel) ⟨Nat.le_of_ble_eq_true rfl, Nat.le_of_ble_eq_true rfl⟩) hW 0 5 rfl rfl rfl rfl hl.1 rfl (Nat.le_of_ble_eq_true rfl) dX5_rule_50 ⟨Nat.zero_le _, Nat.zero_le _⟩ (fun H locs hW => ?_)
          refine lv_aload_n hx hb dX5_rule_53 rfl (lv_at hl 0 rfl) ?_
          refine lv_iload_n hx hb dX5_rule_54 rfl (lv_at hl 1 rfl) ?_
          obtain ⟨r34, h33, hd⟩ := bp_e hd
          refine cVi_ (rest := []) X (kX5_get l Dd Y ad F32 x1 r34 h33) (cwV 1 X.1.2.2.2.2 gX5_rule_X5_get rfl rfl rfl (by decide +kernel) ⟨Nat.le_of_ble_eq_true rfl, Nat.le_of_ble_eq_true rfl⟩) hW 0 5 rfl rfl rfl rfl hl.1 rfl (Nat.le_of_ble_eq_true rfl) dX5_rule_55 ⟨Nat.zero_le _, Nat.zero_le _⟩ (fun H locs hW => ?_)
          refine lv_istore_n (lv' := [(3, .int r34), (0, .ref (ad 0)), (1, .int x1), (2, .int x2)]) hx hb dX5_rule_58 rfl hl (by decide) rfl (fun ls hl => ?_)
          refine lv_aload_n hx hb dX5_rule_59 rfl (lv_at hl 1 rfl) ?_
          refine lv_iload_n hx hb dX5_rule_60 rfl (lv_at hl 2 rfl) ?_
          refine lv_iload_n hx hb dX5_rule_61 rfl (lv_at hl 3 rfl) ?_
          obtain ⟨F36, h35, hd⟩ := bp_e hd
          refine cVv_ (rest := []) X (kX5_put0 l Dd Y ad F32 x1 x2 F36 h35) (cwV 2 X.1.2.2.2.2 gX5_rule_X5_put0 rfl rfl rfl (by decide +kernel) ⟨Nat.le_of_ble_eq_true rfl, Nat.le_of_ble_eq_true rfl⟩) hW 0 5 rfl rfl rfl rfl hl.1 rfl (Nat.le_of_ble_eq_true rfl) dX5_rule_62 ⟨Nat.zero_le _, Nat.zero_le _⟩ (fun H locs hW => ?_)
          refine lv_iload_n hx hb dX5_rule_65 rfl (lv_at hl 2 rfl) ?_
          refine lv_iconst (v := 1) hx hb dX5_rule_66 (by decide) ?_
          refine lv_icmp_ne (tgt := 74) hx hb dX5_rule_67 (by decide) (fun _ => ?_) (fun h => absurd h c2)
          refine lv_iload_n hx hb dX5_rule_74 rfl (lv_at hl 0 rfl) ?_
          obtain ⟨rfl, rfl⟩ := Prod.mk.inj (Option.some.inj hd)
          exact hQ _ _ _ _ rfl hW dX5_rule_75
        · replace hd := if_t c30 hd
          refine lv_iconst (v := 0) hx hb dX5_rule_47 (by decide) ?_
          obtain ⟨rfl, rfl⟩ := Prod.mk.inj (Option.some.inj hd)
          exact hQ _ _ _ _ rfl hW dX5_rule_48
  · replace hd := if_t c2 hd
    refine lv_iload_n hx hb dX5_rule_11 rfl (lv_at hl 2 rfl) ?_
    refine lv_iconst (v := 0) hx hb dX5_rule_12 (by decide) ?_
    refine lv_iconst (v := 2) hx hb dX5_rule_13 (by decide) ?_
    obtain ⟨r38, h37, hd⟩ := bp_e hd
    refine cSi_ (rest := [.ref (ad 0)]) X (kX5_isIn l Dd Y x2 0 2 r38 h37) (va_cwS 3 X.1.2.2.2.2 gX5_rule_X5_isIn rfl rfl rfl (by decide +kernel) ⟨Nat.le_of_ble_eq_true rfl, Nat.le_of_ble_eq_true rfl⟩) hW rfl hl.1 rfl (Nat.le_of_ble_eq_true rfl) dX5_rule_14 ⟨Nat.zero_le _, Nat.zero_le _⟩ (fun H locs hW => ?_)
    refine lv_goto (tgt := 40) hx hb dX5_rule_17 (by decide) ?_
    refine lv_iconst (v := 1) hx hb dX5_rule_40 (by decide) ?_
    obtain ⟨r40, F41, h39, hd⟩ := bs_e hd
    refine cVi_ (rest := []) X (kX5_right l Dd Y ad F1 r38 1 r40 F41 h39) (cwV 2 X.1.2.2.2.2 gX5_rule_X5_right rfl rfl rfl (by decide +kernel) ⟨Nat.le_of_ble_eq_true rfl, Nat.le_of_ble_eq_true rfl⟩) hW 0 5 rfl rfl rfl rfl hl.1 rfl (Nat.le_of_ble_eq_true rfl) dX5_rule_41 ⟨Nat.zero_le _, Nat.zero_le _⟩ (fun H locs hW => ?_)
    refine lv_if_ne (tgt := 49) hx hb dX5_rule_44 (by decide) (fun c42 => ?_) (fun c42 => ?_)
    · replace hd := if_f c42 hd
      refine lv_aload_n hx hb dX5_rule_49 rfl (lv_at hl 0 rfl) ?_
      obtain ⟨F44, h43, hd⟩ := bp_e hd
      refine cVv_ (rest := []) X (kX5_change l Dd Y ad F41 F44 h43) (cwV 0 X.1.2.2.2.2 gX5_rule_X5_change rfl rfl rfl (by decide +kernel) ⟨Nat.le_of_ble_eq_true rfl, Nat.le_of_ble_eq_true rfl⟩) hW 0 5 rfl rfl rfl rfl hl.1 rfl (Nat.le_of_ble_eq_true rfl) dX5_rule_50 ⟨Nat.zero_le _, Nat.zero_le _⟩ (fun H locs hW => ?_)
      refine lv_aload_n hx hb dX5_rule_53 rfl (lv_at hl 0 rfl) ?_
      refine lv_iload_n hx hb dX5_rule_54 rfl (lv_at hl 1 rfl) ?_
      obtain ⟨r46, h45, hd⟩ := bp_e hd
      refine cVi_ (rest := []) X (kX5_get l Dd Y ad F44 x1 r46 h45) (cwV 1 X.1.2.2.2.2 gX5_rule_X5_get rfl rfl rfl (by decide +kernel) ⟨Nat.le_of_ble_eq_true rfl, Nat.le_of_ble_eq_true rfl⟩) hW 0 5 rfl rfl rfl rfl hl.1 rfl (Nat.le_of_ble_eq_true rfl) dX5_rule_55 ⟨Nat.zero_le _, Nat.zero_le _⟩ (fun H locs hW => ?_)
      refine lv_istore_n (lv' := [(3, .int r46), (0, .ref (ad 0)), (1, .int x1), (2, .int x2)]) hx hb dX5_rule_58 rfl hl (by decide) rfl (fun ls hl => ?_)
      refine lv_aload_n hx hb dX5_rule_59 rfl (lv_at hl 1 rfl) ?_
      refine lv_iload_n hx hb dX5_rule_60 rfl (lv_at hl 2 rfl) ?_
      refine lv_iload_n hx hb dX5_rule_61 rfl (lv_at hl 3 rfl) ?_
      obtain ⟨F48, h47, hd⟩ := bp_e hd
      refine cVv_ (rest := []) X (kX5_put0 l Dd Y ad F44 x1 x2 F48 h47) (cwV 2 X.1.2.2.2.2 gX5_rule_X5_put0 rfl rfl rfl (by decide +kernel) ⟨Nat.le_of_ble_eq_true rfl, Nat.le_of_ble_eq_true rfl⟩) hW 0 5 rfl rfl rfl rfl hl.1 rfl (Nat.le_of_ble_eq_true rfl) dX5_rule_62 ⟨Nat.zero_le _, Nat.zero_le _⟩ (fun H locs hW => ?_)
      refine lv_iload_n hx hb dX5_rule_65 rfl (lv_at hl 2 rfl) ?_
      refine lv_iconst (v := 1) hx hb dX5_rule_66 (by decide) ?_
      refine lv_icmp_ne (tgt := 74) hx hb dX5_rule_67 (by decide) (fun h => absurd c2 h) (fun _ => ?_)
      refine lv_aload_n hx hb dX5_rule_70 rfl (lv_at hl 1 rfl) ?_
      obtain ⟨F50, h49, hd⟩ := bp_e hd
      refine cVv_ (rest := []) X (kX5_builds l Dd Y ad F48 F50 h49) (cwV 0 X.1.2.2.2.2 gX5_rule_X5_builds rfl rfl rfl (by decide +kernel) ⟨Nat.le_of_ble_eq_true rfl, Nat.le_of_ble_eq_true rfl⟩) hW 0 5 rfl rfl rfl rfl hl.1 rfl (Nat.le_of_ble_eq_true rfl) dX5_rule_71 ⟨Nat.zero_le _, Nat.zero_le _⟩ (fun H locs hW => ?_)
      refine lv_iload_n hx hb dX5_rule_74 rfl (lv_at hl 0 rfl) ?_
      obtain ⟨rfl, rfl⟩ := Prod.mk.inj (Option.some.inj hd)
      exact hQ _ _ _ _ rfl hW dX5_rule_75
    · replace hd := if_t c42 hd
      refine lv_iconst (v := 0) hx hb dX5_rule_47 (by decide) ?_
      obtain ⟨rfl, rfl⟩ := Prod.mk.inj (Option.some.inj hd)
      exact hQ _ _ _ _ rfl hW dX5_rule_48
abbrev rmX5_undo : Room := { frames := 0, cells := 0, slots := 0, locals := 0 }
set_option maxRecDepth 100000 in
set_option maxHeartbeats 4000000 in
theorem kX5_undo (l : Launch) (Dd : va_G) (Y : yT) (ad : Nat → Nat) (F : gF) (r : Int32) (F' : gF) (hd : dnX5_undo F = some (r, F')) : MG l yX5_undo wsX5_undo rmX5_undo Dd Y [.ref (ad 0)] (WM Y ad F) (WM Y ad F') (some (.int r)) := by
  refine MGi (cc := cX5_undo) (maxL := 1) (ty := .int) (by decide) rfl (Nat.le_of_ble_eq_true rfl) (fun {p e s m args below meth c A} ls Q X hW hl hQ => ?_)
  have hx := X.x
  have hb := X.b
  have hl : lv_has ls 1 [(0, .ref (ad 0))] := hl
  have hinX5 : ∀ w ∈ wsX50, w ∈ wsX5_undo := fun w h => List.mem_cons_of_mem _ (List.mem_append_right _ h)
  unfold dnX5_undo at hd
  refine lv_aload_n hx hb dX5_undo_0 rfl (lv_at hl 0 rfl) ?_
  refine lv_iconst (v := 0) hx hb dX5_undo_1 (by decide) ?_
  obtain ⟨F1, eF1, hd⟩ := bw_e hd
  refine p_ (ty := .int) X hinX5 tyX5 tyX5_ok nmX5 hW 0 rfl rfl 0 (by decide) 1 rfl rfl rfl (by decide +kernel) rfl rfl (Nat.le_of_ble_eq_true rfl) dX5_undo_2 (ws' := (WM Y ad F1)) (by rw [eF1]; rfl) (fun H locs hW => ?_)
  refine lv_aload_n hx hb dX5_undo_5 rfl (lv_at hl 0 rfl) ?_
  refine g_ X hinX5 hW 0 rfl rfl 5 (by decide) 2 rfl rfl rfl dX5_undo_6 ?_
  refine lv_if_ne (tgt := 14) hx hb dX5_undo_9 (by decide) (fun c2 => ?_) (fun c2 => ?_)
  · replace hd := if_f c2 hd
    refine lv_aload_n hx hb dX5_undo_14 rfl (lv_at hl 0 rfl) ?_
    refine lv_dup hx hb dX5_undo_15 rfl ?_
    refine g_ X hinX5 hW 0 rfl rfl 5 (by decide) 2 rfl rfl rfl dX5_undo_16 ?_
    refine lv_iconst (v := 1) hx hb dX5_undo_19 (by decide) ?_
    refine lv_isub hx hb dX5_undo_20 ?_
    obtain ⟨F3, eF3, hd⟩ := bw_e hd
    refine p_ (ty := .int) X hinX5 tyX5 tyX5_ok nmX5 hW 0 rfl rfl 5 (by decide) 2 rfl rfl rfl (by decide +kernel) rfl rfl (Nat.le_of_ble_eq_true rfl) dX5_undo_21 (ws' := (WM Y ad F3)) (by rw [eF3]; rfl) (fun H locs hW => ?_)
    refine lv_aload_n hx hb dX5_undo_24 rfl (lv_at hl 0 rfl) ?_
    refine lv_aload_n hx hb dX5_undo_25 rfl (lv_at hl 0 rfl) ?_
    refine g_ X hinX5 hW 0 rfl rfl 4 (by decide) 3 rfl rfl rfl dX5_undo_26 ?_
    refine lv_bipush (v := 9) hx hb dX5_undo_29 (by decide) ?_
    refine lv_iadd hx hb dX5_undo_31 ?_
    refine lv_iconst (v := 1) hx hb dX5_undo_32 (by decide) ?_
    refine lv_isub hx hb dX5_undo_33 ?_
    refine lv_bipush (v := 9) hx hb dX5_undo_34 (by decide) ?_
    refine lv_irem hx hb dX5_undo_36 (by decide) ?_
    obtain ⟨F4, eF4, hd⟩ := bw_e hd
    refine p_ (ty := .int) X hinX5 tyX5 tyX5_ok nmX5 hW 0 rfl rfl 4 (by decide) 3 rfl rfl rfl (by decide +kernel) rfl rfl (Nat.le_of_ble_eq_true rfl) dX5_undo_37 (ws' := (WM Y ad F4)) (by rw [eF4]; rfl) (fun H locs hW => ?_)
    refine lv_aload_n hx hb dX5_undo_40 rfl (lv_at hl 0 rfl) ?_
    refine g_ X hinX5 hW 0 rfl rfl 5 (by decide) 2 rfl rfl rfl dX5_undo_41 ?_
    obtain ⟨rfl, rfl⟩ := Prod.mk.inj (Option.some.inj hd)
    exact hQ _ _ _ _ rfl hW dX5_undo_44
  · replace hd := if_t c2 hd
    refine lv_iconst (v := (-1)) hx hb dX5_undo_12 (by decide) ?_
    obtain ⟨rfl, rfl⟩ := Prod.mk.inj (Option.some.inj hd)
    exact hQ _ _ _ _ rfl hW dX5_undo_13
abbrev rmX5_joins : Room := { frames := 0, cells := 0, slots := 0, locals := 0 }
set_option maxRecDepth 100000 in
set_option maxHeartbeats 4000000 in
theorem kX5_joins (l : Launch) (Dd : va_G) (Y : yT) (x0 : Int64) (x2 : Int64) (r : Int64) (hd : dnX5_joins x0 x2 = some r) : MG l yX5_joins wsX5_joins rmX5_joins Dd Y [.long x0, .long x2] [] [] (some (.long r)) := by
  refine MGl (cc := cX5_joins) (maxL := 4) (by decide) rfl (Nat.le_of_ble_eq_true rfl) (fun {p e s m args below meth c A} ls Q X hW hl hQ => ?_)
  have hx := X.x
  have hb := X.b
  have hl : lv_has ls 4 [(0, .long x0), (2, .long x2)] := hl
  unfold dnX5_joins at hd
  refine lv_ldc2 hx hb X.1.2.2.2.1 (X.w (i := 1) rfl) dX5_joins_0 ?_
  refine lv_lload_n hx hb dX5_joins_3 rfl (lv_at hl 0 rfl) ?_
  refine lv_lmul hx hb dX5_joins_4 ?_
  refine lv_lload_n hx hb dX5_joins_5 rfl (lv_at hl 1 rfl) ?_
  refine lv_ladd hx hb dX5_joins_6 ?_
  have hd := Option.some.inj hd
  subst hd
  exact hQ _ _ _ _ hW dX5_joins_7
abbrev rmX5_checksum : Room := { frames := 5, cells := 0, slots := 0, locals := 105 }
set_option maxRecDepth 100000 in
set_option maxHeartbeats 4000000 in
theorem kX5_checksum (l : Launch) (Dd : va_G) (Y : yT) (ad : Nat → Nat) (F : gF) (r : Int64) (F' : gF) (hd : dnX5_checksum F = some (r, F')) : MG l yX5_checksum wsX5_checksum rmX5_checksum Dd Y [.ref (ad 0)] (WM Y ad F) (WM Y ad F') (some (.long r)) := by
  refine MGl (cc := cX5_checksum) (maxL := 5) (by decide) rfl (Nat.le_of_ble_eq_true rfl) (fun {p e s m args below meth c A} ls Q X hW hl hQ => ?_)
  have hx := X.x
  have hb := X.b
  have hl : lv_has ls 5 [(0, .ref (ad 0))] := hl
  have hinX5 : ∀ w ∈ wsX50, w ∈ wsX5_checksum := fun w h => List.mem_cons_of_mem _ (List.mem_append_right _ h)
  unfold dnX5_checksum at hd
  have K9 : ∀ (F : gF) (n : Nat) (x1 : Int64) (x3 : Int32) (z : Nat × Int64), lpX5_checksum_9 F n x1 x3 = some z → ∀ (H : Heap) (locs : List Loc) (ls : Array Slot), Wd Dd A s.heap (WM Y ad F) H locs → lv_has ls 5 [(0, .ref (ad 0)), (1, .long x1), (3, .int x3)] → (∀ (H : Heap) (locs : List Loc) (ls : Array Slot), z.1 = 0 → Wd Dd A s.heap (WM Y ad F) H locs → lv_has ls 5 [(0, .ref (ad 0)), (1, .long z.2)] → W p l e rmX5_checksum s m args below meth c H locs 0 0 Q (F0 m 32 ls [])) → W p l e rmX5_checksum s m args below meth c H locs 0 0 Q (F0 m 9 ls []) := by
    intro F n
    induction n with
    | zero => intro x1 x3 z hd; cases hd
    | succ n ih =>
      intro x1 x3 z hd H locs ls hW hl kx0
      unfold lpX5_checksum_9 at hd
      refine lv_iload_n hx hb dX5_checksum_9 rfl (lv_at hl 2 rfl) ?_
      refine lv_bipush (v := 11) hx hb dX5_checksum_10 (by decide) ?_
      refine lv_icmp_ge (tgt := 32) hx hb dX5_checksum_12 (by decide) (fun c1 => ?_) (fun c1 => ?_)
      · replace hd := if_t c1 hd
        cases hd
        exact kx0 _ _ _ rfl hW (lv_sub hl [0, 1] rfl)
      · replace hd := if_f c1 hd
        refine lv_lload_n hx hb dX5_checksum_15 rfl (lv_at hl 1 rfl) ?_
        refine lv_aload_n hx hb dX5_checksum_16 rfl (lv_at hl 0 rfl) ?_
        refine lv_iload_n hx hb dX5_checksum_17 rfl (lv_at hl 2 rfl) ?_
        obtain ⟨r3, h2, hd⟩ := bp_e hd
        refine cVi_ (rest := [.long x1]) X (kX5_toldOf l Dd Y ad F x3 r3 h2) (cwV 1 X.1.2.2.2.2 gX5_checksum_X5_toldOf rfl rfl rfl (by decide +kernel) ⟨Nat.le_of_ble_eq_true rfl, Nat.le_of_ble_eq_true rfl⟩) hW 0 5 rfl rfl rfl rfl hl.1 rfl (Nat.le_of_ble_eq_true rfl) dX5_checksum_18 ⟨Nat.zero_le _, Nat.zero_le _⟩ (fun H locs hW => ?_)
        refine lv_i2l (v := r3.toInt64) hx hb dX5_checksum_21 rfl ?_
        obtain ⟨r5, h4, hd⟩ := bp_e hd
        refine cSl_ (rest := []) X (kX5_joins l Dd Y x1 r3.toInt64 r5 h4) (va_cwS 2 X.1.2.2.2.2 gX5_checksum_X5_joins rfl rfl rfl (by decide +kernel) ⟨Nat.le_of_ble_eq_true rfl, Nat.le_of_ble_eq_true rfl⟩) hW rfl hl.1 rfl (Nat.le_of_ble_eq_true rfl) dX5_checksum_22 ⟨Nat.zero_le _, Nat.zero_le _⟩ (fun H locs hW => ?_)
        refine lv_lstore_n (lv' := [(1, .long r5), (0, .ref (ad 0)), (3, .int x3)]) hx hb dX5_checksum_25 rfl hl (by decide) rfl (fun ls hl => ?_)
        refine lv_iinc (v := x3 + 1) (lv' := [(3, .int (x3 + 1)), (1, .long r5), (0, .ref (ad 0))]) hx hb dX5_checksum_26 hl (k := 2) rfl rfl (by decide) rfl (fun ls hl => ?_)
        refine lv_goto (tgt := 9) hx hb dX5_checksum_29 (by decide) ?_
        exact ih r5 (x3 + 1) z hd _ _ _ hW (lv_sub hl [2, 1, 0] rfl) kx0
  have K83 : ∀ (F : gF) (x3 : Int32) (n : Nat) (x1 : Int64) (x4 : Int32) (z : Nat × Int64), lpX5_checksum_83 F x3 n x1 x4 = some z → ∀ (H : Heap) (locs : List Loc) (ls : Array Slot), Wd Dd A s.heap (WM Y ad F) H locs → lv_has ls 5 [(0, .ref (ad 0)), (1, .long x1), (3, .int x3), (4, .int x4)] → (∀ (H : Heap) (locs : List Loc) (ls : Array Slot), z.1 = 0 → Wd Dd A s.heap (WM Y ad F) H locs → lv_has ls 5 [(0, .ref (ad 0)), (1, .long z.2), (3, .int x3)] → W p l e rmX5_checksum s m args below meth c H locs 0 0 Q (F0 m 115 ls [])) → W p l e rmX5_checksum s m args below meth c H locs 0 0 Q (F0 m 83 ls []) := by
    intro F x3 n
    induction n with
    | zero => intro x1 x4 z hd; cases hd
    | succ n ih =>
      intro x1 x4 z hd H locs ls hW hl kx0
      unfold lpX5_checksum_83 at hd
      refine lv_iload hx hb dX5_checksum_83 (lv_at hl 3 rfl) ?_
      refine lv_aload_n hx hb dX5_checksum_85 rfl (lv_at hl 0 rfl) ?_
      refine lv_iload_n hx hb dX5_checksum_86 rfl (lv_at hl 2 rfl) ?_
      obtain ⟨r7, h6, hd⟩ := bp_e hd
      refine cVi_ (rest := [.int x4]) X (kX5_cellsOn l Dd Y ad F x3 r7 h6) (cwV 1 X.1.2.2.2.2 gX5_checksum_X5_cellsOn rfl rfl rfl (by decide +kernel) ⟨Nat.le_of_ble_eq_true rfl, Nat.le_of_ble_eq_true rfl⟩) hW 0 5 rfl rfl rfl rfl hl.1 rfl (Nat.le_of_ble_eq_true rfl) dX5_checksum_87 ⟨Nat.zero_le _, Nat.zero_le _⟩ (fun H locs hW => ?_)
      refine lv_icmp_ge (tgt := 115) hx hb dX5_checksum_90 (by decide) (fun c8 => ?_) (fun c8 => ?_)
      · replace hd := if_t c8 hd
        cases hd
        exact kx0 _ _ _ rfl hW (lv_sub hl [0, 1, 2] rfl)
      · replace hd := if_f c8 hd
        refine lv_lload_n hx hb dX5_checksum_93 rfl (lv_at hl 1 rfl) ?_
        refine lv_aload_n hx hb dX5_checksum_94 rfl (lv_at hl 0 rfl) ?_
        refine lv_iload_n hx hb dX5_checksum_95 rfl (lv_at hl 2 rfl) ?_
        refine lv_iload hx hb dX5_checksum_96 (lv_at hl 3 rfl) ?_
        obtain ⟨r10, h9, hd⟩ := bp_e hd
        refine cSi_ (rest := [.ref (ad 0), .long x1]) X (kX5_cellAt l Dd Y x3 x4 r10 h9) (va_cwS 2 X.1.2.2.2.2 gX5_checksum_X5_cellAt rfl rfl rfl (by decide +kernel) ⟨Nat.le_of_ble_eq_true rfl, Nat.le_of_ble_eq_true rfl⟩) hW rfl hl.1 rfl (Nat.le_of_ble_eq_true rfl) dX5_checksum_98 ⟨Nat.zero_le _, Nat.zero_le _⟩ (fun H locs hW => ?_)
        obtain ⟨r12, h11, hd⟩ := bp_e hd
        refine cVi_ (rest := [.long x1]) X (kX5_get l Dd Y ad F r10 r12 h11) (cwV 1 X.1.2.2.2.2 gX5_checksum_X5_get rfl rfl rfl (by decide +kernel) ⟨Nat.le_of_ble_eq_true rfl, Nat.le_of_ble_eq_true rfl⟩) hW 0 5 rfl rfl rfl rfl hl.1 rfl (Nat.le_of_ble_eq_true rfl) dX5_checksum_101 ⟨Nat.zero_le _, Nat.zero_le _⟩ (fun H locs hW => ?_)
        refine lv_i2l (v := r12.toInt64) hx hb dX5_checksum_104 rfl ?_
        obtain ⟨r14, h13, hd⟩ := bp_e hd
        refine cSl_ (rest := []) X (kX5_joins l Dd Y x1 r12.toInt64 r14 h13) (va_cwS 2 X.1.2.2.2.2 gX5_checksum_X5_joins rfl rfl rfl (by decide +kernel) ⟨Nat.le_of_ble_eq_true rfl, Nat.le_of_ble_eq_true rfl⟩) hW rfl hl.1 rfl (Nat.le_of_ble_eq_true rfl) dX5_checksum_105 ⟨Nat.zero_le _, Nat.zero_le _⟩ (fun H locs hW => ?_)
        refine lv_lstore_n (lv' := [(1, .long r14), (0, .ref (ad 0)), (3, .int x3), (4, .int x4)]) hx hb dX5_checksum_108 rfl hl (by decide) rfl (fun ls hl => ?_)
        refine lv_iinc (v := x4 + 1) (lv' := [(4, .int (x4 + 1)), (1, .long r14), (0, .ref (ad 0)), (3, .int x3)]) hx hb dX5_checksum_109 hl (k := 3) rfl rfl (by decide) rfl (fun ls hl => ?_)
        refine lv_goto (tgt := 83) hx hb dX5_checksum_112 (by decide) ?_
        exact ih r14 (x4 + 1) z hd _ _ _ hW (lv_sub hl [2, 1, 3, 0] rfl) kx0
  have K123 : ∀ (F : gF) (n : Nat) (x1 : Int64) (x3 : Int32) (z : Nat × Int64), lpX5_checksum_123 F n x1 x3 = some z → ∀ (H : Heap) (locs : List Loc) (ls : Array Slot), Wd Dd A s.heap (WM Y ad F) H locs → lv_has ls 5 [(0, .ref (ad 0)), (1, .long x1), (3, .int x3)] → (∀ (H : Heap) (locs : List Loc) (ls : Array Slot), z.1 = 0 → Wd Dd A s.heap (WM Y ad F) H locs → lv_has ls 5 [(1, .long z.2)] → W p l e rmX5_checksum s m args below meth c H locs 0 0 Q (F0 m 159 ls [])) → W p l e rmX5_checksum s m args below meth c H locs 0 0 Q (F0 m 123 ls []) := by
    intro F n
    induction n with
    | zero => intro x1 x3 z hd; cases hd
    | succ n ih =>
      intro x1 x3 z hd H locs ls hW hl kx0
      unfold lpX5_checksum_123 at hd
      refine lv_iload_n hx hb dX5_checksum_123 rfl (lv_at hl 2 rfl) ?_
      refine lv_aload_n hx hb dX5_checksum_124 rfl (lv_at hl 0 rfl) ?_
      refine lv_bipush (v := 6) hx hb dX5_checksum_125 (by decide) ?_
      obtain ⟨r16, h15, hd⟩ := bp_e hd
      refine cVi_ (rest := [.int x3]) X (kX5_get l Dd Y ad F 6 r16 h15) (cwV 1 X.1.2.2.2.2 gX5_checksum_X5_get rfl rfl rfl (by decide +kernel) ⟨Nat.le_of_ble_eq_true rfl, Nat.le_of_ble_eq_true rfl⟩) hW 0 5 rfl rfl rfl rfl hl.1 rfl (Nat.le_of_ble_eq_true rfl) dX5_checksum_127 ⟨Nat.zero_le _, Nat.zero_le _⟩ (fun H locs hW => ?_)
      refine lv_icmp_ge (tgt := 159) hx hb dX5_checksum_130 (by decide) (fun c17 => ?_) (fun c17 => ?_)
      · replace hd := if_t c17 hd
        cases hd
        exact kx0 _ _ _ rfl hW (lv_sub hl [1] rfl)
      · replace hd := if_f c17 hd
        refine lv_lload_n hx hb dX5_checksum_133 rfl (lv_at hl 1 rfl) ?_
        refine lv_bipush (v := 100) hx hb dX5_checksum_134 (by decide) ?_
        refine lv_aload_n hx hb dX5_checksum_136 rfl (lv_at hl 0 rfl) ?_
        refine lv_iload_n hx hb dX5_checksum_137 rfl (lv_at hl 2 rfl) ?_
        obtain ⟨r19, h18, hd⟩ := bp_e hd
        refine cVi_ (rest := [.int 100, .long x1]) X (kX5_keptFrom l Dd Y ad F x3 r19 h18) (cwV 1 X.1.2.2.2.2 gX5_checksum_X5_keptFrom rfl rfl rfl (by decide +kernel) ⟨Nat.le_of_ble_eq_true rfl, Nat.le_of_ble_eq_true rfl⟩) hW 0 5 rfl rfl rfl rfl hl.1 rfl (Nat.le_of_ble_eq_true rfl) dX5_checksum_138 ⟨Nat.zero_le _, Nat.zero_le _⟩ (fun H locs hW => ?_)
        refine lv_imul hx hb dX5_checksum_141 ?_
        refine lv_aload_n hx hb dX5_checksum_142 rfl (lv_at hl 0 rfl) ?_
        refine lv_iload_n hx hb dX5_checksum_143 rfl (lv_at hl 2 rfl) ?_
        obtain ⟨r21, h20, hd⟩ := bp_e hd
        refine cVi_ (rest := [.int (100 * r19), .long x1]) X (kX5_keptTo l Dd Y ad F x3 r21 h20) (cwV 1 X.1.2.2.2.2 gX5_checksum_X5_keptTo rfl rfl rfl (by decide +kernel) ⟨Nat.le_of_ble_eq_true rfl, Nat.le_of_ble_eq_true rfl⟩) hW 0 5 rfl rfl rfl rfl hl.1 rfl (Nat.le_of_ble_eq_true rfl) dX5_checksum_144 ⟨Nat.zero_le _, Nat.zero_le _⟩ (fun H locs hW => ?_)
        refine lv_iadd hx hb dX5_checksum_147 ?_
        refine lv_i2l (v := ((100 * r19) + r21).toInt64) hx hb dX5_checksum_148 rfl ?_
        obtain ⟨r23, h22, hd⟩ := bp_e hd
        refine cSl_ (rest := []) X (kX5_joins l Dd Y x1 (((100 * r19) + r21).toInt64) r23 h22) (va_cwS 2 X.1.2.2.2.2 gX5_checksum_X5_joins rfl rfl rfl (by decide +kernel) ⟨Nat.le_of_ble_eq_true rfl, Nat.le_of_ble_eq_true rfl⟩) hW rfl hl.1 rfl (Nat.le_of_ble_eq_true rfl) dX5_checksum_149 ⟨Nat.zero_le _, Nat.zero_le _⟩ (fun H locs hW => ?_)
        refine lv_lstore_n (lv' := [(1, .long r23), (0, .ref (ad 0)), (3, .int x3)]) hx hb dX5_checksum_152 rfl hl (by decide) rfl (fun ls hl => ?_)
        refine lv_iinc (v := x3 + 1) (lv' := [(3, .int (x3 + 1)), (1, .long r23), (0, .ref (ad 0))]) hx hb dX5_checksum_153 hl (k := 2) rfl rfl (by decide) rfl (fun ls hl => ?_)
        refine lv_goto (tgt := 123) hx hb dX5_checksum_156 (by decide) ?_
        exact ih r23 (x3 + 1) z hd _ _ _ hW (lv_sub hl [2, 1, 0] rfl) kx0
  have K34 : ∀ (F : gF) (n : Nat) (x1 : Int64) (x3 : Int32) (z : Nat × Int64), lpX5_checksum_34 F n x1 x3 = some z → ∀ (H : Heap) (locs : List Loc) (ls : Array Slot), Wd Dd A s.heap (WM Y ad F) H locs → lv_has ls 5 [(0, .ref (ad 0)), (1, .long x1), (3, .int x3)] → (∀ (H : Heap) (locs : List Loc) (ls : Array Slot), z.1 = 0 → Wd Dd A s.heap (WM Y ad F) H locs → lv_has ls 5 [(0, .ref (ad 0)), (1, .long z.2)] → W p l e rmX5_checksum s m args below meth c H locs 0 0 Q (F0 m 73 ls [])) → W p l e rmX5_checksum s m args below meth c H locs 0 0 Q (F0 m 34 ls []) := by
    intro F n
    induction n with
    | zero => intro x1 x3 z hd; cases hd
    | succ n ih =>
      intro x1 x3 z hd H locs ls hW hl kx0
      unfold lpX5_checksum_34 at hd
      refine lv_iload_n hx hb dX5_checksum_34 rfl (lv_at hl 2 rfl) ?_
      refine lv_aload_n hx hb dX5_checksum_35 rfl (lv_at hl 0 rfl) ?_
      obtain ⟨r25, h24, hd⟩ := bp_e hd
      refine cVi_ (rest := [.int x3]) X (kX5_size l Dd Y ad F r25 h24) (cwV 0 X.1.2.2.2.2 gX5_checksum_X5_size rfl rfl rfl (by decide +kernel) ⟨Nat.le_of_ble_eq_true rfl, Nat.le_of_ble_eq_true rfl⟩) hW 0 5 rfl rfl rfl rfl hl.1 rfl (Nat.le_of_ble_eq_true rfl) dX5_checksum_36 ⟨Nat.zero_le _, Nat.zero_le _⟩ (fun H locs hW => ?_)
      refine lv_icmp_ge (tgt := 73) hx hb dX5_checksum_39 (by decide) (fun c26 => ?_) (fun c26 => ?_)
      · replace hd := if_t c26 hd
        cases hd
        exact kx0 _ _ _ rfl hW (lv_sub hl [0, 1] rfl)
      · replace hd := if_f c26 hd
        refine lv_lload_n hx hb dX5_checksum_42 rfl (lv_at hl 1 rfl) ?_
        refine lv_aload_n hx hb dX5_checksum_43 rfl (lv_at hl 0 rfl) ?_
        refine lv_iload_n hx hb dX5_checksum_44 rfl (lv_at hl 2 rfl) ?_
        obtain ⟨r28, h27, hd⟩ := bp_e hd
        refine cVi_ (rest := [.long x1]) X (kX5_valueAt l Dd Y ad F x3 r28 h27) (cwV 1 X.1.2.2.2.2 gX5_checksum_X5_valueAt rfl rfl rfl (by decide +kernel) ⟨Nat.le_of_ble_eq_true rfl, Nat.le_of_ble_eq_true rfl⟩) hW 0 5 rfl rfl rfl rfl hl.1 rfl (Nat.le_of_ble_eq_true rfl) dX5_checksum_45 ⟨Nat.zero_le _, Nat.zero_le _⟩ (fun H locs hW => ?_)
        refine lv_i2l (v := r28.toInt64) hx hb dX5_checksum_48 rfl ?_
        obtain ⟨r30, h29, hd⟩ := bp_e hd
        refine cSl_ (rest := []) X (kX5_joins l Dd Y x1 r28.toInt64 r30 h29) (va_cwS 2 X.1.2.2.2.2 gX5_checksum_X5_joins rfl rfl rfl (by decide +kernel) ⟨Nat.le_of_ble_eq_true rfl, Nat.le_of_ble_eq_true rfl⟩) hW rfl hl.1 rfl (Nat.le_of_ble_eq_true rfl) dX5_checksum_49 ⟨Nat.zero_le _, Nat.zero_le _⟩ (fun H locs hW => ?_)
        refine lv_lstore_n (lv' := [(1, .long r30), (0, .ref (ad 0)), (3, .int x3)]) hx hb dX5_checksum_52 rfl hl (by decide) rfl (fun ls hl => ?_)
        refine lv_lload_n hx hb dX5_checksum_53 rfl (lv_at hl 0 rfl) ?_
        refine lv_aload_n hx hb dX5_checksum_54 rfl (lv_at hl 1 rfl) ?_
        refine lv_bipush (v := 52) hx hb dX5_checksum_55 (by decide) ?_
        refine lv_iload_n hx hb dX5_checksum_57 rfl (lv_at hl 2 rfl) ?_
        refine lv_iadd hx hb dX5_checksum_58 ?_
        obtain ⟨r32, h31, hd⟩ := bp_e hd
        refine cVi_ (rest := [.long r30]) X (kX5_get l Dd Y ad F (52 + x3) r32 h31) (cwV 1 X.1.2.2.2.2 gX5_checksum_X5_get rfl rfl rfl (by decide +kernel) ⟨Nat.le_of_ble_eq_true rfl, Nat.le_of_ble_eq_true rfl⟩) hW 0 5 rfl rfl rfl rfl hl.1 rfl (Nat.le_of_ble_eq_true rfl) dX5_checksum_59 ⟨Nat.zero_le _, Nat.zero_le _⟩ (fun H locs hW => ?_)
        refine lv_i2l (v := r32.toInt64) hx hb dX5_checksum_62 rfl ?_
        obtain ⟨r34, h33, hd⟩ := bp_e hd
        refine cSl_ (rest := []) X (kX5_joins l Dd Y r30 r32.toInt64 r34 h33) (va_cwS 2 X.1.2.2.2.2 gX5_checksum_X5_joins rfl rfl rfl (by decide +kernel) ⟨Nat.le_of_ble_eq_true rfl, Nat.le_of_ble_eq_true rfl⟩) hW rfl hl.1 rfl (Nat.le_of_ble_eq_true rfl) dX5_checksum_63 ⟨Nat.zero_le _, Nat.zero_le _⟩ (fun H locs hW => ?_)
        refine lv_lstore_n (lv' := [(1, .long r34), (0, .ref (ad 0)), (3, .int x3)]) hx hb dX5_checksum_66 rfl hl (by decide) rfl (fun ls hl => ?_)
        refine lv_iinc (v := x3 + 1) (lv' := [(3, .int (x3 + 1)), (1, .long r34), (0, .ref (ad 0))]) hx hb dX5_checksum_67 hl (k := 2) rfl rfl (by decide) rfl (fun ls hl => ?_)
        refine lv_goto (tgt := 34) hx hb dX5_checksum_70 (by decide) ?_
        exact ih r34 (x3 + 1) z hd _ _ _ hW (lv_sub hl [2, 1, 0] rfl) kx0
  have K75 : ∀ (F : gF) (n : Nat) (x1 : Int64) (x3 : Int32) (z : Nat × Int64), lpX5_checksum_75 F n x1 x3 = some z → ∀ (H : Heap) (locs : List Loc) (ls : Array Slot), Wd Dd A s.heap (WM Y ad F) H locs → lv_has ls 5 [(0, .ref (ad 0)), (1, .long x1), (3, .int x3)] → (∀ (H : Heap) (locs : List Loc) (ls : Array Slot), z.1 = 0 → Wd Dd A s.heap (WM Y ad F) H locs → lv_has ls 5 [(0, .ref (ad 0)), (1, .long z.2)] → W p l e rmX5_checksum s m args below meth c H locs 0 0 Q (F0 m 121 ls [])) → W p l e rmX5_checksum s m args below meth c H locs 0 0 Q (F0 m 75 ls []) := by
    intro F n
    induction n with
    | zero => intro x1 x3 z hd; cases hd
    | succ n ih =>
      intro x1 x3 z hd H locs ls hW hl kx0
      unfold lpX5_checksum_75 at hd
      refine lv_iload_n hx hb dX5_checksum_75 rfl (lv_at hl 2 rfl) ?_
      refine lv_iconst (v := 5) hx hb dX5_checksum_76 (by decide) ?_
      refine lv_icmp_gt (tgt := 121) hx hb dX5_checksum_77 (by decide) (fun c35 => ?_) (fun c35 => ?_)
      · replace hd := if_t c35 hd
        cases hd
        exact kx0 _ _ _ rfl hW (lv_sub hl [0, 1] rfl)
      · replace hd := if_f c35 hd
        refine lv_iconst (v := 0) hx hb dX5_checksum_80 (by decide) ?_
        refine lv_istore (lv' := [(4, .int 0), (0, .ref (ad 0)), (1, .long x1), (3, .int x3)]) hx hb dX5_checksum_81 hl (by decide) rfl (fun ls hl => ?_)
        obtain ⟨z83_35, hz83_35, hd⟩ := bp_e hd
        refine K83 F x3 FU x1 0 z83_35 hz83_35 _ _ _ hW (lv_sub hl [1, 2, 3, 0] rfl) (fun H locs ls e83 hW hl => ?_)
        refine lv_iinc (v := x3 + 1) (lv' := [(3, .int (x3 + 1)), (0, .ref (ad 0)), (1, .long z83_35.2)]) hx hb dX5_checksum_115 hl (k := 2) rfl rfl (by decide) rfl (fun ls hl => ?_)
        refine lv_goto (tgt := 75) hx hb dX5_checksum_118 (by decide) ?_
        exact ih z83_35.2 (x3 + 1) z hd _ _ _ hW (lv_sub hl [1, 2, 0] rfl) kx0
  refine lv_aload_n hx hb dX5_checksum_0 rfl (lv_at hl 0 rfl) ?_
  refine lv_iconst (v := 0) hx hb dX5_checksum_1 (by decide) ?_
  obtain ⟨F37, eF37, hd⟩ := bw_e hd
  refine p_ (ty := .int) X hinX5 tyX5 tyX5_ok nmX5 hW 0 rfl rfl 0 (by decide) 1 rfl rfl rfl (by decide +kernel) rfl rfl (Nat.le_of_ble_eq_true rfl) dX5_checksum_2 (ws' := (WM Y ad F37)) (by rw [eF37]; rfl) (fun H locs hW => ?_)
  refine lv_lconst (v := 0) hx hb dX5_checksum_5 (by decide) ?_
  refine lv_lstore_n (lv' := [(1, .long 0), (0, .ref (ad 0))]) hx hb dX5_checksum_6 rfl hl (by decide) rfl (fun ls hl => ?_)
  refine lv_iconst (v := 0) hx hb dX5_checksum_7 (by decide) ?_
  refine lv_istore_n (lv' := [(3, .int 0), (1, .long 0), (0, .ref (ad 0))]) hx hb dX5_checksum_8 rfl hl (by decide) rfl (fun ls hl => ?_)
  obtain ⟨z9_37, hz9_37, hd⟩ := bp_e hd
  refine K9 F37 FU 0 0 z9_37 hz9_37 _ _ _ hW (lv_sub hl [2, 1, 0] rfl) (fun H locs ls e9 hW hl => ?_)
  refine lv_iconst (v := 0) hx hb dX5_checksum_32 (by decide) ?_
  refine lv_istore_n (lv' := [(3, .int 0), (0, .ref (ad 0)), (1, .long z9_37.2)]) hx hb dX5_checksum_33 rfl hl (by decide) rfl (fun ls hl => ?_)
  obtain ⟨z34_38, hz34_38, hd⟩ := bp_e hd
  refine K34 F37 FU z9_37.2 0 z34_38 hz34_38 _ _ _ hW (lv_sub hl [1, 2, 0] rfl) (fun H locs ls e34 hW hl => ?_)
  refine lv_iconst (v := 1) hx hb dX5_checksum_73 (by decide) ?_
  refine lv_istore_n (lv' := [(3, .int 1), (0, .ref (ad 0)), (1, .long z34_38.2)]) hx hb dX5_checksum_74 rfl hl (by decide) rfl (fun ls hl => ?_)
  obtain ⟨z75_39, hz75_39, hd⟩ := bp_e hd
  refine K75 F37 FU z34_38.2 1 z75_39 hz75_39 _ _ _ hW (lv_sub hl [1, 2, 0] rfl) (fun H locs ls e75 hW hl => ?_)
  refine lv_iconst (v := 0) hx hb dX5_checksum_121 (by decide) ?_
  refine lv_istore_n (lv' := [(3, .int 0), (0, .ref (ad 0)), (1, .long z75_39.2)]) hx hb dX5_checksum_122 rfl hl (by decide) rfl (fun ls hl => ?_)
  obtain ⟨z123_40, hz123_40, hd⟩ := bp_e hd
  refine K123 F37 FU z75_39.2 0 z123_40 hz123_40 _ _ _ hW (lv_sub hl [1, 2, 0] rfl) (fun H locs ls e123 hW hl => ?_)
  refine lv_lload_n hx hb dX5_checksum_159 rfl (lv_at hl 0 rfl) ?_
  obtain ⟨rfl, rfl⟩ := Prod.mk.inj (Option.some.inj hd)
  exact hQ _ _ _ _ hW dX5_checksum_160
