/-! two rows beside each other: what copyFrom is about -/
abbrev gE : Type := gR × gR
def WE (Y : yT) (ad bd : Nat → Nat) (E : gE) : va_W := WR Y ad E.1 ++ WR Y bd E.2
def cpB (G : gR) (b : Nat) (f : Nat → Int32) (n : Nat) : gR := (fun i => if i = b then va_cpy f (G.1 b) 0 0 n else G.1 i, G.2)
section FACE
variable {p : Program} {l : Launch} {e : Env} {R : Room} {s : State} {m : MethodId} {args : Array Value} {below : List Frame} {meth : Method} {c : Code} {H : Heap} {locs : List Loc} {cells slots : Nat} {Q : State → Prop}
variable {cc : ByteArray} {nL pc : Nat} {Ts : List Cond} {own : String} {Dd : va_G} {Y : yT} {A : Nat → Prop} {ls : Array Slot} {rest st : List Value} {ws : va_W} {a : Nat}
theorem cp_ (X : cx p s m args c cc nL Ts own Dd Y A) (hz : ls.size = nL) {index : Nat} (i1 i2 i3 i4 : Nat) (h1 : Ts[i1]? = some (Cond.methodLink own index arraycopyName)) (h2 : Ts[i2]? = some (Cond.native arraycopyName)) (h3 : Ts[i3]? = some (Cond.static arraycopyName)) (h4 : Ts[i4]? = some (Cond.initialized "java/lang/System"))
    (hR : 1 ≤ R.frames ∧ 26 ≤ R.locals) (hr : (rest.map fun v => v.category).sum ≤ 8) (hW : Wd Dd A s.heap ws H locs) (q0 q1 : Nat) {a0 n n0 n1 : Nat} {f g : Nat → Int32} (ha0 : ws[q0]? = some (a0, .inl (Y.1, n0, .inl f))) (ha1 : ws[q1]? = some (a, .inl (Y.1, n1, .inl g))) {v : Int32} (hv0 : ¬ v < 0) (hv : v.toNatClampNeg = n) (hn0 : n ≤ n0) (hn1 : n ≤ n1) (hdg : decode cc pc = .ok (.invokestatic index, 3))
    {ws' : va_W} (hset : ws.set q1 (a, .inl (Y.1, n1, .inl (va_cpy f g 0 0 n))) = ws') (kk : ∀ (H : Heap) (locs : List Loc), Wd Dd A s.heap ws' H locs → W p l e R s m args below meth c H locs cells slots Q (F0 m (pc + 3) ls rest)) : W p l e R s m args below meth c H locs cells slots Q (F0 m pc ls (.int v :: .int 0 :: .ref a :: .int 0 :: .ref a0 :: rest)) := by
  subst hset
  subst hv
  refine va_copyi X.x X.b (X.1.2.2.1.trans hz.symm) X.1.2.2.2.1 (X.w h1) (X.w h2) (X.w h3) (X.w h4) X.2.1 hW.1 hW.2.1 hW.2.2 q0 q1 0 0 ha0 ha1 rfl rfl rfl (by decide) (by decide) hv0 (by rw [show (0 : Int32).toNatClampNeg = 0 from rfl, Nat.zero_add]; exact hn0) (by rw [show (0 : Int32).toNatClampNeg = 0 from rfl, Nat.zero_add]; exact hn1) (fun i hi => rfl) hR.1 (Nat.le_trans (Nat.add_le_add_right hr _) hR.2) hdg (fun H1 locs1 h1 h2 h3 => kk H1 locs1 ⟨h1, h2, h3⟩)
end FACE
def dnX3_copyFrom (E : gE) : Option gE := bw (cpB E.1 4 (E.2.1 4) 8) (fun G1 => bw (cpB G1 5 (E.2.1 5) 8) (fun G2 => bw (wR G2 3 2 (E.2.1 3 2)) (fun G3 => some (G3, E.2))))
def dnX1_copyFrom (E : gE) : Option gE := bw (cpB E.1 1 (E.2.1 1) 40) (fun G1 => bw (cpB G1 2 (E.2.1 2) 240) (fun G2 => bp (dnX3_copyFrom (G2, E.2)) (fun E4 => bw (wR E4.1 0 3 (E4.2.1 0 3)) (fun G5 => bw (wR G5 0 4 (E4.2.1 0 4)) (fun G6 => bw (wR G6 0 5 (E4.2.1 0 5)) (fun G7 => bw (wL G7 E4.2.2) (fun G8 => bw (wR G8 0 7 (E4.2.1 0 7)) (fun G9 => bw (wR G9 0 8 (E4.2.1 0 8)) (fun G10 => bw (wR G10 0 9 (E4.2.1 0 9)) (fun G11 => bw (wR G11 0 10 (E4.2.1 0 10)) (fun G12 => some (G12, E4.2))))))))))))
abbrev rmX3_copyFrom : Room := { frames := 1, cells := 0, slots := 0, locals := 26 }
set_option maxRecDepth 100000 in
set_option maxHeartbeats 4000000 in
theorem kX3_copyFrom (l : Launch) (Dd : va_G) (Y : yT) (ad bd : Nat → Nat) (E : gE) (E' : gE) (hd : dnX3_copyFrom E = some E') : MG l yX3_copyFrom wsX3_copyFrom rmX3_copyFrom Dd Y [.ref (ad 3), .ref (bd 3)] (WE Y ad bd E) (WE Y ad bd E') none := by
  refine MGv (cc := cX3_copyFrom) (maxL := 2) (by decide) rfl (Nat.le_of_ble_eq_true rfl) (fun {p e s m args below meth c A} ls Q X hW hl hQ => ?_)
  have hx := X.x
  have hb := X.b
  have hl : lv_has ls 2 [(0, .ref (ad 3)), (1, .ref (bd 3))] := hl
  have hinX3 : ∀ w ∈ wsX30, w ∈ wsX3_copyFrom := fun w h => List.mem_cons_of_mem _ (List.mem_append_right _ h)
  unfold dnX3_copyFrom at hd
  refine lv_aload_n hx hb dX3_copyFrom_0 rfl (lv_at hl 1 rfl) ?_
  refine g_ X hinX3 hW 9 rfl rfl 0 (by decide) 1 rfl rfl rfl dX3_copyFrom_1 ?_
  refine lv_iconst (v := 0) hx hb dX3_copyFrom_4 (by decide) ?_
  refine lv_aload_n hx hb dX3_copyFrom_5 rfl (lv_at hl 0 rfl) ?_
  refine g_ X hinX3 hW 3 rfl rfl 0 (by decide) 1 rfl rfl rfl dX3_copyFrom_6 ?_
  refine lv_iconst (v := 0) hx hb dX3_copyFrom_9 (by decide) ?_
  refine lv_aload_n hx hb dX3_copyFrom_10 rfl (lv_at hl 1 rfl) ?_
  refine g_ X hinX3 hW 9 rfl rfl 0 (by decide) 1 rfl rfl rfl dX3_copyFrom_11 ?_
  refine len_ (v := 8) X hW 10 0 rfl rfl rfl dX3_copyFrom_14 ?_
  refine lv_aload_n hx hb dX3_copyFrom_15 rfl (lv_at hl 0 rfl) ?_
  refine g_ X hinX3 hW 3 rfl rfl 0 (by decide) 1 rfl rfl rfl dX3_copyFrom_16 ?_
  refine len_ (v := 8) X hW 4 0 rfl rfl rfl dX3_copyFrom_19 ?_
  refine min_ X hl.1 2 3 4 5 rfl rfl rfl rfl ⟨Nat.le_of_ble_eq_true rfl, Nat.le_of_ble_eq_true rfl⟩ (Nat.le_of_ble_eq_true rfl) ⟨Nat.zero_le _, Nat.zero_le _⟩ dX3_copyFrom_20 ?_
  rw [show (if (8 : Int32) < 8 then (8 : Int32) else 8) = 8 from by decide]
  obtain ⟨G1, eG1, hd⟩ := bw_e hd
  refine cp_ (n := 8) X hl.1 6 7 8 9 rfl rfl rfl rfl ⟨Nat.le_of_ble_eq_true rfl, Nat.le_of_ble_eq_true rfl⟩ (Nat.le_of_ble_eq_true rfl) hW 10 4 rfl rfl (by decide) rfl (by decide) (by decide) dX3_copyFrom_23 (ws' := (WE Y ad bd (G1, E.2))) (by rw [eG1]; rfl) (fun H locs hW => ?_)
  refine lv_aload_n hx hb dX3_copyFrom_26 rfl (lv_at hl 1 rfl) ?_
  refine g_ X hinX3 hW 9 rfl rfl 1 (by decide) 10 rfl rfl rfl dX3_copyFrom_27 ?_
  refine lv_iconst (v := 0) hx hb dX3_copyFrom_30 (by decide) ?_
  refine lv_aload_n hx hb dX3_copyFrom_31 rfl (lv_at hl 0 rfl) ?_
  refine g_ X hinX3 hW 3 rfl rfl 1 (by decide) 10 rfl rfl rfl dX3_copyFrom_32 ?_
  refine lv_iconst (v := 0) hx hb dX3_copyFrom_35 (by decide) ?_
  refine lv_aload_n hx hb dX3_copyFrom_36 rfl (lv_at hl 1 rfl) ?_
  refine g_ X hinX3 hW 9 rfl rfl 1 (by decide) 10 rfl rfl rfl dX3_copyFrom_37 ?_
  refine len_ (v := 8) X hW 11 0 rfl rfl rfl dX3_copyFrom_40 ?_
  refine lv_aload_n hx hb dX3_copyFrom_41 rfl (lv_at hl 0 rfl) ?_
  refine g_ X hinX3 hW 3 rfl rfl 1 (by decide) 10 rfl rfl rfl dX3_copyFrom_42 ?_
  refine len_ (v := 8) X hW 5 0 rfl rfl rfl dX3_copyFrom_45 ?_
  refine min_ X hl.1 2 3 4 5 rfl rfl rfl rfl ⟨Nat.le_of_ble_eq_true rfl, Nat.le_of_ble_eq_true rfl⟩ (Nat.le_of_ble_eq_true rfl) ⟨Nat.zero_le _, Nat.zero_le _⟩ dX3_copyFrom_46 ?_
  rw [show (if (8 : Int32) < 8 then (8 : Int32) else 8) = 8 from by decide]
  obtain ⟨G2, eG2, hd⟩ := bw_e hd
  refine cp_ (n := 8) X hl.1 6 7 8 9 rfl rfl rfl rfl ⟨Nat.le_of_ble_eq_true rfl, Nat.le_of_ble_eq_true rfl⟩ (Nat.le_of_ble_eq_true rfl) hW 11 5 rfl rfl (by decide) rfl (by decide) (by decide) dX3_copyFrom_49 (ws' := (WE Y ad bd (G2, E.2))) (by rw [eG2]; rfl) (fun H locs hW => ?_)
  refine lv_aload_n hx hb dX3_copyFrom_52 rfl (lv_at hl 0 rfl) ?_
  refine lv_aload_n hx hb dX3_copyFrom_53 rfl (lv_at hl 1 rfl) ?_
  refine g_ X hinX3 hW 9 rfl rfl 2 (by decide) 11 rfl rfl rfl dX3_copyFrom_54 ?_
  obtain ⟨G3, eG3, hd⟩ := bw_e hd
  refine p_ (ty := .int) X hinX3 tyX3 tyX3_ok nmX3 hW 3 rfl rfl 2 (by decide) 11 rfl rfl rfl (by decide +kernel) rfl rfl (Nat.le_of_ble_eq_true rfl) dX3_copyFrom_57 (ws' := (WE Y ad bd (G3, E.2))) (by rw [eG3]; rfl) (fun H locs hW => ?_)
  obtain rfl := Option.some.inj hd
  exact hQ _ _ _ _ hW dX3_copyFrom_60
abbrev rmX1_copyFrom : Room := { frames := 2, cells := 0, slots := 0, locals := 47 }
set_option maxRecDepth 100000 in
set_option maxHeartbeats 4000000 in
theorem kX1_copyFrom (l : Launch) (Dd : va_G) (Y : yT) (ad bd : Nat → Nat) (E : gE) (E' : gE) (hd : dnX1_copyFrom E = some E') : MG l yX1_copyFrom wsX1_copyFrom rmX1_copyFrom Dd Y [.ref (ad 0), .ref (bd 0)] (WE Y ad bd E) (WE Y ad bd E') none := by
  refine MGv (cc := cX1_copyFrom) (maxL := 2) (by decide) rfl (Nat.le_of_ble_eq_true rfl) (fun {p e s m args below meth c A} ls Q X hW hl hQ => ?_)
  have hx := X.x
  have hb := X.b
  have hl : lv_has ls 2 [(0, .ref (ad 0)), (1, .ref (bd 0))] := hl
  have hinX1 : ∀ w ∈ wsX10, w ∈ wsX1_copyFrom := fun w h => List.mem_cons_of_mem _ (List.mem_append_left _ (List.mem_append_right _ h))
  unfold dnX1_copyFrom at hd
  refine lv_aload_n hx hb dX1_copyFrom_0 rfl (lv_at hl 1 rfl) ?_
  refine g_ X hinX1 hW 6 rfl rfl 0 (by decide) 1 rfl rfl rfl dX1_copyFrom_1 ?_
  refine lv_iconst (v := 0) hx hb dX1_copyFrom_4 (by decide) ?_
  refine lv_aload_n hx hb dX1_copyFrom_5 rfl (lv_at hl 0 rfl) ?_
  refine g_ X hinX1 hW 0 rfl rfl 0 (by decide) 1 rfl rfl rfl dX1_copyFrom_6 ?_
  refine lv_iconst (v := 0) hx hb dX1_copyFrom_9 (by decide) ?_
  refine lv_aload_n hx hb dX1_copyFrom_10 rfl (lv_at hl 1 rfl) ?_
  refine g_ X hinX1 hW 6 rfl rfl 0 (by decide) 1 rfl rfl rfl dX1_copyFrom_11 ?_
  refine len_ (v := 40) X hW 7 0 rfl rfl rfl dX1_copyFrom_14 ?_
  refine lv_aload_n hx hb dX1_copyFrom_15 rfl (lv_at hl 0 rfl) ?_
  refine g_ X hinX1 hW 0 rfl rfl 0 (by decide) 1 rfl rfl rfl dX1_copyFrom_16 ?_
  refine len_ (v := 40) X hW 1 0 rfl rfl rfl dX1_copyFrom_19 ?_
  refine min_ X hl.1 2 3 4 5 rfl rfl rfl rfl ⟨Nat.le_of_ble_eq_true rfl, Nat.le_of_ble_eq_true rfl⟩ (Nat.le_of_ble_eq_true rfl) ⟨Nat.zero_le _, Nat.zero_le _⟩ dX1_copyFrom_20 ?_
  rw [show (if (40 : Int32) < 40 then (40 : Int32) else 40) = 40 from by decide]
  obtain ⟨G1, eG1, hd⟩ := bw_e hd
  refine cp_ (n := 40) X hl.1 6 7 8 9 rfl rfl rfl rfl ⟨Nat.le_of_ble_eq_true rfl, Nat.le_of_ble_eq_true rfl⟩ (Nat.le_of_ble_eq_true rfl) hW 7 1 rfl rfl (by decide) rfl (by decide) (by decide) dX1_copyFrom_23 (ws' := (WE Y ad bd (G1, E.2))) (by rw [eG1]; rfl) (fun H locs hW => ?_)
  refine lv_aload_n hx hb dX1_copyFrom_26 rfl (lv_at hl 1 rfl) ?_
  refine g_ X hinX1 hW 6 rfl rfl 1 (by decide) 10 rfl rfl rfl dX1_copyFrom_27 ?_
  refine lv_iconst (v := 0) hx hb dX1_copyFrom_30 (by decide) ?_
  refine lv_aload_n hx hb dX1_copyFrom_31 rfl (lv_at hl 0 rfl) ?_
  refine g_ X hinX1 hW 0 rfl rfl 1 (by decide) 10 rfl rfl rfl dX1_copyFrom_32 ?_
  refine lv_iconst (v := 0) hx hb dX1_copyFrom_35 (by decide) ?_
  refine lv_aload_n hx hb dX1_copyFrom_36 rfl (lv_at hl 1 rfl) ?_
  refine g_ X hinX1 hW 6 rfl rfl 1 (by decide) 10 rfl rfl rfl dX1_copyFrom_37 ?_
  refine len_ (v := 240) X hW 8 0 rfl rfl rfl dX1_copyFrom_40 ?_
  refine lv_aload_n hx hb dX1_copyFrom_41 rfl (lv_at hl 0 rfl) ?_
  refine g_ X hinX1 hW 0 rfl rfl 1 (by decide) 10 rfl rfl rfl dX1_copyFrom_42 ?_
  refine len_ (v := 240) X hW 2 0 rfl rfl rfl dX1_copyFrom_45 ?_
  refine min_ X hl.1 2 3 4 5 rfl rfl rfl rfl ⟨Nat.le_of_ble_eq_true rfl, Nat.le_of_ble_eq_true rfl⟩ (Nat.le_of_ble_eq_true rfl) ⟨Nat.zero_le _, Nat.zero_le _⟩ dX1_copyFrom_46 ?_
  rw [show (if (240 : Int32) < 240 then (240 : Int32) else 240) = 240 from by decide]
  obtain ⟨G2, eG2, hd⟩ := bw_e hd
  refine cp_ (n := 240) X hl.1 6 7 8 9 rfl rfl rfl rfl ⟨Nat.le_of_ble_eq_true rfl, Nat.le_of_ble_eq_true rfl⟩ (Nat.le_of_ble_eq_true rfl) hW 8 2 rfl rfl (by decide) rfl (by decide) (by decide) dX1_copyFrom_49 (ws' := (WE Y ad bd (G2, E.2))) (by rw [eG2]; rfl) (fun H locs hW => ?_)
  refine lv_aload_n hx hb dX1_copyFrom_52 rfl (lv_at hl 0 rfl) ?_
  refine g_ X hinX1 hW 0 rfl rfl 2 (by decide) 11 rfl rfl rfl dX1_copyFrom_53 ?_
  refine lv_aload_n hx hb dX1_copyFrom_56 rfl (lv_at hl 1 rfl) ?_
  refine g_ X hinX1 hW 6 rfl rfl 2 (by decide) 11 rfl rfl rfl dX1_copyFrom_57 ?_
  obtain ⟨E4, h3, hd⟩ := bp_e hd
  refine cVv_ (rest := []) X (kX3_copyFrom l Dd Y ad bd (G2, E.2) E4 h3) (cwV 1 X.1.2.2.2.2 gX1_copyFrom_X3_copyFrom rfl rfl rfl (by decide +kernel) ⟨Nat.le_of_ble_eq_true rfl, Nat.le_of_ble_eq_true rfl⟩) hW 3 3 rfl rfl rfl rfl hl.1 rfl (Nat.le_of_ble_eq_true rfl) dX1_copyFrom_60 ⟨Nat.zero_le _, Nat.zero_le _⟩ (fun H locs hW => ?_)
  refine lv_aload_n hx hb dX1_copyFrom_63 rfl (lv_at hl 0 rfl) ?_
  refine lv_aload_n hx hb dX1_copyFrom_64 rfl (lv_at hl 1 rfl) ?_
  refine g_ X hinX1 hW 6 rfl rfl 3 (by decide) 12 rfl rfl rfl dX1_copyFrom_65 ?_
  obtain ⟨G5, eG5, hd⟩ := bw_e hd
  refine p_ (ty := .int) X hinX1 tyX1 tyX1_ok nmX1 hW 0 rfl rfl 3 (by decide) 12 rfl rfl rfl (by decide +kernel) rfl rfl (Nat.le_of_ble_eq_true rfl) dX1_copyFrom_68 (ws' := (WE Y ad bd (G5, E4.2))) (by rw [eG5]; rfl) (fun H locs hW => ?_)
  refine lv_aload_n hx hb dX1_copyFrom_71 rfl (lv_at hl 0 rfl) ?_
  refine lv_aload_n hx hb dX1_copyFrom_72 rfl (lv_at hl 1 rfl) ?_
  refine g_ X hinX1 hW 6 rfl rfl 4 (by decide) 13 rfl rfl rfl dX1_copyFrom_73 ?_
  obtain ⟨G6, eG6, hd⟩ := bw_e hd
  refine p_ (ty := .int) X hinX1 tyX1 tyX1_ok nmX1 hW 0 rfl rfl 4 (by decide) 13 rfl rfl rfl (by decide +kernel) rfl rfl (Nat.le_of_ble_eq_true rfl) dX1_copyFrom_76 (ws' := (WE Y ad bd (G6, E4.2))) (by rw [eG6]; rfl) (fun H locs hW => ?_)
  refine lv_aload_n hx hb dX1_copyFrom_79 rfl (lv_at hl 0 rfl) ?_
  refine lv_aload_n hx hb dX1_copyFrom_80 rfl (lv_at hl 1 rfl) ?_
  refine g_ X hinX1 hW 6 rfl rfl 5 (by decide) 14 rfl rfl rfl dX1_copyFrom_81 ?_
  obtain ⟨G7, eG7, hd⟩ := bw_e hd
  refine p_ (ty := .int) X hinX1 tyX1 tyX1_ok nmX1 hW 0 rfl rfl 5 (by decide) 14 rfl rfl rfl (by decide +kernel) rfl rfl (Nat.le_of_ble_eq_true rfl) dX1_copyFrom_84 (ws' := (WE Y ad bd (G7, E4.2))) (by rw [eG7]; rfl) (fun H locs hW => ?_)
  refine lv_aload_n hx hb dX1_copyFrom_87 rfl (lv_at hl 0 rfl) ?_
  refine lv_aload_n hx hb dX1_copyFrom_88 rfl (lv_at hl 1 rfl) ?_
  refine g_ X hinX1 hW 6 rfl rfl 6 (by decide) 15 rfl rfl rfl dX1_copyFrom_89 ?_
  obtain ⟨G8, eG8, hd⟩ := bw_e hd
  refine p_ (ty := .long) X hinX1 tyX1 tyX1_ok nmX1 hW 0 rfl rfl 6 (by decide) 15 rfl rfl rfl (by decide +kernel) rfl rfl (Nat.le_of_ble_eq_true rfl) dX1_copyFrom_92 (ws' := (WE Y ad bd (G8, E4.2))) (by rw [eG8]; rfl) (fun H locs hW => ?_)
  refine lv_aload_n hx hb dX1_copyFrom_95 rfl (lv_at hl 0 rfl) ?_
  refine lv_aload_n hx hb dX1_copyFrom_96 rfl (lv_at hl 1 rfl) ?_
  refine g_ X hinX1 hW 6 rfl rfl 7 (by decide) 16 rfl rfl rfl dX1_copyFrom_97 ?_
  obtain ⟨G9, eG9, hd⟩ := bw_e hd
  refine p_ (ty := .int) X hinX1 tyX1 tyX1_ok nmX1 hW 0 rfl rfl 7 (by decide) 16 rfl rfl rfl (by decide +kernel) rfl rfl (Nat.le_of_ble_eq_true rfl) dX1_copyFrom_100 (ws' := (WE Y ad bd (G9, E4.2))) (by rw [eG9]; rfl) (fun H locs hW => ?_)
  refine lv_aload_n hx hb dX1_copyFrom_103 rfl (lv_at hl 0 rfl) ?_
  refine lv_aload_n hx hb dX1_copyFrom_104 rfl (lv_at hl 1 rfl) ?_
  refine g_ X hinX1 hW 6 rfl rfl 8 (by decide) 17 rfl rfl rfl dX1_copyFrom_105 ?_
  obtain ⟨G10, eG10, hd⟩ := bw_e hd
  refine p_ (ty := .int) X hinX1 tyX1 tyX1_ok nmX1 hW 0 rfl rfl 8 (by decide) 17 rfl rfl rfl (by decide +kernel) rfl rfl (Nat.le_of_ble_eq_true rfl) dX1_copyFrom_108 (ws' := (WE Y ad bd (G10, E4.2))) (by rw [eG10]; rfl) (fun H locs hW => ?_)
  refine lv_aload_n hx hb dX1_copyFrom_111 rfl (lv_at hl 0 rfl) ?_
  refine lv_aload_n hx hb dX1_copyFrom_112 rfl (lv_at hl 1 rfl) ?_
  refine g_ X hinX1 hW 6 rfl rfl 9 (by decide) 18 rfl rfl rfl dX1_copyFrom_113 ?_
  obtain ⟨G11, eG11, hd⟩ := bw_e hd
  refine p_ (ty := .int) X hinX1 tyX1 tyX1_ok nmX1 hW 0 rfl rfl 9 (by decide) 18 rfl rfl rfl (by decide +kernel) rfl rfl (Nat.le_of_ble_eq_true rfl) dX1_copyFrom_116 (ws' := (WE Y ad bd (G11, E4.2))) (by rw [eG11]; rfl) (fun H locs hW => ?_)
  refine lv_aload_n hx hb dX1_copyFrom_119 rfl (lv_at hl 0 rfl) ?_
  refine lv_aload_n hx hb dX1_copyFrom_120 rfl (lv_at hl 1 rfl) ?_
  refine g_ X hinX1 hW 6 rfl rfl 10 (by decide) 19 rfl rfl rfl dX1_copyFrom_121 ?_
  obtain ⟨G12, eG12, hd⟩ := bw_e hd
  refine p_ (ty := .int) X hinX1 tyX1 tyX1_ok nmX1 hW 0 rfl rfl 10 (by decide) 19 rfl rfl rfl (by decide +kernel) rfl rfl (Nat.le_of_ble_eq_true rfl) dX1_copyFrom_124 (ws' := (WE Y ad bd (G12, E4.2))) (by rw [eG12]; rfl) (fun H locs hW => ?_)
  obtain rfl := Option.some.inj hd
  exact hQ _ _ _ _ hW dX1_copyFrom_127

