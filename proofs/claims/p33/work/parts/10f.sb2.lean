theorem pmq19 {α : Type} (c0 c1 c2 : α) : ([c0, c1, c2] : List α).Perm (([c1, c2]) ++ ([c0])) := pmA _ _ (fun x => by simp only [List.count_append, List.count_cons, List.count_nil]; omega)
theorem pmq20 {α : Type} (c0 c1 c2 : α) : ([c0, c1, c2] : List α).Perm ([c2, c0, c1]) := pmA _ _ (fun x => by simp only [List.count_append, List.count_cons, List.count_nil]; omega)
theorem pmq21 {α : Type} (c0 c1 c2 c3 : α) : ([c0, c1, c2, c3] : List α).Perm ([c0, c3, c1, c2]) := pmA _ _ (fun x => by simp only [List.count_append, List.count_cons, List.count_nil]; omega)
theorem pmq22 {α : Type} (c0 c1 c2 : α) : ([c0, c1, c2] : List α).Perm (([c2]) ++ ([c0, c1])) := pmA _ _ (fun x => by simp only [List.count_append, List.count_cons, List.count_nil]; omega)
theorem pmq23 {α : Type} (c0 c1 c2 : α) : ([c0, c1, c2] : List α).Perm (([c2, c0, c1]) ++ ([])) := pmA _ _ (fun x => by simp only [List.count_append, List.count_cons, List.count_nil]; omega)
theorem pmq24 {α : Type} (c0 c1 c2 c3 : α) : ([c0, c1, c2, c3] : List α).Perm ([c1, c2, c0, c3]) := pmA _ _ (fun x => by simp only [List.count_append, List.count_cons, List.count_nil]; omega)
abbrev rmJ5_init_d00df : Room := { frames := 1, cells := 1, slots := 16, locals := 12 }
set_option maxRecDepth 100000 in
set_option maxHeartbeats 4000000 in
theorem kJ5_init_d00df (l : Launch) (Dd : va_G) (Y : yT) (b : Nat) : MR l yJ5_init_d00df wsJ5_init_d00df rmJ5_init_d00df Dd Y [.ref b, .int 16] ([(b, .inr (9, [.null, .int 0, .int 0, .int 0]))]) (fun rv w => rv = none ∧ ∃ q : Nat, w = [(b, .inr (9, [.ref q, .int 0, .int 0, .int 0])), (q, .inl (Y.2.1 0, 16, .inl (fun _ => 0)))]) 1 16 := by
  refine MRk (cc := cJ5_init_d00df) (maxL := 2) (ret := none) (by decide) rfl (Nat.le_of_ble_eq_true rfl) (fun {p₀ e₀ s m args below meth c₀ A} ls Q X hin hW hl hI hV hA => ?_)
  have hx := X.x
  have hb := X.b
  have hl : lv_has ls 2 [(0, .ref b), (1, .int 16)] := hl
  have hinJ4 : ∀ w ∈ wsJ40, w ∈ wsJ5_init_d00df := fun w h => List.mem_cons_of_mem _ (List.mem_append_right _ h)
  refine lv_aload_n hx hb dJ5_init_d00df_0 rfl (lv_at hl 0 rfl) ?_
  refine W.objInit hx hb X.1.2.2.2.1 (X.w (i := 1) rfl) (X.w (i := 2) rfl) (X.w (i := 3) rfl) rfl (by rw [X.1.2.2.1]; exact hl.1) rfl dJ5_init_d00df_1 (Nat.le_of_ble_eq_true rfl) (Nat.le_of_ble_eq_true rfl) ?_
  refine W.eq (g2 := F0 m 4 ls []) rfl ?_
  refine gz_ X hW X.2.2.2.2.2.1 4 rfl dJ5_init_d00df_4 ?_
  refine lv_if_eq (tgt := 25) hx hb dJ5_init_d00df_7 (by decide) (fun h => absurd h (by decide)) (fun _ => ?_)
  refine lv_aload_n hx hb dJ5_init_d00df_10 rfl (lv_at hl 0 rfl) ?_
  refine lv_iload_n hx hb dJ5_init_d00df_11 rfl (lv_at hl 1 rfl) ?_
  refine nb_ (N' := 16) X 5 rfl hW (by decide) (by decide) (by decide) (Nat.le_of_ble_eq_true rfl) (Nat.le_of_ble_eq_true rfl) dJ5_init_d00df_12 (fun q H hW => ?_)
  have hW : Wd Dd A s.heap ([(b, .inr (9, [.null, .int 0, .int 0, .int 0])), (q, .inl (Y.2.1 0, 16, .inl (fun _ => 0)))]) _ _ := hW
  refine p_ (ty := (.array .byte)) X hinJ4 tyJ4 tyJ4_ok nmJ4 hW 0 rfl rfl 0 (by decide) 6 rfl rfl rfl (by decide +kernel) rfl rfl (Nat.le_of_ble_eq_true rfl) dJ5_init_d00df_14 (ws' := [(b, .inr (9, [.ref q, .int 0, .int 0, .int 0])), (q, .inl (Y.2.1 0, 16, .inl (fun _ => 0)))]) rfl (fun H locs hW => ?_)
  refine lv_aload_n hx hb dJ5_init_d00df_17 rfl (lv_at hl 0 rfl) ?_
  refine lv_iconst (v := 0) hx hb dJ5_init_d00df_18 (by decide) ?_
  refine p_ (ty := .byte) X hinJ4 tyJ4 tyJ4_ok nmJ4 hW 0 rfl rfl 1 (by decide) 7 rfl rfl rfl (by decide +kernel) rfl rfl (Nat.le_of_ble_eq_true rfl) dJ5_init_d00df_19 (ws' := [(b, .inr (9, [.ref q, .int 0, .int 0, .int 0])), (q, .inl (Y.2.1 0, 16, .inl (fun _ => 0)))]) rfl (fun H locs hW => ?_)
  refine lv_goto (tgt := 38) hx hb dJ5_init_d00df_22 (by decide) ?_
  exact hV _ _ _ _ _ _ _ ⟨rfl, q, rfl⟩ rfl (Nat.le_of_ble_eq_true rfl) (Nat.le_of_ble_eq_true rfl) hW dJ5_init_d00df_38
theorem BT_nil : BT [] (fun _ => 0) := ⟨sb_fit0, fun j hj => by simp at hj, fun c hc => by simp at hc⟩
abbrev rmJ4_init_da8c8 : Room := { frames := 2, cells := 1, slots := 16, locals := 33 }
set_option maxRecDepth 100000 in
set_option maxHeartbeats 4000000 in
theorem kJ4_init_da8c8 (l : Launch) (Dd : va_G) (Y : yT) (b : Nat) : MR l yJ4_init_da8c8 wsJ4_init_da8c8 rmJ4_init_da8c8 Dd Y [.ref b] ([(b, .inr (9, [.null, .int 0, .int 0, .int 0]))]) (fun rv w => rv = none ∧ WSB Y b [] w) 1 16 := by
  refine MRk (cc := cJ4_init_da8c8) (maxL := 1) (ret := none) (by decide) rfl (Nat.le_of_ble_eq_true rfl) (fun {p₀ e₀ s m args below meth c₀ A} ls Q X hin hW hl hI hV hA => ?_)
  have hx := X.x
  have hb := X.b
  have hl : lv_has ls 1 [(0, .ref b)] := hl
  refine lv_aload_n hx hb dJ4_init_da8c8_0 rfl (lv_at hl 0 rfl) ?_
  refine lv_bipush (v := 16) hx hb dJ4_init_da8c8_1 (by decide) ?_
  refine rI_ (As := [.int 16]) (rest := []) (wc := [(b, .inr (9, [.null, .int 0, .int 0, .int 0]))]) (w9 := []) X (kJ5_init_d00df l Dd Y b) (cwI 1 X.1.2.2.2.2 gJ4_init_da8c8_J5_init_d00df rfl rfl rfl (X.w (i := 3) rfl) (X.w (i := 1) rfl) (X.w (i := 2) rfl) rfl (by decide +kernel) ⟨(Nat.le_of_ble_eq_true rfl), (Nat.le_of_ble_eq_true rfl)⟩) hW (List.Perm.refl _) rfl hl.1 rfl (Nat.le_of_ble_eq_true rfl) dJ4_init_da8c8_3 ⟨(Nat.le_of_ble_eq_true rfl), (Nat.le_of_ble_eq_true rfl)⟩ (fun rv wq H locs hp hW => ?_)
  obtain ⟨rfl, q, rfl⟩ := hp
  have hW : Wd Dd A s.heap ([(b, .inr (9, [.ref q, .int 0, .int 0, .int 0])), (q, .inl (Y.2.1 0, 16, .inl (fun _ => 0)))]) H locs := hW
  refine W.eq (g2 := F0 m 6 ls []) rfl ?_
  exact hV _ _ _ _ _ _ _ ⟨rfl, q, 16, _, by decide, by decide, by decide, BT_nil, rfl⟩ rfl (Nat.le_of_ble_eq_true rfl) (Nat.le_of_ble_eq_true rfl) hW dJ4_init_da8c8_6
abbrev rmJ4_append_cf1ce : Room := { frames := 7, cells := 1, slots := 5000, locals := 163 }
set_option maxRecDepth 100000 in
set_option maxHeartbeats 4000000 in
theorem kJ4_append_cf1ce (l : Launch) (Dd : va_G) (Y : yT) (b s0 av : Nat) (S T : List Nat) (g : Nat → Int32) (hG : BT S g) (w0 : va_W) (hS : WSB Y b T w0) (hq : T.length + S.length ≤ 300) : MR l yJ4_append_cf1ce wsJ4_append_cf1ce rmJ4_append_cf1ce Dd Y [.ref b, .ref s0] (w0 ++ [(s0, .inr (8, [.ref av, .int 0, .int 0, .int 0])), (av, .inl (Y.2.1 0, S.length, .inl g))]) (fun rv w => rv = some (.ref b) ∧ ∃ w1, WSB Y b (T ++ S) w1 ∧ w = w1 ++ [(s0, .inr (8, [.ref av, .int 0, .int 0, .int 0])), (av, .inl (Y.2.1 0, S.length, .inl g))]) 1 5000 := by
  obtain ⟨ae, cap, f, h0, h1, h2, hB, rfl⟩ := hS
  refine MRk (cc := cJ4_append_cf1ce) (maxL := 2) (ret := (some (.object "java/lang/AbstractStringBuilder"))) (by decide) rfl (Nat.le_of_ble_eq_true rfl) (fun {p₀ e₀ s m args below meth c₀ A} ls Q X hin hW hl hI hV hA => ?_)
  have hx := X.x
  have hb := X.b
  have hl : lv_has ls 2 [(0, .ref b), (1, .ref s0)] := hl
  refine lv_aload_n hx hb dJ4_append_cf1ce_0 rfl (lv_at hl 0 rfl) ?_
  refine lv_aload_n hx hb dJ4_append_cf1ce_1 rfl (lv_at hl 1 rfl) ?_
  refine rV_ (As := [.ref s0]) (rest := []) (wc := [(b, .inr (9, [.ref ae, .int 0, .int 0, .int (nI T.length)])), (ae, .inl (Y.2.1 0, cap, .inl f)), (s0, .inr (8, [.ref av, .int 0, .int 0, .int 0])), (av, .inl (Y.2.1 0, S.length, .inl g))]) (w9 := []) X (hJ4_append_15ec4 l Dd Y b s0 av S T g hG _ ⟨ae, cap, f, h0, h1, h2, hB, rfl⟩ hq) (cwV 1 X.1.2.2.2.2 gJ4_append_cf1ce_J4_append_15ec4 rfl rfl rfl (by decide +kernel) ⟨(Nat.le_of_ble_eq_true rfl), (Nat.le_of_ble_eq_true rfl)⟩) hW (List.Perm.refl _) 0 9 rfl rfl rfl rfl hl.1 rfl (Nat.le_of_ble_eq_true rfl) dJ4_append_cf1ce_2 ⟨(Nat.le_of_ble_eq_true rfl), (Nat.le_of_ble_eq_true rfl)⟩ (fun rv wq H locs hp hW => ?_)
  obtain ⟨rfl, w1, hw1, rfl⟩ := hp
  rw [List.append_nil] at hW
  refine W.eq (g2 := F0 m 5 ls [.ref b]) rfl ?_
  exact hA _ _ _ _ _ _ (some b) _ _ ⟨rfl, w1, hw1, rfl⟩ rfl (Or.inl ⟨_, rfl⟩) (Nat.le_of_ble_eq_true rfl) (Nat.le_of_ble_eq_true rfl) hW dJ4_append_cf1ce_5
abbrev rmJ5_init_a7421 : Room := { frames := 8, cells := 2, slots := 6000, locals := 184 }
set_option maxRecDepth 100000 in
set_option maxHeartbeats 4000000 in
theorem kJ5_init_a7421 (l : Launch) (Dd : va_G) (Y : yT) (b s0 av : Nat) (S : List Nat) (g : Nat → Int32) (hG : BT S g) (hq : S.length ≤ 300) : MR l yJ5_init_a7421 wsJ5_init_a7421 rmJ5_init_a7421 Dd Y [.ref b, .ref s0] ([(b, .inr (9, [.null, .int 0, .int 0, .int 0])), (s0, .inr (8, [.ref av, .int 0, .int 0, .int 0])), (av, .inl (Y.2.1 0, S.length, .inl g))]) (fun rv w => rv = none ∧ ∃ w1, WSB Y b S w1 ∧ w = w1 ++ [(s0, .inr (8, [.ref av, .int 0, .int 0, .int 0])), (av, .inl (Y.2.1 0, S.length, .inl g))]) 2 6000 := by
  refine MRk (cc := cJ5_init_a7421) (maxL := 5) (ret := none) (by decide) rfl (Nat.le_of_ble_eq_true rfl) (fun {p₀ e₀ s m args below meth c₀ A} ls Q X hin hW hl hI hV hA => ?_)
  have hx := X.x
  have hb := X.b
  have hl : lv_has ls 5 [(0, .ref b), (1, .ref s0)] := hl
  have hinJ4 : ∀ w ∈ wsJ40, w ∈ wsJ5_init_a7421 := fun w h => List.mem_cons_of_mem _ (List.mem_append_left _ (List.mem_append_right _ h))
  have hms : 0 + (S.length + 16) ≤ 6000 := by omega
  have hms2 : 0 + (S.length + 16) + 5000 ≤ 6000 := by omega
  refine lv_aload_n hx hb dJ5_init_a7421_0 rfl (lv_at hl 0 rfl) ?_
  refine W.objInit hx hb X.1.2.2.2.1 (X.w (i := 1) rfl) (X.w (i := 2) rfl) (X.w (i := 3) rfl) rfl (by rw [X.1.2.2.1]; exact hl.1) rfl dJ5_init_a7421_1 (Nat.le_of_ble_eq_true rfl) (Nat.le_of_ble_eq_true rfl) ?_
  refine W.eq (g2 := F0 m 4 ls []) rfl ?_
  refine lv_aload_n hx hb dJ5_init_a7421_4 rfl (lv_at hl 1 rfl) ?_
  refine rV_ (As := []) (rest := []) (wc := [(s0, .inr (8, [.ref av, .int 0, .int 0, .int 0])), (av, .inl (Y.2.1 0, S.length, .inl g))]) (w9 := [(b, .inr (9, [.null, .int 0, .int 0, .int 0]))]) X (hJ0_length_8abf5 l Dd Y s0 av S.length g) (cwV 0 X.1.2.2.2.2 gJ5_init_a7421_J0_length_8abf5 rfl rfl rfl (by decide +kernel) ⟨(Nat.le_of_ble_eq_true rfl), (Nat.le_of_ble_eq_true rfl)⟩) hW (pmq19 _ _ _) 0 8 rfl rfl rfl rfl hl.1 rfl (Nat.le_of_ble_eq_true rfl) dJ5_init_a7421_5 ⟨(Nat.le_of_ble_eq_true rfl), (Nat.le_of_ble_eq_true rfl)⟩ (fun rv wq H locs hp hW => ?_)
  obtain ⟨rfl, rfl⟩ := hp
  have hW : Wd Dd A s.heap ([(s0, .inr (8, [.ref av, .int 0, .int 0, .int 0])), (av, .inl (Y.2.1 0, S.length, .inl g)), (b, .inr (9, [.null, .int 0, .int 0, .int 0]))]) H locs := hW
  refine W.eq (g2 := F0 m 8 ls [.int (nI S.length)]) rfl ?_
  have hW : Wd Dd A s.heap ([(b, .inr (9, [.null, .int 0, .int 0, .int 0])), (s0, .inr (8, [.ref av, .int 0, .int 0, .int 0])), (av, .inl (Y.2.1 0, S.length, .inl g))]) H locs := hW.permA (pmq20 _ _ _)
  refine lv_istore_n (lv' := [(2, .int (nI S.length)), (0, .ref b), (1, .ref s0)]) hx hb dJ5_init_a7421_8 rfl hl (by decide) rfl (fun ls hl => ?_)
  refine lv_iload_n hx hb dJ5_init_a7421_9 rfl (lv_at hl 0 rfl) ?_
  refine lv_ldc hx hb X.1.2.2.2.1 (X.w (i := 4) rfl) dJ5_init_a7421_10 ?_
  refine lv_icmp_ge (tgt := 22) hx hb dJ5_init_a7421_12 (by decide) (fun h => absurd h (show ¬ (2147483631 : Int32) ≤ nI S.length from by rw [show (2147483631 : Int32) = nI 2147483631 from rfl, nI_leI (by decide) (by omega)]; omega)) (fun _ => ?_)
  refine lv_iload_n hx hb dJ5_init_a7421_15 rfl (lv_at hl 0 rfl) ?_
  refine lv_bipush (v := 16) hx hb dJ5_init_a7421_16 (by decide) ?_
  refine lv_iadd hx hb dJ5_init_a7421_18 ?_
  rw [show nI S.length + 16 = nI (S.length + 16) from nI_add _ 16]
  refine lv_goto (tgt := 24) hx hb dJ5_init_a7421_19 (by decide) ?_
  refine lv_istore_n (lv' := [(3, .int (nI (S.length + 16))), (2, .int (nI S.length)), (0, .ref b), (1, .ref s0)]) hx hb dJ5_init_a7421_24 rfl hl (by decide) rfl (fun ls hl => ?_)
  refine lv_aload_n hx hb dJ5_init_a7421_25 rfl (lv_at hl 3 rfl) ?_
  refine rV_ (As := []) (rest := []) (wc := [(s0, .inr (8, [.ref av, .int 0, .int 0, .int 0]))]) (w9 := [(b, .inr (9, [.null, .int 0, .int 0, .int 0])), (av, .inl (Y.2.1 0, S.length, .inl g))]) X (hJ0_coder_7d493 l Dd Y s0 (.ref av)) (cwV 0 X.1.2.2.2.2 gJ5_init_a7421_J0_coder_7d493 rfl rfl rfl (by decide +kernel) ⟨(Nat.le_of_ble_eq_true rfl), (Nat.le_of_ble_eq_true rfl)⟩) hW (pmq8 _ _ _) 0 8 rfl rfl rfl rfl hl.1 rfl (Nat.le_of_ble_eq_true rfl) dJ5_init_a7421_26 ⟨(Nat.le_of_ble_eq_true rfl), (Nat.le_of_ble_eq_true rfl)⟩ (fun rv wq H locs hp hW => ?_)
  obtain ⟨rfl, rfl⟩ := hp
  have hW : Wd Dd A s.heap ([(s0, .inr (8, [.ref av, .int 0, .int 0, .int 0])), (b, .inr (9, [.null, .int 0, .int 0, .int 0])), (av, .inl (Y.2.1 0, S.length, .inl g))]) H locs := hW
  refine W.eq (g2 := F0 m 29 ls [.int 0]) rfl ?_
  have hW : Wd Dd A s.heap ([(b, .inr (9, [.null, .int 0, .int 0, .int 0])), (s0, .inr (8, [.ref av, .int 0, .int 0, .int 0])), (av, .inl (Y.2.1 0, S.length, .inl g))]) H locs := hW.permA (pmq9 _ _ _)
  refine lv_istore (lv' := [(4, .int 0), (3, .int (nI (S.length + 16))), (2, .int (nI S.length)), (0, .ref b), (1, .ref s0)]) hx hb dJ5_init_a7421_29 hl (by decide) rfl (fun ls hl => ?_)
  refine lv_aload_n hx hb dJ5_init_a7421_31 rfl (lv_at hl 3 rfl) ?_
  refine lv_iload hx hb dJ5_init_a7421_32 (lv_at hl 0 rfl) ?_
  refine p_ (ty := .byte) X hinJ4 tyJ4 tyJ4_ok nmJ4 hW 0 rfl rfl 1 (by decide) 6 rfl rfl rfl (by decide +kernel) rfl rfl (Nat.le_of_ble_eq_true rfl) dJ5_init_a7421_34 (ws' := [(b, .inr (9, [.null, .int 0, .int 0, .int 0])), (s0, .inr (8, [.ref av, .int 0, .int 0, .int 0])), (av, .inl (Y.2.1 0, S.length, .inl g))]) rfl (fun H locs hW => ?_)
  refine lv_aload_n hx hb dJ5_init_a7421_37 rfl (lv_at hl 3 rfl) ?_
  refine lv_iload hx hb dJ5_init_a7421_38 (lv_at hl 0 rfl) ?_
  refine lv_if_ne (tgt := 49) hx hb dJ5_init_a7421_40 (by decide) (fun h => absurd h (fun g => g rfl)) (fun _ => ?_)
  refine lv_iload_n hx hb dJ5_init_a7421_43 rfl (lv_at hl 1 rfl) ?_
  refine nb_ (N' := S.length + 16) X 7 rfl hW (nI_pos (by omega)) (nI_clamp (by omega)) (by omega) (Nat.le_of_ble_eq_true rfl) hms dJ5_init_a7421_44 (fun q H hW => ?_)
  have hW : Wd Dd A s.heap ([(b, .inr (9, [.null, .int 0, .int 0, .int 0])), (s0, .inr (8, [.ref av, .int 0, .int 0, .int 0])), (av, .inl (Y.2.1 0, S.length, .inl g)), (q, .inl (Y.2.1 0, (S.length + 16), .inl (fun _ => 0)))]) _ _ := hW
  refine lv_goto (tgt := 53) hx hb dJ5_init_a7421_46 (by decide) ?_
  refine p_ (ty := (.array .byte)) X hinJ4 tyJ4 tyJ4_ok nmJ4 hW 0 rfl rfl 0 (by decide) 8 rfl rfl rfl (by decide +kernel) rfl rfl (Nat.le_of_ble_eq_true rfl) dJ5_init_a7421_53 (ws' := [(b, .inr (9, [.ref q, .int 0, .int 0, .int 0])), (s0, .inr (8, [.ref av, .int 0, .int 0, .int 0])), (av, .inl (Y.2.1 0, S.length, .inl g)), (q, .inl (Y.2.1 0, (S.length + 16), .inl (fun _ => 0)))]) rfl (fun H locs hW => ?_)
  refine lv_aload_n hx hb dJ5_init_a7421_56 rfl (lv_at hl 3 rfl) ?_
  refine lv_aload_n hx hb dJ5_init_a7421_57 rfl (lv_at hl 4 rfl) ?_
  have hW : Wd Dd A s.heap ([(b, .inr (9, [.ref q, .int 0, .int 0, .int 0])), (q, .inl (Y.2.1 0, (S.length + 16), .inl (fun _ => 0))), (s0, .inr (8, [.ref av, .int 0, .int 0, .int 0])), (av, .inl (Y.2.1 0, S.length, .inl g))]) H locs := hW.permA (pmq21 _ _ _ _)
  refine rU_ (As := [.ref s0]) (rest := []) (wc := [(b, .inr (9, [.ref q, .int 0, .int 0, .int 0])), (q, .inl (Y.2.1 0, (S.length + 16), .inl (fun _ => 0))), (s0, .inr (8, [.ref av, .int 0, .int 0, .int 0])), (av, .inl (Y.2.1 0, S.length, .inl g))]) (w9 := []) X (kJ4_append_cf1ce l Dd Y b s0 av S [] g hG _ ⟨q, S.length + 16, _, by omega, Nat.zero_le _, by omega, BT_nil, rfl⟩ (by rw [List.length_nil]; omega)) (va_cwO 1 X.1.2.2.2.2 gJ5_init_a7421_J4_append_cf1ce_u43J4 rfl rfl rfl (List.mem_of_getElem? (i := 45) rfl) (by decide +kernel) ⟨(Nat.le_of_ble_eq_true rfl), (Nat.le_of_ble_eq_true rfl)⟩) hW (List.Perm.refl _) 0 9 rfl rfl rfl rfl hl.1 rfl (Nat.le_of_ble_eq_true rfl) dJ5_init_a7421_58 ⟨(Nat.le_of_ble_eq_true rfl), hms2⟩ (fun rv wq H locs hp hW => ?_)
  obtain ⟨rfl, w1, hw1, rfl⟩ := hp
  rw [List.append_nil] at hW
  refine W.eq (g2 := F0 m 61 ls [.ref b]) rfl ?_
  refine lv_pop hx hb dJ5_init_a7421_61 rfl ?_
  exact hV _ _ _ _ _ _ _ ⟨rfl, w1, hw1, rfl⟩ rfl (Nat.le_of_ble_eq_true rfl) hms2 hW dJ5_init_a7421_62
abbrev rmJ4_init_a7421 : Room := { frames := 9, cells := 2, slots := 6000, locals := 208 }
set_option maxRecDepth 100000 in
set_option maxHeartbeats 4000000 in
theorem kJ4_init_a7421 (l : Launch) (Dd : va_G) (Y : yT) (b s0 av : Nat) (S : List Nat) (g : Nat → Int32) (hG : BT S g) (hq : S.length ≤ 300) : MR l yJ4_init_a7421 wsJ4_init_a7421 rmJ4_init_a7421 Dd Y [.ref b, .ref s0] ([(b, .inr (9, [.null, .int 0, .int 0, .int 0])), (s0, .inr (8, [.ref av, .int 0, .int 0, .int 0])), (av, .inl (Y.2.1 0, S.length, .inl g))]) (fun rv w => rv = none ∧ ∃ w1, WSB Y b S w1 ∧ w = w1 ++ [(s0, .inr (8, [.ref av, .int 0, .int 0, .int 0])), (av, .inl (Y.2.1 0, S.length, .inl g))]) 2 6000 := by
  refine MRk (cc := cJ4_init_a7421) (maxL := 2) (ret := none) (by decide) rfl (Nat.le_of_ble_eq_true rfl) (fun {p₀ e₀ s m args below meth c₀ A} ls Q X hin hW hl hI hV hA => ?_)
  have hx := X.x
  have hb := X.b
  have hl : lv_has ls 2 [(0, .ref b), (1, .ref s0)] := hl
  refine lv_aload_n hx hb dJ4_init_a7421_0 rfl (lv_at hl 0 rfl) ?_
  refine lv_aload_n hx hb dJ4_init_a7421_1 rfl (lv_at hl 1 rfl) ?_
  refine rI_ (As := [.ref s0]) (rest := []) (wc := [(b, .inr (9, [.null, .int 0, .int 0, .int 0])), (s0, .inr (8, [.ref av, .int 0, .int 0, .int 0])), (av, .inl (Y.2.1 0, S.length, .inl g))]) (w9 := []) X (kJ5_init_a7421 l Dd Y b s0 av S g hG hq) (cwI 1 X.1.2.2.2.2 gJ4_init_a7421_J5_init_a7421 rfl rfl rfl (X.w (i := 3) rfl) (X.w (i := 1) rfl) (X.w (i := 2) rfl) rfl (by decide +kernel) ⟨(Nat.le_of_ble_eq_true rfl), (Nat.le_of_ble_eq_true rfl)⟩) hW (List.Perm.refl _) rfl hl.1 rfl (Nat.le_of_ble_eq_true rfl) dJ4_init_a7421_2 ⟨(Nat.le_of_ble_eq_true rfl), (Nat.le_of_ble_eq_true rfl)⟩ (fun rv wq H locs hp hW => ?_)
  obtain ⟨rfl, w1, hw1, rfl⟩ := hp
  rw [List.append_nil] at hW
  refine W.eq (g2 := F0 m 5 ls []) rfl ?_
  exact hV _ _ _ _ _ _ _ ⟨rfl, w1, hw1, rfl⟩ rfl (Nat.le_of_ble_eq_true rfl) (Nat.le_of_ble_eq_true rfl) hW dJ4_init_a7421_5
/-- the digits of a number below 100 -/
def dec (v : Nat) : List Nat := if v < 10 then [48 + v] else [48 + v / 10, 48 + v % 10]
theorem dec_1 {v : Nat} (h : v < 10) : dec v = [48 + v] := if_pos h
theorem dec_2 {v : Nat} (h : 10 ≤ v) : dec v = [48 + v / 10, 48 + v % 10] := if_neg (by omega)
theorem dec_len (v : Nat) : (dec v).length ≤ 2 := by
  unfold dec; split <;> simp
abbrev rmJ6_stringSize_0f7a4 : Room := { frames := 0, cells := 0, slots := 0, locals := 0 }
set_option maxRecDepth 100000 in
set_option maxHeartbeats 4000000 in
theorem kJ6_stringSize_0f7a4 (l : Launch) (Dd : va_G) (Y : yT) (v : Nat) (hv : v < 100) : MR l yJ6_stringSize_0f7a4 wsJ6_stringSize_0f7a4 rmJ6_stringSize_0f7a4 Dd Y [.int (nI v)] ([]) (fun rv w => rv = some (.int (nI (dec v).length)) ∧ w = []) 0 0 := by
  refine MRk (cc := cJ6_stringSize_0f7a4) (maxL := 4) (ret := (some .int)) (by decide) rfl (Nat.le_of_ble_eq_true rfl) (fun {p₀ e₀ s m args below meth c₀ A} ls Q X hin hW hl hI hV hA => ?_)
  have hx := X.x
  have hb := X.b
  have hl : lv_has ls 4 [(0, .int (nI v))] := hl
  refine lv_iconst (v := 1) hx hb dJ6_stringSize_0f7a4_0 (by decide) ?_
  refine lv_istore_n (lv' := [(1, .int 1), (0, .int (nI v))]) hx hb dJ6_stringSize_0f7a4_1 rfl hl (by decide) rfl (fun ls hl => ?_)
  refine lv_iload_n hx hb dJ6_stringSize_0f7a4_2 rfl (lv_at hl 1 rfl) ?_
  refine lv_if_lt (tgt := 11) hx hb dJ6_stringSize_0f7a4_3 (by decide) (fun h => absurd h (nI_pos (by omega))) (fun _ => ?_)
  refine lv_iconst (v := 0) hx hb dJ6_stringSize_0f7a4_6 (by decide) ?_
  refine lv_istore_n (lv' := [(1, .int 0), (0, .int (nI v))]) hx hb dJ6_stringSize_0f7a4_7 rfl hl (by decide) rfl (fun ls hl => ?_)
  refine lv_iload_n hx hb dJ6_stringSize_0f7a4_8 rfl (lv_at hl 1 rfl) ?_
  refine lv_ineg hx hb dJ6_stringSize_0f7a4_9 ?_
  refine lv_istore_n (lv' := [(0, .int (-(nI v))), (1, .int 0)]) hx hb dJ6_stringSize_0f7a4_10 rfl hl (by decide) rfl (fun ls hl => ?_)
  refine lv_bipush (v := (-10)) hx hb dJ6_stringSize_0f7a4_11 (by decide) ?_
  refine lv_istore_n (lv' := [(2, .int (-10)), (0, .int (-(nI v))), (1, .int 0)]) hx hb dJ6_stringSize_0f7a4_13 rfl hl (by decide) rfl (fun ls hl => ?_)
  refine lv_iconst (v := 1) hx hb dJ6_stringSize_0f7a4_14 (by decide) ?_
  refine lv_istore_n (lv' := [(3, .int 1), (2, .int (-10)), (0, .int (-(nI v))), (1, .int 0)]) hx hb dJ6_stringSize_0f7a4_15 rfl hl (by decide) rfl (fun ls hl => ?_)
  refine lv_iload_n hx hb dJ6_stringSize_0f7a4_16 rfl (lv_at hl 0 rfl) ?_
  refine lv_bipush (v := 10) hx hb dJ6_stringSize_0f7a4_17 (by decide) ?_
  refine lv_icmp_ge (tgt := 42) hx hb dJ6_stringSize_0f7a4_19 (by decide) (fun h => absurd h (by decide)) (fun _ => ?_)
  refine lv_iload_n hx hb dJ6_stringSize_0f7a4_22 rfl (lv_at hl 2 rfl) ?_
  refine lv_iload_n hx hb dJ6_stringSize_0f7a4_23 rfl (lv_at hl 1 rfl) ?_
  refine lv_icmp_le (tgt := 31) hx hb dJ6_stringSize_0f7a4_24 (by decide) (fun cq => ?_) (fun cq => ?_)
  · have h10 : 10 ≤ v := (sb_nle (b := 10) (by omega) (by omega)).mp cq
    refine lv_bipush (v := 10) hx hb dJ6_stringSize_0f7a4_31 (by decide) ?_
    refine lv_iload_n hx hb dJ6_stringSize_0f7a4_33 rfl (lv_at hl 1 rfl) ?_
    refine lv_imul hx hb dJ6_stringSize_0f7a4_34 ?_
    refine lv_istore_n (lv' := [(2, .int (10 * (-10))), (3, .int 1), (0, .int (-(nI v))), (1, .int 0)]) hx hb dJ6_stringSize_0f7a4_35 rfl hl (by decide) rfl (fun ls hl => ?_)
    refine lv_iinc (v := 1 + 1) (lv' := [(3, .int (1 + 1)), (2, .int (10 * (-10))), (0, .int (-(nI v))), (1, .int 0)]) hx hb dJ6_stringSize_0f7a4_36 hl (k := 1) rfl rfl (by decide) rfl (fun ls hl => ?_)
    refine lv_goto (tgt := 16) hx hb dJ6_stringSize_0f7a4_39 (by decide) ?_
    refine lv_iload_n hx hb dJ6_stringSize_0f7a4_16 rfl (lv_at hl 0 rfl) ?_
    refine lv_bipush (v := 10) hx hb dJ6_stringSize_0f7a4_17 (by decide) ?_
    refine lv_icmp_ge (tgt := 42) hx hb dJ6_stringSize_0f7a4_19 (by decide) (fun h => absurd h (by decide)) (fun _ => ?_)
    refine lv_iload_n hx hb dJ6_stringSize_0f7a4_22 rfl (lv_at hl 2 rfl) ?_
    refine lv_iload_n hx hb dJ6_stringSize_0f7a4_23 rfl (lv_at hl 1 rfl) ?_
    refine lv_icmp_le (tgt := 31) hx hb dJ6_stringSize_0f7a4_24 (by decide) (fun h => absurd h (show ¬ -nI v ≤ 10 * (-10) from by rw [show (10 : Int32) * (-10) = -nI 100 from by decide, sb_nle (by omega) (by decide)]; omega)) (fun _ => ?_)
    refine lv_iload_n hx hb dJ6_stringSize_0f7a4_27 rfl (lv_at hl 0 rfl) ?_
    refine lv_iload_n hx hb dJ6_stringSize_0f7a4_28 rfl (lv_at hl 3 rfl) ?_
    refine lv_iadd hx hb dJ6_stringSize_0f7a4_29 ?_
    exact hI _ _ _ _ _ _ _ _ _ ⟨by rw [dec_2 h10]; exact congrArg (fun z => some (Value.int z)) (by decide : (1 + 1 + 0 : Int32) = nI 2), rfl⟩ rfl rfl (Nat.le_of_ble_eq_true rfl) (Nat.le_of_ble_eq_true rfl) hW dJ6_stringSize_0f7a4_30
  · have h10 : v < 10 := Nat.lt_of_not_le (fun h => cq ((sb_nle (b := 10) (by omega) (by omega)).mpr h))
    refine lv_iload_n hx hb dJ6_stringSize_0f7a4_27 rfl (lv_at hl 0 rfl) ?_
    refine lv_iload_n hx hb dJ6_stringSize_0f7a4_28 rfl (lv_at hl 3 rfl) ?_
    refine lv_iadd hx hb dJ6_stringSize_0f7a4_29 ?_
    exact hI _ _ _ _ _ _ _ _ _ ⟨by rw [dec_1 h10]; exact congrArg (fun z => some (Value.int z)) (by decide : (1 + 0 : Int32) = nI 1), rfl⟩ rfl rfl (Nat.le_of_ble_eq_true rfl) (Nat.le_of_ble_eq_true rfl) hW dJ6_stringSize_0f7a4_30
abbrev rmJ6_getChars_ba4f3 : Room := { frames := 0, cells := 0, slots := 0, locals := 0 }
set_option maxRecDepth 100000 in
set_option maxHeartbeats 4000000 in
theorem kJ6_getChars_ba4f3 (l : Launch) (Dd : va_G) (Y : yT) (v p ae cap : Nat) (f : Nat → Int32) (hv : v < 10) (hv2 : v < 100) (hp : p + 1 ≤ cap) (hcap : cap < 2 ^ 31) : MR l yJ6_getChars_ba4f3 wsJ6_getChars_ba4f3 rmJ6_getChars_ba4f3 Dd Y [.int (nI v), .int (nI (p + 1)), .ref ae] ([(ae, .inl (Y.2.1 0, cap, .inl f))]) (fun rv w => (∃ r : Int32, rv = some (.int r)) ∧ w = [(ae, .inl (Y.2.1 0, cap, .inl (upd f (p + 0) (nI (48 + v % 10)))))]) 0 0 := by
  refine MRk (cc := cJ6_getChars_ba4f3) (maxL := 7) (ret := (some .int)) (by decide) rfl (Nat.le_of_ble_eq_true rfl) (fun {p₀ e₀ s m args below meth c₀ A} ls Q X hin hW hl hI hV hA => ?_)
  have hx := X.x
  have hb := X.b
  have hl : lv_has ls 7 [(0, .int (nI v)), (1, .int (nI (p + 1))), (2, .ref ae)] := hl
  refine lv_iload_n hx hb dJ6_getChars_ba4f3_0 rfl (lv_at hl 1 rfl) ?_
  refine lv_istore (lv' := [(5, .int (nI (p + 1))), (0, .int (nI v)), (1, .int (nI (p + 1))), (2, .ref ae)]) hx hb dJ6_getChars_ba4f3_1 hl (by decide) rfl (fun ls hl => ?_)
  refine lv_iload_n hx hb dJ6_getChars_ba4f3_3 rfl (lv_at hl 1 rfl) ?_
  refine lv_if_ge (tgt := 11) hx hb dJ6_getChars_ba4f3_4 (by decide) (fun _ => ?_) (fun h => absurd (nI_pos' (by omega)) h)
  refine lv_iconst (v := 0) hx hb dJ6_getChars_ba4f3_11 (by decide) ?_
  refine lv_istore (lv' := [(6, .int 0), (5, .int (nI (p + 1))), (0, .int (nI v)), (1, .int (nI (p + 1))), (2, .ref ae)]) hx hb dJ6_getChars_ba4f3_12 hl (by decide) rfl (fun ls hl => ?_)
  refine lv_iload hx hb dJ6_getChars_ba4f3_14 (lv_at hl 0 rfl) ?_
  refine lv_if_ne (tgt := 22) hx hb dJ6_getChars_ba4f3_16 (by decide) (fun h => absurd h (fun g => g rfl)) (fun _ => ?_)
  refine lv_iload_n hx hb dJ6_getChars_ba4f3_19 rfl (lv_at hl 2 rfl) ?_
  refine lv_ineg hx hb dJ6_getChars_ba4f3_20 ?_
  refine lv_istore_n (lv' := [(0, .int (-(nI v))), (6, .int 0), (5, .int (nI (p + 1))), (1, .int (nI (p + 1))), (2, .ref ae)]) hx hb dJ6_getChars_ba4f3_21 rfl hl (by decide) rfl (fun ls hl => ?_)
  refine lv_iload_n hx hb dJ6_getChars_ba4f3_22 rfl (lv_at hl 0 rfl) ?_
  refine lv_bipush (v := (-100)) hx hb dJ6_getChars_ba4f3_23 (by decide) ?_
  refine lv_icmp_gt (tgt := 72) hx hb dJ6_getChars_ba4f3_25 (by decide) (fun _ => ?_) (fun h => absurd (show (-100 : Int32) < -nI v from (sb_nlt (a := 100) (by decide) (by omega)).mpr (by omega)) h)
  refine lv_aload_n hx hb dJ6_getChars_ba4f3_72 rfl (lv_at hl 4 rfl) ?_
  refine lv_iinc (v := (nI (p + 1)) + (-1)) (lv' := [(5, .int ((nI (p + 1)) + (-1))), (0, .int (-(nI v))), (6, .int 0), (1, .int (nI (p + 1))), (2, .ref ae)]) hx hb dJ6_getChars_ba4f3_73 hl (k := 2) rfl rfl (by decide) rfl (fun ls hl => ?_)
  refine lv_iload hx hb dJ6_getChars_ba4f3_76 (lv_at hl 0 rfl) ?_
  rw [show nI (p + 1) + (-1) = nI (p + 0) from pk_m1 (p + 0)] at hl ⊢
  have hl := hl
  refine gz_ X hW X.2.2.2.2.2.2.2.2.2.2.2.2.1.1 1 rfl dJ6_getChars_ba4f3_78 ?_
  refine lv_iload_n hx hb dJ6_getChars_ba4f3_81 rfl (lv_at hl 1 rfl) ?_
  refine lv_ineg hx hb dJ6_getChars_ba4f3_82 ?_
  rw [Int32.neg_neg]
  refine va_tb hx hb X.2.2.2.2.2.2.2.2.2.2.2.2.1.2 hW.2.2 (vp_in_nI (by omega) (by decide)) (v := .int (nI (48 + v % 10))) (by rw [nI_clamp (by omega)]) dJ6_getChars_ba4f3_83 ?_
  refine sb_ X hW 0 rfl (i' := p + 0) rfl (by omega) (by omega) (asc _ (by omega)).2.2.2.2.1 dJ6_getChars_ba4f3_84 (ws' := [(ae, .inl (Y.2.1 0, cap, .inl (upd f (p + 0) (nI (48 + v % 10)))))]) rfl (fun H locs hW => ?_)
  refine lv_iload_n hx hb dJ6_getChars_ba4f3_85 rfl (lv_at hl 1 rfl) ?_
  refine lv_bipush (v := (-9)) hx hb dJ6_getChars_ba4f3_86 (by decide) ?_
  refine lv_icmp_ge (tgt := 104) hx hb dJ6_getChars_ba4f3_88 (by decide) (fun _ => ?_) (fun h => absurd (show (-9 : Int32) ≤ -nI v from (sb_nle (a := 9) (by decide) (by omega)).mpr (by omega)) h)
  refine lv_iload hx hb dJ6_getChars_ba4f3_104 (lv_at hl 2 rfl) ?_
  refine lv_if_eq (tgt := 118) hx hb dJ6_getChars_ba4f3_106 (by decide) (fun _ => ?_) (fun h => absurd rfl h)
  refine lv_iload hx hb dJ6_getChars_ba4f3_118 (lv_at hl 0 rfl) ?_
  exact hI _ _ _ _ _ _ _ _ _ ⟨⟨_, rfl⟩, rfl⟩ rfl rfl (Nat.le_of_ble_eq_true rfl) (Nat.le_of_ble_eq_true rfl) hW dJ6_getChars_ba4f3_120
set_option maxRecDepth 100000 in
set_option maxHeartbeats 4000000 in
theorem kChars2 (l : Launch) (Dd : va_G) (Y : yT) (v p ae cap : Nat) (f : Nat → Int32) (hv : 10 ≤ v) (hv2 : v < 100) (hp : p + 2 ≤ cap) (hcap : cap < 2 ^ 31) : MR l yJ6_getChars_ba4f3 wsJ6_getChars_ba4f3 rmJ6_getChars_ba4f3 Dd Y [.int (nI v), .int (nI (p + 2)), .ref ae] ([(ae, .inl (Y.2.1 0, cap, .inl f))]) (fun rv w => (∃ r : Int32, rv = some (.int r)) ∧ w = [(ae, .inl (Y.2.1 0, cap, .inl (upd (upd f (p + 1) (nI (48 + v % 10))) (p + 0) (nI (48 + v / 10)))))]) 0 0 := by
  refine MRk (cc := cJ6_getChars_ba4f3) (maxL := 7) (ret := (some .int)) (by decide) rfl (Nat.le_of_ble_eq_true rfl) (fun {p₀ e₀ s m args below meth c₀ A} ls Q X hin hW hl hI hV hA => ?_)
  have hx := X.x
  have hb := X.b
  have hl : lv_has ls 7 [(0, .int (nI v)), (1, .int (nI (p + 2))), (2, .ref ae)] := hl
  refine lv_iload_n hx hb dJ6_getChars_ba4f3_0 rfl (lv_at hl 1 rfl) ?_
  refine lv_istore (lv' := [(5, .int (nI (p + 2))), (0, .int (nI v)), (1, .int (nI (p + 2))), (2, .ref ae)]) hx hb dJ6_getChars_ba4f3_1 hl (by decide) rfl (fun ls hl => ?_)
  refine lv_iload_n hx hb dJ6_getChars_ba4f3_3 rfl (lv_at hl 1 rfl) ?_
  refine lv_if_ge (tgt := 11) hx hb dJ6_getChars_ba4f3_4 (by decide) (fun _ => ?_) (fun h => absurd (nI_pos' (by omega)) h)
  refine lv_iconst (v := 0) hx hb dJ6_getChars_ba4f3_11 (by decide) ?_
  refine lv_istore (lv' := [(6, .int 0), (5, .int (nI (p + 2))), (0, .int (nI v)), (1, .int (nI (p + 2))), (2, .ref ae)]) hx hb dJ6_getChars_ba4f3_12 hl (by decide) rfl (fun ls hl => ?_)
  refine lv_iload hx hb dJ6_getChars_ba4f3_14 (lv_at hl 0 rfl) ?_
  refine lv_if_ne (tgt := 22) hx hb dJ6_getChars_ba4f3_16 (by decide) (fun h => absurd h (fun g => g rfl)) (fun _ => ?_)
  refine lv_iload_n hx hb dJ6_getChars_ba4f3_19 rfl (lv_at hl 2 rfl) ?_
  refine lv_ineg hx hb dJ6_getChars_ba4f3_20 ?_
  refine lv_istore_n (lv' := [(0, .int (-(nI v))), (6, .int 0), (5, .int (nI (p + 2))), (1, .int (nI (p + 2))), (2, .ref ae)]) hx hb dJ6_getChars_ba4f3_21 rfl hl (by decide) rfl (fun ls hl => ?_)
  refine lv_iload_n hx hb dJ6_getChars_ba4f3_22 rfl (lv_at hl 0 rfl) ?_
  refine lv_bipush (v := (-100)) hx hb dJ6_getChars_ba4f3_23 (by decide) ?_
  refine lv_icmp_gt (tgt := 72) hx hb dJ6_getChars_ba4f3_25 (by decide) (fun _ => ?_) (fun h => absurd (show (-100 : Int32) < -nI v from (sb_nlt (a := 100) (by decide) (by omega)).mpr (by omega)) h)
  refine lv_aload_n hx hb dJ6_getChars_ba4f3_72 rfl (lv_at hl 4 rfl) ?_
  refine lv_iinc (v := (nI (p + 2)) + (-1)) (lv' := [(5, .int ((nI (p + 2)) + (-1))), (0, .int (-(nI v))), (6, .int 0), (1, .int (nI (p + 2))), (2, .ref ae)]) hx hb dJ6_getChars_ba4f3_73 hl (k := 2) rfl rfl (by decide) rfl (fun ls hl => ?_)
  refine lv_iload hx hb dJ6_getChars_ba4f3_76 (lv_at hl 0 rfl) ?_
  rw [show nI (p + 2) + (-1) = nI (p + 1) from pk_m1 (p + 1)] at hl ⊢
  have hl := hl
  refine gz_ X hW X.2.2.2.2.2.2.2.2.2.2.2.2.1.1 1 rfl dJ6_getChars_ba4f3_78 ?_
  refine lv_iload_n hx hb dJ6_getChars_ba4f3_81 rfl (lv_at hl 1 rfl) ?_
  refine lv_ineg hx hb dJ6_getChars_ba4f3_82 ?_
  rw [Int32.neg_neg]
  refine va_tb hx hb X.2.2.2.2.2.2.2.2.2.2.2.2.1.2 hW.2.2 (vp_in_nI (by omega) (by decide)) (v := .int (nI (48 + v % 10))) (by rw [nI_clamp (by omega)]) dJ6_getChars_ba4f3_83 ?_
  refine sb_ X hW 0 rfl (i' := p + 1) rfl (by omega) (by omega) (asc _ (by omega)).2.2.2.2.1 dJ6_getChars_ba4f3_84 (ws' := [(ae, .inl (Y.2.1 0, cap, .inl (upd f (p + 1) (nI (48 + v % 10)))))]) rfl (fun H locs hW => ?_)
  refine lv_iload_n hx hb dJ6_getChars_ba4f3_85 rfl (lv_at hl 1 rfl) ?_
  refine lv_bipush (v := (-9)) hx hb dJ6_getChars_ba4f3_86 (by decide) ?_
  refine lv_icmp_ge (tgt := 104) hx hb dJ6_getChars_ba4f3_88 (by decide) (fun h => absurd h (show ¬ (-9 : Int32) ≤ -nI v from fun h => by have := (sb_nle (a := 9) (by decide) (by omega)).mp h; omega)) (fun _ => ?_)
  refine lv_aload_n hx hb dJ6_getChars_ba4f3_91 rfl (lv_at hl 4 rfl) ?_
  refine lv_iinc (v := (nI (p + 1)) + (-1)) (lv' := [(5, .int ((nI (p + 1)) + (-1))), (0, .int (-(nI v))), (6, .int 0), (1, .int (nI (p + 2))), (2, .ref ae)]) hx hb dJ6_getChars_ba4f3_92 hl (k := 0) rfl rfl (by decide) rfl (fun ls hl => ?_)
  refine lv_iload hx hb dJ6_getChars_ba4f3_95 (lv_at hl 0 rfl) ?_
  rw [show nI (p + 1) + (-1) = nI (p + 0) from pk_m1 (p + 0)] at hl ⊢
  have hl := hl
  refine gz_ X hW X.2.2.2.2.2.2.2.2.2.2.2.2.2.1 2 rfl dJ6_getChars_ba4f3_97 ?_
  refine lv_iload_n hx hb dJ6_getChars_ba4f3_100 rfl (lv_at hl 1 rfl) ?_
  refine lv_ineg hx hb dJ6_getChars_ba4f3_101 ?_
  rw [Int32.neg_neg]
  refine va_tb hx hb X.2.2.2.2.2.2.2.2.2.2.2.2.2.2 hW.2.2 (vp_in_nI (by omega) (by decide)) (v := .int (nI (48 + v / 10))) (by rw [nI_clamp (by omega)]) dJ6_getChars_ba4f3_102 ?_
  refine sb_ X hW 0 rfl (i' := p + 0) rfl (by omega) (by omega) (asc _ (by omega)).2.2.2.2.1 dJ6_getChars_ba4f3_103 (ws' := [(ae, .inl (Y.2.1 0, cap, .inl (upd (upd f (p + 1) (nI (48 + v % 10))) (p + 0) (nI (48 + v / 10)))))]) rfl (fun H locs hW => ?_)
  refine lv_iload hx hb dJ6_getChars_ba4f3_104 (lv_at hl 2 rfl) ?_
  refine lv_if_eq (tgt := 118) hx hb dJ6_getChars_ba4f3_106 (by decide) (fun _ => ?_) (fun h => absurd rfl h)
  refine lv_iload hx hb dJ6_getChars_ba4f3_118 (lv_at hl 0 rfl) ?_
  exact hI _ _ _ _ _ _ _ _ _ ⟨⟨_, rfl⟩, rfl⟩ rfl rfl (Nat.le_of_ble_eq_true rfl) (Nat.le_of_ble_eq_true rfl) hW dJ6_getChars_ba4f3_120
abbrev rmJ5_append_c97b9 : Room := { frames := 4, cells := 1, slots := 5000, locals := 91 }
set_option maxRecDepth 100000 in
set_option maxHeartbeats 4000000 in
theorem kJ5_append_c97b9 (l : Launch) (Dd : va_G) (Y : yT) (b ae cap n v : Nat) (f : Nat → Int32) (h0 : 0 < cap) (hc : cap ≤ 1000) (hf : sb_Fit f) (hv : v < 10) (hv2 : v < 100) (hq : n + 2 ≤ 300) : MR l yJ5_append_c97b9 wsJ5_append_c97b9 rmJ5_append_c97b9 Dd Y [.ref b, .int (nI v)] ([(b, .inr (9, [.ref ae, .int 0, .int 0, .int (nI n)])), (ae, .inl (Y.2.1 0, cap, .inl f))]) (fun rv wq => rv = some (.ref b) ∧ ∃ (ae' cap' : Nat) (f' : Nat → Int32), cap ≤ cap' ∧ n + 1 ≤ cap' ∧ (cap' = cap ∨ cap' ≤ 3 * (n + 1) + 2) ∧ sb_Fit f' ∧ (∀ j : Nat, j < cap → f' j = f j) ∧ wq = [(b, .inr (9, [.ref ae', .int 0, .int 0, .int (nI (n + 1))])), (ae', .inl (Y.2.1 0, cap', .inl (upd f' (n + 0) (nI (48 + v % 10)))))]) 1 5000 := by
  refine MRk (cc := cJ5_append_c97b9) (maxL := 4) (ret := (some (.object "java/lang/AbstractStringBuilder"))) (by decide) rfl (Nat.le_of_ble_eq_true rfl) (fun {p₀ e₀ s m args below meth c₀ A} ls Q X hin hW hl hI hV hA => ?_)
  have hx := X.x
  have hb := X.b
  have hl : lv_has ls 4 [(0, .ref b), (1, .int (nI v))] := hl
  have hinJ4 : ∀ w ∈ wsJ40, w ∈ wsJ5_append_c97b9 := fun w h => List.mem_cons_of_mem _ (List.mem_append_right _ h)
  refine lv_aload_n hx hb dJ5_append_c97b9_0 rfl (lv_at hl 0 rfl) ?_
  refine g_ X hinJ4 hW 0 rfl rfl 3 (by decide) 1 rfl rfl rfl dJ5_append_c97b9_1 ?_
  refine lv_istore_n (lv' := [(2, .int (nI n)), (0, .ref b), (1, .int (nI v))]) hx hb dJ5_append_c97b9_4 rfl hl (by decide) rfl (fun ls hl => ?_)
  refine lv_iload_n hx hb dJ5_append_c97b9_5 rfl (lv_at hl 0 rfl) ?_
  refine lv_iload_n hx hb dJ5_append_c97b9_6 rfl (lv_at hl 2 rfl) ?_
  refine rS_ (As := [.int (nI v)]) (rest := [.int (nI n)]) (wc := []) (w9 := [(b, .inr (9, [.ref ae, .int 0, .int 0, .int (nI n)])), (ae, .inl (Y.2.1 0, cap, .inl f))]) X (kJ6_stringSize_0f7a4 l Dd Y v hv2) (va_cwS 1 X.1.2.2.2.2 gJ5_append_c97b9_J6_stringSize_0f7a4 rfl rfl rfl (by decide +kernel) ⟨(Nat.le_of_ble_eq_true rfl), (Nat.le_of_ble_eq_true rfl)⟩) hW (List.Perm.refl _) rfl hl.1 rfl (Nat.le_of_ble_eq_true rfl) dJ5_append_c97b9_7 ⟨(Nat.le_of_ble_eq_true rfl), (Nat.le_of_ble_eq_true rfl)⟩ (fun rv wq H locs hp hW => ?_)
  obtain ⟨rfl, rfl⟩ := hp
  have hW : Wd Dd A s.heap ([(b, .inr (9, [.ref ae, .int 0, .int 0, .int (nI n)])), (ae, .inl (Y.2.1 0, cap, .inl f))]) H locs := hW
  refine W.eq (g2 := F0 m 10 ls [.int (nI (dec v).length), .int (nI n)]) rfl ?_
  rw [show (dec v).length = 1 from by rw [dec_1 hv]; rfl]
  refine lv_iadd hx hb dJ5_append_c97b9_10 ?_
  rw [nI_add]
  refine lv_istore_n (lv' := [(3, .int (nI (n + 1))), (2, .int (nI n)), (0, .ref b), (1, .int (nI v))]) hx hb dJ5_append_c97b9_11 rfl hl (by decide) rfl (fun ls hl => ?_)
  refine lv_aload_n hx hb dJ5_append_c97b9_12 rfl (lv_at hl 2 rfl) ?_
  refine lv_iload_n hx hb dJ5_append_c97b9_13 rfl (lv_at hl 0 rfl) ?_
  refine rU_ (As := [.int (nI (n + 1))]) (rest := []) (wc := [(b, .inr (9, [.ref ae, .int 0, .int 0, .int (nI n)])), (ae, .inl (Y.2.1 0, cap, .inl f))]) (w9 := []) X (kJ5_ensureCapacityInternal_d00df l Dd Y b ae cap (n + 1) (nI n) f h0 hc (by omega) hf) (va_cwU 1 X.1.2.2.2.2 gJ5_append_c97b9_J5_ensureCapacityInternal_d00df_u100J4 rfl rfl rfl rfl (by decide +kernel) ⟨(Nat.le_of_ble_eq_true rfl), (Nat.le_of_ble_eq_true rfl)⟩) hW (List.Perm.refl _) 0 9 rfl rfl rfl rfl hl.1 rfl (Nat.le_of_ble_eq_true rfl) dJ5_append_c97b9_14 ⟨(Nat.le_of_ble_eq_true rfl), (Nat.le_of_ble_eq_true rfl)⟩ (fun rv wq H locs hp hW => ?_)
  obtain ⟨rfl, ae', cap', f', e1, e2, e3, e4, e5, rfl⟩ := hp
  have hW : Wd Dd A s.heap ([(b, .inr (9, [.ref ae', .int 0, .int 0, .int (nI n)])), (ae', .inl (Y.2.1 0, cap', .inl f'))]) H locs := hW
  refine W.eq (g2 := F0 m 17 ls []) rfl ?_
  refine lv_aload_n hx hb dJ5_append_c97b9_17 rfl (lv_at hl 2 rfl) ?_
  refine rU_ (As := []) (rest := []) (wc := [(b, .inr (9, [.ref ae', .int 0, .int 0, .int (nI n)]))]) (w9 := [(ae', .inl (Y.2.1 0, cap', .inl f'))]) X (kJ5_isLatin1_aae02 l Dd Y b (.ref ae') (nI n)) (va_cwU 0 X.1.2.2.2.2 gJ5_append_c97b9_J5_isLatin1_aae02_u83J4 rfl rfl rfl rfl (by decide +kernel) ⟨(Nat.le_of_ble_eq_true rfl), (Nat.le_of_ble_eq_true rfl)⟩) hW (List.Perm.refl _) 0 9 rfl rfl rfl rfl hl.1 rfl (Nat.le_of_ble_eq_true rfl) dJ5_append_c97b9_18 ⟨(Nat.le_of_ble_eq_true rfl), (Nat.le_of_ble_eq_true rfl)⟩ (fun rv wq H locs hp hW => ?_)
  obtain ⟨rfl, rfl⟩ := hp
  have hW : Wd Dd A s.heap ([(b, .inr (9, [.ref ae', .int 0, .int 0, .int (nI n)])), (ae', .inl (Y.2.1 0, cap', .inl f'))]) H locs := hW
  refine W.eq (g2 := F0 m 21 ls [.int 1]) rfl ?_
  refine lv_if_eq (tgt := 37) hx hb dJ5_append_c97b9_21 (by decide) (fun h => absurd h (by decide)) (fun _ => ?_)
  refine lv_iload_n hx hb dJ5_append_c97b9_24 rfl (lv_at hl 3 rfl) ?_
  refine lv_iload_n hx hb dJ5_append_c97b9_25 rfl (lv_at hl 0 rfl) ?_
  refine lv_aload_n hx hb dJ5_append_c97b9_26 rfl (lv_at hl 2 rfl) ?_
  refine g_ X hinJ4 hW 0 rfl rfl 0 (by decide) 2 rfl rfl rfl dJ5_append_c97b9_27 ?_
  refine rS_ (As := [.int (nI v), .int (nI (n + 1)), .ref ae']) (rest := []) (wc := [(ae', .inl (Y.2.1 0, cap', .inl f'))]) (w9 := [(b, .inr (9, [.ref ae', .int 0, .int 0, .int (nI n)]))]) X (kJ6_getChars_ba4f3 l Dd Y v n ae' cap' f' hv hv2 e2 (by omega)) (va_cwS 3 X.1.2.2.2.2 gJ5_append_c97b9_J6_getChars_ba4f3 rfl rfl rfl (by decide +kernel) ⟨(Nat.le_of_ble_eq_true rfl), (Nat.le_of_ble_eq_true rfl)⟩) hW (pmq5 _ _) rfl hl.1 rfl (Nat.le_of_ble_eq_true rfl) dJ5_append_c97b9_30 ⟨(Nat.le_of_ble_eq_true rfl), (Nat.le_of_ble_eq_true rfl)⟩ (fun rv wq H locs hp hW => ?_)
  obtain ⟨⟨r9, rfl⟩, rfl⟩ := hp
  have hW : Wd Dd A s.heap ([(ae', .inl (Y.2.1 0, cap', .inl (upd f' (n + 0) (nI (48 + v % 10))))), (b, .inr (9, [.ref ae', .int 0, .int 0, .int (nI n)]))]) H locs := hW
  refine W.eq (g2 := F0 m 33 ls [.int r9]) rfl ?_
  have hW : Wd Dd A s.heap ([(b, .inr (9, [.ref ae', .int 0, .int 0, .int (nI n)])), (ae', .inl (Y.2.1 0, cap', .inl (upd f' (n + 0) (nI (48 + v % 10)))))]) H locs := hW.permA (pmq7 _ _)
  refine lv_pop hx hb dJ5_append_c97b9_33 rfl ?_
  refine lv_goto (tgt := 48) hx hb dJ5_append_c97b9_34 (by decide) ?_
  refine lv_aload_n hx hb dJ5_append_c97b9_48 rfl (lv_at hl 2 rfl) ?_
  refine lv_iload_n hx hb dJ5_append_c97b9_49 rfl (lv_at hl 0 rfl) ?_
  refine p_ (ty := .int) X hinJ4 tyJ4 tyJ4_ok nmJ4 hW 0 rfl rfl 3 (by decide) 1 rfl rfl rfl (by decide +kernel) rfl rfl (Nat.le_of_ble_eq_true rfl) dJ5_append_c97b9_50 (ws' := [(b, .inr (9, [.ref ae', .int 0, .int 0, .int (nI (n + 1))])), (ae', .inl (Y.2.1 0, cap', .inl (upd f' (n + 0) (nI (48 + v % 10)))))]) rfl (fun H locs hW => ?_)
  refine lv_aload_n hx hb dJ5_append_c97b9_53 rfl (lv_at hl 2 rfl) ?_
  exact hA _ _ _ _ _ _ (some b) _ _ ⟨rfl, ae', cap', f', e1, e2, e3, e4, e5, rfl⟩ rfl (Or.inl ⟨_, rfl⟩) (Nat.le_of_ble_eq_true rfl) (Nat.le_of_ble_eq_true rfl) hW dJ5_append_c97b9_54
set_option maxRecDepth 100000 in
set_option maxHeartbeats 4000000 in
theorem kInt2 (l : Launch) (Dd : va_G) (Y : yT) (b ae cap n v : Nat) (f : Nat → Int32) (h0 : 0 < cap) (hc : cap ≤ 1000) (hf : sb_Fit f) (hv : 10 ≤ v) (hv2 : v < 100) (hq : n + 2 ≤ 300) : MR l yJ5_append_c97b9 wsJ5_append_c97b9 rmJ5_append_c97b9 Dd Y [.ref b, .int (nI v)] ([(b, .inr (9, [.ref ae, .int 0, .int 0, .int (nI n)])), (ae, .inl (Y.2.1 0, cap, .inl f))]) (fun rv wq => rv = some (.ref b) ∧ ∃ (ae' cap' : Nat) (f' : Nat → Int32), cap ≤ cap' ∧ n + 2 ≤ cap' ∧ (cap' = cap ∨ cap' ≤ 3 * (n + 2) + 2) ∧ sb_Fit f' ∧ (∀ j : Nat, j < cap → f' j = f j) ∧ wq = [(b, .inr (9, [.ref ae', .int 0, .int 0, .int (nI (n + 2))])), (ae', .inl (Y.2.1 0, cap', .inl (upd (upd f' (n + 1) (nI (48 + v % 10))) (n + 0) (nI (48 + v / 10)))))]) 1 5000 := by
  refine MRk (cc := cJ5_append_c97b9) (maxL := 4) (ret := (some (.object "java/lang/AbstractStringBuilder"))) (by decide) rfl (Nat.le_of_ble_eq_true rfl) (fun {p₀ e₀ s m args below meth c₀ A} ls Q X hin hW hl hI hV hA => ?_)
  have hx := X.x
  have hb := X.b
  have hl : lv_has ls 4 [(0, .ref b), (1, .int (nI v))] := hl
  have hinJ4 : ∀ w ∈ wsJ40, w ∈ wsJ5_append_c97b9 := fun w h => List.mem_cons_of_mem _ (List.mem_append_right _ h)
  refine lv_aload_n hx hb dJ5_append_c97b9_0 rfl (lv_at hl 0 rfl) ?_
  refine g_ X hinJ4 hW 0 rfl rfl 3 (by decide) 1 rfl rfl rfl dJ5_append_c97b9_1 ?_
  refine lv_istore_n (lv' := [(2, .int (nI n)), (0, .ref b), (1, .int (nI v))]) hx hb dJ5_append_c97b9_4 rfl hl (by decide) rfl (fun ls hl => ?_)
  refine lv_iload_n hx hb dJ5_append_c97b9_5 rfl (lv_at hl 0 rfl) ?_
  refine lv_iload_n hx hb dJ5_append_c97b9_6 rfl (lv_at hl 2 rfl) ?_
  refine rS_ (As := [.int (nI v)]) (rest := [.int (nI n)]) (wc := []) (w9 := [(b, .inr (9, [.ref ae, .int 0, .int 0, .int (nI n)])), (ae, .inl (Y.2.1 0, cap, .inl f))]) X (kJ6_stringSize_0f7a4 l Dd Y v hv2) (va_cwS 1 X.1.2.2.2.2 gJ5_append_c97b9_J6_stringSize_0f7a4 rfl rfl rfl (by decide +kernel) ⟨(Nat.le_of_ble_eq_true rfl), (Nat.le_of_ble_eq_true rfl)⟩) hW (List.Perm.refl _) rfl hl.1 rfl (Nat.le_of_ble_eq_true rfl) dJ5_append_c97b9_7 ⟨(Nat.le_of_ble_eq_true rfl), (Nat.le_of_ble_eq_true rfl)⟩ (fun rv wq H locs hp hW => ?_)
  obtain ⟨rfl, rfl⟩ := hp
  have hW : Wd Dd A s.heap ([(b, .inr (9, [.ref ae, .int 0, .int 0, .int (nI n)])), (ae, .inl (Y.2.1 0, cap, .inl f))]) H locs := hW
  refine W.eq (g2 := F0 m 10 ls [.int (nI (dec v).length), .int (nI n)]) rfl ?_
  rw [show (dec v).length = 2 from by rw [dec_2 hv]; rfl]
  refine lv_iadd hx hb dJ5_append_c97b9_10 ?_
  rw [nI_add]
  refine lv_istore_n (lv' := [(3, .int (nI (n + 2))), (2, .int (nI n)), (0, .ref b), (1, .int (nI v))]) hx hb dJ5_append_c97b9_11 rfl hl (by decide) rfl (fun ls hl => ?_)
  refine lv_aload_n hx hb dJ5_append_c97b9_12 rfl (lv_at hl 2 rfl) ?_
  refine lv_iload_n hx hb dJ5_append_c97b9_13 rfl (lv_at hl 0 rfl) ?_
  refine rU_ (As := [.int (nI (n + 2))]) (rest := []) (wc := [(b, .inr (9, [.ref ae, .int 0, .int 0, .int (nI n)])), (ae, .inl (Y.2.1 0, cap, .inl f))]) (w9 := []) X (kJ5_ensureCapacityInternal_d00df l Dd Y b ae cap (n + 2) (nI n) f h0 hc (by omega) hf) (va_cwU 1 X.1.2.2.2.2 gJ5_append_c97b9_J5_ensureCapacityInternal_d00df_u100J4 rfl rfl rfl rfl (by decide +kernel) ⟨(Nat.le_of_ble_eq_true rfl), (Nat.le_of_ble_eq_true rfl)⟩) hW (List.Perm.refl _) 0 9 rfl rfl rfl rfl hl.1 rfl (Nat.le_of_ble_eq_true rfl) dJ5_append_c97b9_14 ⟨(Nat.le_of_ble_eq_true rfl), (Nat.le_of_ble_eq_true rfl)⟩ (fun rv wq H locs hp hW => ?_)
  obtain ⟨rfl, ae', cap', f', e1, e2, e3, e4, e5, rfl⟩ := hp
  have hW : Wd Dd A s.heap ([(b, .inr (9, [.ref ae', .int 0, .int 0, .int (nI n)])), (ae', .inl (Y.2.1 0, cap', .inl f'))]) H locs := hW
  refine W.eq (g2 := F0 m 17 ls []) rfl ?_
  refine lv_aload_n hx hb dJ5_append_c97b9_17 rfl (lv_at hl 2 rfl) ?_
  refine rU_ (As := []) (rest := []) (wc := [(b, .inr (9, [.ref ae', .int 0, .int 0, .int (nI n)]))]) (w9 := [(ae', .inl (Y.2.1 0, cap', .inl f'))]) X (kJ5_isLatin1_aae02 l Dd Y b (.ref ae') (nI n)) (va_cwU 0 X.1.2.2.2.2 gJ5_append_c97b9_J5_isLatin1_aae02_u83J4 rfl rfl rfl rfl (by decide +kernel) ⟨(Nat.le_of_ble_eq_true rfl), (Nat.le_of_ble_eq_true rfl)⟩) hW (List.Perm.refl _) 0 9 rfl rfl rfl rfl hl.1 rfl (Nat.le_of_ble_eq_true rfl) dJ5_append_c97b9_18 ⟨(Nat.le_of_ble_eq_true rfl), (Nat.le_of_ble_eq_true rfl)⟩ (fun rv wq H locs hp hW => ?_)
  obtain ⟨rfl, rfl⟩ := hp
  have hW : Wd Dd A s.heap ([(b, .inr (9, [.ref ae', .int 0, .int 0, .int (nI n)])), (ae', .inl (Y.2.1 0, cap', .inl f'))]) H locs := hW
  refine W.eq (g2 := F0 m 21 ls [.int 1]) rfl ?_
  refine lv_if_eq (tgt := 37) hx hb dJ5_append_c97b9_21 (by decide) (fun h => absurd h (by decide)) (fun _ => ?_)
  refine lv_iload_n hx hb dJ5_append_c97b9_24 rfl (lv_at hl 3 rfl) ?_
  refine lv_iload_n hx hb dJ5_append_c97b9_25 rfl (lv_at hl 0 rfl) ?_
  refine lv_aload_n hx hb dJ5_append_c97b9_26 rfl (lv_at hl 2 rfl) ?_
  refine g_ X hinJ4 hW 0 rfl rfl 0 (by decide) 2 rfl rfl rfl dJ5_append_c97b9_27 ?_
  refine rS_ (As := [.int (nI v), .int (nI (n + 2)), .ref ae']) (rest := []) (wc := [(ae', .inl (Y.2.1 0, cap', .inl f'))]) (w9 := [(b, .inr (9, [.ref ae', .int 0, .int 0, .int (nI n)]))]) X (kChars2 l Dd Y v n ae' cap' f' hv hv2 e2 (by omega)) (va_cwS 3 X.1.2.2.2.2 gJ5_append_c97b9_J6_getChars_ba4f3 rfl rfl rfl (by decide +kernel) ⟨(Nat.le_of_ble_eq_true rfl), (Nat.le_of_ble_eq_true rfl)⟩) hW (pmq5 _ _) rfl hl.1 rfl (Nat.le_of_ble_eq_true rfl) dJ5_append_c97b9_30 ⟨(Nat.le_of_ble_eq_true rfl), (Nat.le_of_ble_eq_true rfl)⟩ (fun rv wq H locs hp hW => ?_)
  obtain ⟨⟨r9, rfl⟩, rfl⟩ := hp
  have hW : Wd Dd A s.heap ([(ae', .inl (Y.2.1 0, cap', .inl (upd (upd f' (n + 1) (nI (48 + v % 10))) (n + 0) (nI (48 + v / 10))))), (b, .inr (9, [.ref ae', .int 0, .int 0, .int (nI n)]))]) H locs := hW
  refine W.eq (g2 := F0 m 33 ls [.int r9]) rfl ?_
  have hW : Wd Dd A s.heap ([(b, .inr (9, [.ref ae', .int 0, .int 0, .int (nI n)])), (ae', .inl (Y.2.1 0, cap', .inl (upd (upd f' (n + 1) (nI (48 + v % 10))) (n + 0) (nI (48 + v / 10)))))]) H locs := hW.permA (pmq7 _ _)
  refine lv_pop hx hb dJ5_append_c97b9_33 rfl ?_
  refine lv_goto (tgt := 48) hx hb dJ5_append_c97b9_34 (by decide) ?_
  refine lv_aload_n hx hb dJ5_append_c97b9_48 rfl (lv_at hl 2 rfl) ?_
  refine lv_iload_n hx hb dJ5_append_c97b9_49 rfl (lv_at hl 0 rfl) ?_
  refine p_ (ty := .int) X hinJ4 tyJ4 tyJ4_ok nmJ4 hW 0 rfl rfl 3 (by decide) 1 rfl rfl rfl (by decide +kernel) rfl rfl (Nat.le_of_ble_eq_true rfl) dJ5_append_c97b9_50 (ws' := [(b, .inr (9, [.ref ae', .int 0, .int 0, .int (nI (n + 2))])), (ae', .inl (Y.2.1 0, cap', .inl (upd (upd f' (n + 1) (nI (48 + v % 10))) (n + 0) (nI (48 + v / 10)))))]) rfl (fun H locs hW => ?_)
  refine lv_aload_n hx hb dJ5_append_c97b9_53 rfl (lv_at hl 2 rfl) ?_
  exact hA _ _ _ _ _ _ (some b) _ _ ⟨rfl, ae', cap', f', e1, e2, e3, e4, e5, rfl⟩ rfl (Or.inl ⟨_, rfl⟩) (Nat.le_of_ble_eq_true rfl) (Nat.le_of_ble_eq_true rfl) hW dJ5_append_c97b9_54
theorem BT_d1 {T : List Nat} {f : Nat → Int32} {v : Nat} (h : BT T f) (hv : v < 10) : BT (T ++ dec v) (upd f (T.length + 0) (nI (48 + v % 10))) := by
  rw [dec_1 hv, Nat.add_zero, Nat.mod_eq_of_lt hv]
  exact BT_snoc h (by omega)
theorem upd_swap (f : Nat → Int32) {a b : Nat} (h : a ≠ b) (x y : Int32) : upd (upd f a x) b y = upd (upd f b y) a x := by
  funext j
  by_cases e : j = a
  · subst e; rw [pk_un h, pk_us, pk_us]
  · by_cases e2 : j = b
    · subst e2; rw [pk_us, pk_un e, pk_us]
    · rw [pk_un e2, pk_un e, pk_un e, pk_un e2]
theorem BT_d2 {T : List Nat} {f : Nat → Int32} {v : Nat} (h : BT T f) (hv : 10 ≤ v) (hv2 : v < 100) : BT (T ++ dec v) (upd (upd f (T.length + 1) (nI (48 + v % 10))) (T.length + 0) (nI (48 + v / 10))) := by
  rw [dec_2 hv, Nat.add_zero, upd_swap f (by omega) _ _]
  have k1 := BT_snoc (c := 48 + v / 10) h (by omega)
  have k2 := BT_snoc (c := 48 + v % 10) k1 (by omega)
  rw [List.length_append, List.length_singleton, List.append_assoc] at k2
  exact k2
abbrev rmJ4_append_bf812 : Room := { frames := 5, cells := 1, slots := 5000, locals := 114 }
set_option maxRecDepth 100000 in
set_option maxHeartbeats 4000000 in
theorem kJ4_append_bf812 (l : Launch) (Dd : va_G) (Y : yT) (b v : Nat) (T : List Nat) (w0 : va_W) (hS : WSB Y b T w0) (hv : v < 10) (hv2 : v < 100) (hq : T.length + 2 ≤ 300) : MR l yJ4_append_bf812 wsJ4_append_bf812 rmJ4_append_bf812 Dd Y [.ref b, .int (nI v)] (w0) (fun rv w => rv = some (.ref b) ∧ WSB Y b (T ++ dec v) w) 1 5000 := by
  obtain ⟨ae, cap, f, h0, h1, h2, hB, rfl⟩ := hS
  refine MRk (cc := cJ4_append_bf812) (maxL := 2) (ret := (some (.object "java/lang/StringBuilder"))) (by decide) rfl (Nat.le_of_ble_eq_true rfl) (fun {p₀ e₀ s m args below meth c₀ A} ls Q X hin hW hl hI hV hA => ?_)
  have hx := X.x
  have hb := X.b
  have hl : lv_has ls 2 [(0, .ref b), (1, .int (nI v))] := hl
  refine lv_aload_n hx hb dJ4_append_bf812_0 rfl (lv_at hl 0 rfl) ?_
  refine lv_iload_n hx hb dJ4_append_bf812_1 rfl (lv_at hl 1 rfl) ?_
  refine rX_ (As := [.int (nI v)]) (rest := []) (wc := [(b, .inr (9, [.ref ae, .int 0, .int 0, .int (nI T.length)])), (ae, .inl (Y.2.1 0, cap, .inl f))]) (w9 := []) X (kJ5_append_c97b9 l Dd Y b ae cap T.length v f h0 h2 hB.1 hv hv2 hq) (va_cwSU 1 X.1.2.2.2.2 gJ4_append_bf812_J5_append_c97b9_s53 rfl rfl rfl (by decide +kernel) ⟨(Nat.le_of_ble_eq_true rfl), (Nat.le_of_ble_eq_true rfl)⟩) hW (List.Perm.refl _) 0 9 rfl rfl rfl hl.1 rfl (Nat.le_of_ble_eq_true rfl) dJ4_append_bf812_2 ⟨(Nat.le_of_ble_eq_true rfl), (Nat.le_of_ble_eq_true rfl)⟩ (fun rv wq H locs hp hW => ?_)
  obtain ⟨rfl, ae', cap', f', e1, e2, e3, e4, e5, rfl⟩ := hp
  have hW : Wd Dd A s.heap ([(b, .inr (9, [.ref ae', .int 0, .int 0, .int (nI (T.length + 1))])), (ae', .inl (Y.2.1 0, cap', .inl (upd f' (T.length + 0) (nI (48 + v % 10)))))]) H locs := hW
  refine W.eq (g2 := F0 m 5 ls [.ref b]) rfl ?_
  refine lv_pop hx hb dJ4_append_bf812_5 rfl ?_
  refine lv_aload_n hx hb dJ4_append_bf812_6 rfl (lv_at hl 0 rfl) ?_
  exact hA _ _ _ _ _ _ (some b) _ _ ⟨rfl, ae', cap', _, by omega, by rw [List.length_append, dec_1 hv]; exact e2, by omega, BT_d1 (BT_keep hB e4 (fun j hj => e5 j (by omega))) hv, by rw [List.length_append, dec_1 hv]; rfl⟩ rfl (Or.inl ⟨_, rfl⟩) (Nat.le_of_ble_eq_true rfl) (Nat.le_of_ble_eq_true rfl) hW dJ4_append_bf812_7
set_option maxRecDepth 100000 in
set_option maxHeartbeats 4000000 in
theorem kInt4 (l : Launch) (Dd : va_G) (Y : yT) (b v : Nat) (T : List Nat) (w0 : va_W) (hS : WSB Y b T w0) (hv : 10 ≤ v) (hv2 : v < 100) (hq : T.length + 2 ≤ 300) : MR l yJ4_append_bf812 wsJ4_append_bf812 rmJ4_append_bf812 Dd Y [.ref b, .int (nI v)] (w0) (fun rv w => rv = some (.ref b) ∧ WSB Y b (T ++ dec v) w) 1 5000 := by
  obtain ⟨ae, cap, f, h0, h1, h2, hB, rfl⟩ := hS
  refine MRk (cc := cJ4_append_bf812) (maxL := 2) (ret := (some (.object "java/lang/StringBuilder"))) (by decide) rfl (Nat.le_of_ble_eq_true rfl) (fun {p₀ e₀ s m args below meth c₀ A} ls Q X hin hW hl hI hV hA => ?_)
  have hx := X.x
  have hb := X.b
  have hl : lv_has ls 2 [(0, .ref b), (1, .int (nI v))] := hl
  refine lv_aload_n hx hb dJ4_append_bf812_0 rfl (lv_at hl 0 rfl) ?_
  refine lv_iload_n hx hb dJ4_append_bf812_1 rfl (lv_at hl 1 rfl) ?_
  refine rX_ (As := [.int (nI v)]) (rest := []) (wc := [(b, .inr (9, [.ref ae, .int 0, .int 0, .int (nI T.length)])), (ae, .inl (Y.2.1 0, cap, .inl f))]) (w9 := []) X (kInt2 l Dd Y b ae cap T.length v f h0 h2 hB.1 hv hv2 hq) (va_cwSU 1 X.1.2.2.2.2 gJ4_append_bf812_J5_append_c97b9_s53 rfl rfl rfl (by decide +kernel) ⟨(Nat.le_of_ble_eq_true rfl), (Nat.le_of_ble_eq_true rfl)⟩) hW (List.Perm.refl _) 0 9 rfl rfl rfl hl.1 rfl (Nat.le_of_ble_eq_true rfl) dJ4_append_bf812_2 ⟨(Nat.le_of_ble_eq_true rfl), (Nat.le_of_ble_eq_true rfl)⟩ (fun rv wq H locs hp hW => ?_)
  obtain ⟨rfl, ae', cap', f', e1, e2, e3, e4, e5, rfl⟩ := hp
  have hW : Wd Dd A s.heap ([(b, .inr (9, [.ref ae', .int 0, .int 0, .int (nI (T.length + 2))])), (ae', .inl (Y.2.1 0, cap', .inl (upd (upd f' (T.length + 1) (nI (48 + v % 10))) (T.length + 0) (nI (48 + v / 10)))))]) H locs := hW
  refine W.eq (g2 := F0 m 5 ls [.ref b]) rfl ?_
  refine lv_pop hx hb dJ4_append_bf812_5 rfl ?_
  refine lv_aload_n hx hb dJ4_append_bf812_6 rfl (lv_at hl 0 rfl) ?_
  exact hA _ _ _ _ _ _ (some b) _ _ ⟨rfl, ae', cap', _, by omega, by rw [List.length_append, dec_2 hv]; exact e2, by omega, BT_d2 (BT_keep hB e4 (fun j hj => e5 j (by omega))) hv hv2, by rw [List.length_append, dec_2 hv]; rfl⟩ rfl (Or.inl ⟨_, rfl⟩) (Nat.le_of_ble_eq_true rfl) (Nat.le_of_ble_eq_true rfl) hW dJ4_append_bf812_7
theorem kAppI (l : Launch) (Dd : va_G) (Y : yT) (b v : Nat) (T : List Nat) (w0 : va_W) (hS : WSB Y b T w0) (hv2 : v < 100) (hq : T.length + 2 ≤ 300) : MR l yJ4_append_bf812 wsJ4_append_bf812 rmJ4_append_bf812 Dd Y [.ref b, .int (nI v)] w0 (fun rv w => rv = some (.ref b) ∧ WSB Y b (T ++ dec v) w) 1 5000 := by
  rcases Nat.lt_or_ge v 10 with q | q
  · exact kJ4_append_bf812 l Dd Y b v T w0 hS q hv2 hq
  · exact kInt4 l Dd Y b v T w0 hS q hv2 hq
abbrev rmJ7_checkLength_df160 : Room := { frames := 0, cells := 0, slots := 0, locals := 0 }
set_option maxRecDepth 100000 in
set_option maxHeartbeats 4000000 in
theorem kJ7_checkLength_df160 (l : Launch) (Dd : va_G) (Y : yT) (n : Nat) (hn : n < 2 ^ 31) : MR l yJ7_checkLength_df160 wsJ7_checkLength_df160 rmJ7_checkLength_df160 Dd Y [.int 0, .int (nI n)] ([]) (fun rv w => rv = none ∧ w = []) 0 0 := by
  refine MRk (cc := cJ7_checkLength_df160) (maxL := 2) (ret := none) (by decide) rfl (Nat.le_of_ble_eq_true rfl) (fun {p₀ e₀ s m args below meth c₀ A} ls Q X hin hW hl hI hV hA => ?_)
  have hx := X.x
  have hb := X.b
  have hl : lv_has ls 2 [(0, .int 0), (1, .int (nI n))] := hl
  refine lv_iload_n hx hb dJ7_checkLength_df160_0 rfl (lv_at hl 1 rfl) ?_
  refine lv_iload_n hx hb dJ7_checkLength_df160_1 rfl (lv_at hl 0 rfl) ?_
  refine lv_icmp_ge (tgt := 37) hx hb dJ7_checkLength_df160_2 (by decide) (fun _ => ?_) (fun h => absurd (nI_pos' (by omega)) h)
  exact hV _ _ _ _ _ _ _ ⟨rfl, rfl⟩ rfl (Nat.le_of_ble_eq_true rfl) (Nat.le_of_ble_eq_true rfl) hW dJ7_checkLength_df160_37
abbrev rmJ7_copyOfRangeByte_39247 : Room := { frames := 1, cells := 1, slots := 1000, locals := 26 }
set_option maxRecDepth 100000 in
set_option maxHeartbeats 4000000 in
theorem kJ7_copyOfRangeByte_39247 (l : Launch) (Dd : va_G) (Y : yT) (ae cap n : Nat) (f : Nat → Int32) (hn : n ≤ cap) (hc : cap ≤ 1000) (hf : sb_Fit f) : MR l yJ7_copyOfRangeByte_39247 wsJ7_copyOfRangeByte_39247 rmJ7_copyOfRangeByte_39247 Dd Y [.ref ae, .int 0, .int (nI n)] ([(ae, .inl (Y.2.1 0, cap, .inl f))]) (fun rv w => ∃ (q : Nat) (g : Nat → Int32), rv = some (.ref q) ∧ sb_Fit g ∧ (∀ j : Nat, j < n → g j = f j) ∧ w = [(ae, .inl (Y.2.1 0, cap, .inl f)), (q, .inl (Y.2.1 0, n, .inl g))]) 1 1000 := by
  refine MRk (cc := cJ7_copyOfRangeByte_39247) (maxL := 5) (ret := (some (.array .byte))) (by decide) rfl (Nat.le_of_ble_eq_true rfl) (fun {p₀ e₀ s m args below meth c₀ A} ls Q X hin hW hl hI hV hA => ?_)
  have hx := X.x
  have hb := X.b
  have hl : lv_has ls 5 [(0, .ref ae), (1, .int 0), (2, .int (nI n))] := hl
  have hms : 0 + n ≤ 1000 := by omega
  refine lv_iload_n hx hb dJ7_copyOfRangeByte_39247_0 rfl (lv_at hl 1 rfl) ?_
  refine lv_iload_n hx hb dJ7_copyOfRangeByte_39247_1 rfl (lv_at hl 2 rfl) ?_
  refine rS_ (As := [.int 0, .int (nI n)]) (rest := []) (wc := []) (w9 := [(ae, .inl (Y.2.1 0, cap, .inl f))]) X (kJ7_checkLength_df160 l Dd Y n (by omega)) (va_cwS 2 X.1.2.2.2.2 gJ7_copyOfRangeByte_39247_J7_checkLength_df160 rfl rfl rfl (by decide +kernel) ⟨(Nat.le_of_ble_eq_true rfl), (Nat.le_of_ble_eq_true rfl)⟩) hW (List.Perm.refl _) rfl hl.1 rfl (Nat.le_of_ble_eq_true rfl) dJ7_copyOfRangeByte_39247_2 ⟨(Nat.le_of_ble_eq_true rfl), (Nat.le_of_ble_eq_true rfl)⟩ (fun rv wq H locs hp hW => ?_)
  obtain ⟨rfl, rfl⟩ := hp
  have hW : Wd Dd A s.heap ([(ae, .inl (Y.2.1 0, cap, .inl f))]) H locs := hW
  refine W.eq (g2 := F0 m 5 ls []) rfl ?_
  refine lv_iload_n hx hb dJ7_copyOfRangeByte_39247_5 rfl (lv_at hl 2 rfl) ?_
  refine lv_iload_n hx hb dJ7_copyOfRangeByte_39247_6 rfl (lv_at hl 1 rfl) ?_
  refine lv_isub hx hb dJ7_copyOfRangeByte_39247_7 ?_
  rw [show nI n - 0 = nI n from pk_sub (b := 0) (Nat.zero_le _)]
  refine lv_istore_n (lv' := [(3, .int (nI n)), (0, .ref ae), (1, .int 0), (2, .int (nI n))]) hx hb dJ7_copyOfRangeByte_39247_8 rfl hl (by decide) rfl (fun ls hl => ?_)
  refine lv_iload_n hx hb dJ7_copyOfRangeByte_39247_9 rfl (lv_at hl 0 rfl) ?_
  refine nb_ (N' := n) X 1 rfl hW (nI_pos (by omega)) (nI_clamp (by omega)) (by omega) (Nat.le_of_ble_eq_true rfl) hms dJ7_copyOfRangeByte_39247_10 (fun q H hW => ?_)
  have hW : Wd Dd A s.heap ([(ae, .inl (Y.2.1 0, cap, .inl f)), (q, .inl (Y.2.1 0, n, .inl (fun _ => 0)))]) _ _ := hW
  refine lv_astore (lv' := [(4, .ref q), (3, .int (nI n)), (0, .ref ae), (1, .int 0), (2, .int (nI n))]) hx hb dJ7_copyOfRangeByte_39247_12 hl (by decide) rfl (fun ls hl => ?_)
  refine lv_aload_n hx hb dJ7_copyOfRangeByte_39247_14 rfl (lv_at hl 2 rfl) ?_
  refine lv_iload_n hx hb dJ7_copyOfRangeByte_39247_15 rfl (lv_at hl 3 rfl) ?_
  refine lv_aload hx hb dJ7_copyOfRangeByte_39247_16 (lv_at hl 0 rfl) ?_
  refine lv_iconst (v := 0) hx hb dJ7_copyOfRangeByte_39247_18 (by decide) ?_
  refine lv_aload_n hx hb dJ7_copyOfRangeByte_39247_19 rfl (lv_at hl 2 rfl) ?_
  refine len_ (v := nI cap) X hW 0 1 rfl rfl rfl dJ7_copyOfRangeByte_39247_20 ?_
  refine lv_iload_n hx hb dJ7_copyOfRangeByte_39247_21 rfl (lv_at hl 3 rfl) ?_
  refine lv_isub hx hb dJ7_copyOfRangeByte_39247_22 ?_
  rw [show nI cap - 0 = nI cap from pk_sub (b := 0) (Nat.zero_le _)]
  refine lv_iload_n hx hb dJ7_copyOfRangeByte_39247_23 rfl (lv_at hl 1 rfl) ?_
  refine min_ X hl.1 2 3 4 5 rfl rfl rfl rfl ⟨(Nat.le_of_ble_eq_true rfl), (Nat.le_of_ble_eq_true rfl)⟩ (Nat.le_of_ble_eq_true rfl) ⟨(Nat.le_of_ble_eq_true rfl), hms⟩ dJ7_copyOfRangeByte_39247_24 ?_
  rw [show (if nI n < nI cap then nI n else nI cap) = nI n from if q : n < cap then if_pos (nI_lt q (by omega)) else (by rw [if_neg (nI_nlt (by omega) (by omega)), show cap = n from by omega])]
  refine cpb_ X hl.1 6 7 8 9 rfl rfl rfl rfl ⟨(Nat.le_of_ble_eq_true rfl), (Nat.le_of_ble_eq_true rfl)⟩ (Nat.le_of_ble_eq_true rfl) hW 0 1 rfl rfl (sp' := 0) (dp' := 0) (n' := n) rfl rfl rfl (by omega) (by omega) (by omega) (by omega) (fun i _ => hf _) dJ7_copyOfRangeByte_39247_27 (ws' := [(ae, .inl (Y.2.1 0, cap, .inl f)), (q, .inl (Y.2.1 0, n, .inl (va_cpy f (fun _ => 0) 0 0 n)))]) rfl (fun H locs hW => ?_)
  refine lv_aload hx hb dJ7_copyOfRangeByte_39247_30 (lv_at hl 0 rfl) ?_
  exact hA _ _ _ _ _ _ (some q) _ _ ⟨q, _, rfl, sb_fitC hf sb_fit0, fun j hj => sb_cpy0 hj, rfl⟩ rfl (Or.inr ⟨_, rfl⟩) (Nat.le_of_ble_eq_true rfl) hms hW dJ7_copyOfRangeByte_39247_32
theorem fit_arr {c : ClassId} {n : Nat} {f : Nat → Int32} (hf : sb_Fit f) (i : Nat) (v : Value) (h : (vp_cell c (n, .inl f)).slots[i]? = some v) : fits .byte v = true := by
  rw [vp_cell_i] at h
  have hs : (arrV c n (fun j => Value.int (f j))).slots.size = n := arrV_size _ _ _
  have hi : i < n := by
    have := (Array.getElem?_eq_some_iff.mp h).1
    omega
  rw [arrV_read _ _ hi] at h
  cases h
  exact hf i
abbrev rmJ7_copyOfRange_39247 : Room := { frames := 2, cells := 1, slots := 1000, locals := 50 }
set_option maxRecDepth 100000 in
set_option maxHeartbeats 4000000 in
theorem kJ7_copyOfRange_39247 (l : Launch) (Dd : va_G) (Y : yT) (ae cap n : Nat) (f : Nat → Int32) (hn : n ≤ cap) (hc : cap ≤ 1000) (hf : sb_Fit f) : MR l yJ7_copyOfRange_39247 wsJ7_copyOfRange_39247 rmJ7_copyOfRange_39247 Dd Y [.ref ae, .int 0, .int (nI n)] ([(ae, .inl (Y.2.1 0, cap, .inl f))]) (fun rv w => ∃ (q : Nat) (g : Nat → Int32), rv = some (.ref q) ∧ sb_Fit g ∧ (∀ j : Nat, j < n → g j = f j) ∧ w = [(ae, .inl (Y.2.1 0, cap, .inl f)), (q, .inl (Y.2.1 0, n, .inl g))]) 1 1000 := by
  refine MRk (cc := cJ7_copyOfRange_39247) (maxL := 3) (ret := (some (.array .byte))) (by decide) rfl (Nat.le_of_ble_eq_true rfl) (fun {p₀ e₀ s m args below meth c₀ A} ls Q X hin hW hl hI hV hA => ?_)
  have hx := X.x
  have hb := X.b
  have hl : lv_has ls 3 [(0, .ref ae), (1, .int 0), (2, .int (nI n))] := hl
  have hms : 0 + n ≤ 1000 := by omega
  refine lv_iload_n hx hb dJ7_copyOfRange_39247_0 rfl (lv_at hl 1 rfl) ?_
  refine lv_if_ne (tgt := 10) hx hb dJ7_copyOfRange_39247_1 (by decide) (fun h => absurd h (fun g => g rfl)) (fun _ => ?_)
  refine lv_iload_n hx hb dJ7_copyOfRange_39247_4 rfl (lv_at hl 2 rfl) ?_
  refine lv_aload_n hx hb dJ7_copyOfRange_39247_5 rfl (lv_at hl 0 rfl) ?_
  refine len_ (v := nI cap) X hW 0 1 rfl rfl rfl dJ7_copyOfRange_39247_6 ?_
  refine lv_icmp_eq (tgt := 17) hx hb dJ7_copyOfRange_39247_7 (by decide) (fun cq => ?_) (fun cq => ?_)
  · obtain rfl : n = cap := (nI_eq (by omega) (by omega)).mp cq
    refine lv_aload_n hx hb dJ7_copyOfRange_39247_17 rfl (lv_at hl 0 rfl) ?_
    refine va_clone hx hb (X.1.2.2.1.trans hl.1.symm) X.1.2.2.2.1 (X.w (i := 1) rfl) (X.w (i := 2) rfl) (X.w (i := 3) rfl) (X.w (i := 4) rfl) (X.w (i := 5) rfl) (X.2.2.2.1.2.2.2.2.2.1.2.2.2.1 ("[B", "java/lang/Cloneable") (by decide +kernel)) X.2.1 hW.1 hW.2.1 hW.2.2 X.2.2.1 0 1 rfl rfl (X.2.1.2 1 (Y.2.1 0, .byte) rfl).2 (fit_arr hf) (Nat.le_of_ble_eq_true rfl) (Nat.le_of_ble_eq_true rfl) (Nat.le_of_ble_eq_true rfl) hms dJ7_copyOfRange_39247_18 (fun q H hK9 h1 h2 h3 => ?_)
    have hW : Wd Dd A s.heap ([(ae, .inl (Y.2.1 0, n, .inl f)), (q, .inl (Y.2.1 0, n, .inl f))]) H [] := ⟨h1, h2, h3⟩
    refine va_castA hx hb X.1.2.2.2.1 (X.w (i := 6) rfl) hW.1 1 rfl (X.2.1.2 1 (Y.2.1 0, .byte) rfl).2 dJ7_copyOfRange_39247_21 ?_
    exact hA _ _ _ _ _ _ (some q) _ _ ⟨q, f, rfl, hf, fun _ _ => rfl, rfl⟩ rfl (Or.inr ⟨_, rfl⟩) (Nat.le_of_ble_eq_true rfl) hms hW dJ7_copyOfRange_39247_24
  · refine lv_aload_n hx hb dJ7_copyOfRange_39247_10 rfl (lv_at hl 0 rfl) ?_
    refine lv_iload_n hx hb dJ7_copyOfRange_39247_11 rfl (lv_at hl 1 rfl) ?_
    refine lv_iload_n hx hb dJ7_copyOfRange_39247_12 rfl (lv_at hl 2 rfl) ?_
    refine rS_ (As := [.ref ae, .int 0, .int (nI n)]) (rest := []) (wc := [(ae, .inl (Y.2.1 0, cap, .inl f))]) (w9 := []) X (kJ7_copyOfRangeByte_39247 l Dd Y ae cap n f hn hc hf) (va_cwS 3 X.1.2.2.2.2 gJ7_copyOfRange_39247_J7_copyOfRangeByte_39247 rfl rfl rfl (by decide +kernel) ⟨(Nat.le_of_ble_eq_true rfl), (Nat.le_of_ble_eq_true rfl)⟩) hW (List.Perm.refl _) rfl hl.1 rfl (Nat.le_of_ble_eq_true rfl) dJ7_copyOfRange_39247_13 ⟨(Nat.le_of_ble_eq_true rfl), (Nat.le_of_ble_eq_true rfl)⟩ (fun rv wq H locs hp hW => ?_)
    obtain ⟨q, g, rfl, h4, h5, rfl⟩ := hp
    have hW : Wd Dd A s.heap ([(ae, .inl (Y.2.1 0, cap, .inl f)), (q, .inl (Y.2.1 0, n, .inl g))]) H locs := hW
    refine W.eq (g2 := F0 m 16 ls [.ref q]) rfl ?_
    exact hA _ _ _ _ _ _ (some q) _ _ ⟨q, g, rfl, h4, h5, rfl⟩ rfl (Or.inr ⟨_, rfl⟩) (Nat.le_of_ble_eq_true rfl) (Nat.le_of_ble_eq_true rfl) hW dJ7_copyOfRange_39247_16
abbrev rmJ0_init_db425 : Room := { frames := 3, cells := 1, slots := 1000, locals := 72 }
set_option maxRecDepth 100000 in
set_option maxHeartbeats 4000000 in
theorem kJ0_init_db425 (l : Launch) (Dd : va_G) (Y : yT) (s0 b ae cap n : Nat) (f : Nat → Int32) (hn : n ≤ cap) (hc : cap ≤ 1000) (hf : sb_Fit f) : MR l yJ0_init_db425 wsJ0_init_db425 rmJ0_init_db425 Dd Y [.ref s0, .ref b, .null] ([(s0, .inr (8, [.null, .int 0, .int 0, .int 0])), (b, .inr (9, [.ref ae, .int 0, .int 0, .int (nI n)])), (ae, .inl (Y.2.1 0, cap, .inl f))]) (fun rv w => rv = none ∧ ∃ (q : Nat) (g : Nat → Int32), sb_Fit g ∧ (∀ j : Nat, j < n → g j = f j) ∧ w = [(s0, .inr (8, [.ref q, .int 0, .int 0, .int 0])), (b, .inr (9, [.ref ae, .int 0, .int 0, .int (nI n)])), (ae, .inl (Y.2.1 0, cap, .inl f)), (q, .inl (Y.2.1 0, n, .inl g))]) 1 1000 := by
  refine MRk (cc := cJ0_init_db425) (maxL := 5) (ret := none) (by decide) rfl (Nat.le_of_ble_eq_true rfl) (fun {p₀ e₀ s m args below meth c₀ A} ls Q X hin hW hl hI hV hA => ?_)
  have hx := X.x
  have hb := X.b
  have hl : lv_has ls 5 [(0, .ref s0), (1, .ref b), (2, .null)] := hl
  have hinJ0 : ∀ w ∈ wsJ00, w ∈ wsJ0_init_db425 := fun w h => List.mem_cons_of_mem _ (List.mem_append_left _ (List.mem_append_right _ h))
  refine lv_aload_n hx hb dJ0_init_db425_0 rfl (lv_at hl 0 rfl) ?_
  refine W.objInit hx hb X.1.2.2.2.1 (X.w (i := 1) rfl) (X.w (i := 2) rfl) (X.w (i := 3) rfl) rfl (by rw [X.1.2.2.1]; exact hl.1) rfl dJ0_init_db425_1 (Nat.le_of_ble_eq_true rfl) (Nat.le_of_ble_eq_true rfl) ?_
  refine W.eq (g2 := F0 m 4 ls []) rfl ?_
  refine lv_aload_n hx hb dJ0_init_db425_4 rfl (lv_at hl 1 rfl) ?_
  refine rU_ (As := []) (rest := []) (wc := [(b, .inr (9, [.ref ae, .int 0, .int 0, .int (nI n)]))]) (w9 := [(s0, .inr (8, [.null, .int 0, .int 0, .int 0])), (ae, .inl (Y.2.1 0, cap, .inl f))]) X (kJ5_getValue_6d5f1 l Dd Y b ae (nI n)) (va_cwU 0 X.1.2.2.2.2 gJ0_init_db425_J5_getValue_6d5f1_u552J4 rfl rfl rfl rfl (by decide +kernel) ⟨(Nat.le_of_ble_eq_true rfl), (Nat.le_of_ble_eq_true rfl)⟩) hW (pmq8 _ _ _) 0 9 rfl rfl rfl rfl hl.1 rfl (Nat.le_of_ble_eq_true rfl) dJ0_init_db425_5 ⟨(Nat.le_of_ble_eq_true rfl), (Nat.le_of_ble_eq_true rfl)⟩ (fun rv wq H locs hp hW => ?_)
  obtain ⟨rfl, rfl⟩ := hp
  have hW : Wd Dd A s.heap ([(b, .inr (9, [.ref ae, .int 0, .int 0, .int (nI n)])), (s0, .inr (8, [.null, .int 0, .int 0, .int 0])), (ae, .inl (Y.2.1 0, cap, .inl f))]) H locs := hW
  refine W.eq (g2 := F0 m 8 ls [.ref ae]) rfl ?_
  have hW : Wd Dd A s.heap ([(s0, .inr (8, [.null, .int 0, .int 0, .int 0])), (b, .inr (9, [.ref ae, .int 0, .int 0, .int (nI n)])), (ae, .inl (Y.2.1 0, cap, .inl f))]) H locs := hW.permA (pmq9 _ _ _)
  refine lv_astore_n (lv' := [(3, .ref ae), (0, .ref s0), (1, .ref b), (2, .null)]) hx hb dJ0_init_db425_8 rfl hl (by decide) rfl (fun ls hl => ?_)
  refine lv_aload_n hx hb dJ0_init_db425_9 rfl (lv_at hl 2 rfl) ?_
  refine rU_ (As := []) (rest := []) (wc := [(b, .inr (9, [.ref ae, .int 0, .int 0, .int (nI n)]))]) (w9 := [(s0, .inr (8, [.null, .int 0, .int 0, .int 0])), (ae, .inl (Y.2.1 0, cap, .inl f))]) X (kJ4_length_8abf5 l Dd Y b (.ref ae) (nI n)) (va_cwO 0 X.1.2.2.2.2 gJ0_init_db425_J4_length_8abf5_u549J4 rfl rfl rfl (List.mem_of_getElem? (i := 25) rfl) (by decide +kernel) ⟨(Nat.le_of_ble_eq_true rfl), (Nat.le_of_ble_eq_true rfl)⟩) hW (pmq8 _ _ _) 0 9 rfl rfl rfl rfl hl.1 rfl (Nat.le_of_ble_eq_true rfl) dJ0_init_db425_10 ⟨(Nat.le_of_ble_eq_true rfl), (Nat.le_of_ble_eq_true rfl)⟩ (fun rv wq H locs hp hW => ?_)
  obtain ⟨rfl, rfl⟩ := hp
  have hW : Wd Dd A s.heap ([(b, .inr (9, [.ref ae, .int 0, .int 0, .int (nI n)])), (s0, .inr (8, [.null, .int 0, .int 0, .int 0])), (ae, .inl (Y.2.1 0, cap, .inl f))]) H locs := hW
  refine W.eq (g2 := F0 m 13 ls [.int (nI n)]) rfl ?_
  have hW : Wd Dd A s.heap ([(s0, .inr (8, [.null, .int 0, .int 0, .int 0])), (b, .inr (9, [.ref ae, .int 0, .int 0, .int (nI n)])), (ae, .inl (Y.2.1 0, cap, .inl f))]) H locs := hW.permA (pmq9 _ _ _)
  refine lv_istore (lv' := [(4, .int (nI n)), (3, .ref ae), (0, .ref s0), (1, .ref b), (2, .null)]) hx hb dJ0_init_db425_13 hl (by decide) rfl (fun ls hl => ?_)
  refine lv_aload_n hx hb dJ0_init_db425_15 rfl (lv_at hl 3 rfl) ?_
  refine rU_ (As := []) (rest := []) (wc := [(b, .inr (9, [.ref ae, .int 0, .int 0, .int (nI n)]))]) (w9 := [(s0, .inr (8, [.null, .int 0, .int 0, .int 0])), (ae, .inl (Y.2.1 0, cap, .inl f))]) X (kJ5_isLatin1_aae02 l Dd Y b (.ref ae) (nI n)) (va_cwU 0 X.1.2.2.2.2 gJ0_init_db425_J5_isLatin1_aae02_u1047J4 rfl rfl rfl rfl (by decide +kernel) ⟨(Nat.le_of_ble_eq_true rfl), (Nat.le_of_ble_eq_true rfl)⟩) hW (pmq8 _ _ _) 0 9 rfl rfl rfl rfl hl.1 rfl (Nat.le_of_ble_eq_true rfl) dJ0_init_db425_16 ⟨(Nat.le_of_ble_eq_true rfl), (Nat.le_of_ble_eq_true rfl)⟩ (fun rv wq H locs hp hW => ?_)
  obtain ⟨rfl, rfl⟩ := hp
  have hW : Wd Dd A s.heap ([(b, .inr (9, [.ref ae, .int 0, .int 0, .int (nI n)])), (s0, .inr (8, [.null, .int 0, .int 0, .int 0])), (ae, .inl (Y.2.1 0, cap, .inl f))]) H locs := hW
  refine W.eq (g2 := F0 m 19 ls [.int 1]) rfl ?_
  have hW : Wd Dd A s.heap ([(s0, .inr (8, [.null, .int 0, .int 0, .int 0])), (b, .inr (9, [.ref ae, .int 0, .int 0, .int (nI n)])), (ae, .inl (Y.2.1 0, cap, .inl f))]) H locs := hW.permA (pmq9 _ _ _)
  refine lv_if_eq (tgt := 41) hx hb dJ0_init_db425_19 (by decide) (fun h => absurd h (by decide)) (fun _ => ?_)
  refine lv_aload_n hx hb dJ0_init_db425_22 rfl (lv_at hl 2 rfl) ?_
  refine lv_iconst (v := 0) hx hb dJ0_init_db425_23 (by decide) ?_
  refine pf_ (ty := .byte) X hin hinJ0 tyJ0 tyJ0_ok nmJ0 hW 0 rfl rfl 1 (by decide) 4 rfl rfl rfl rfl (by decide +kernel) rfl rfl (Nat.le_of_ble_eq_true rfl) dJ0_init_db425_24 (ws' := [(s0, .inr (8, [.null, .int 0, .int 0, .int 0])), (b, .inr (9, [.ref ae, .int 0, .int 0, .int (nI n)])), (ae, .inl (Y.2.1 0, cap, .inl f))]) rfl (fun H locs hW => ?_)
  refine lv_aload_n hx hb dJ0_init_db425_27 rfl (lv_at hl 2 rfl) ?_
  refine lv_aload_n hx hb dJ0_init_db425_28 rfl (lv_at hl 1 rfl) ?_
  refine lv_iconst (v := 0) hx hb dJ0_init_db425_29 (by decide) ?_
  refine lv_iload hx hb dJ0_init_db425_30 (lv_at hl 0 rfl) ?_
  refine rS_ (As := [.ref ae, .int 0, .int (nI n)]) (rest := [.ref s0]) (wc := [(ae, .inl (Y.2.1 0, cap, .inl f))]) (w9 := [(s0, .inr (8, [.null, .int 0, .int 0, .int 0])), (b, .inr (9, [.ref ae, .int 0, .int 0, .int (nI n)]))]) X (kJ7_copyOfRange_39247 l Dd Y ae cap n f hn hc hf) (va_cwS 3 X.1.2.2.2.2 gJ0_init_db425_J7_copyOfRange_39247 rfl rfl rfl (by decide +kernel) ⟨(Nat.le_of_ble_eq_true rfl), (Nat.le_of_ble_eq_true rfl)⟩) hW (pmq22 _ _ _) rfl hl.1 rfl (Nat.le_of_ble_eq_true rfl) dJ0_init_db425_32 ⟨(Nat.le_of_ble_eq_true rfl), (Nat.le_of_ble_eq_true rfl)⟩ (fun rv wq H locs hp hW => ?_)
  obtain ⟨q, g, rfl, h4, h5, rfl⟩ := hp
  have hW : Wd Dd A s.heap ([(ae, .inl (Y.2.1 0, cap, .inl f)), (q, .inl (Y.2.1 0, n, .inl g)), (s0, .inr (8, [.null, .int 0, .int 0, .int 0])), (b, .inr (9, [.ref ae, .int 0, .int 0, .int (nI n)]))]) H locs := hW
  refine W.eq (g2 := F0 m 35 ls [.ref q, .ref s0]) rfl ?_
  have hW : Wd Dd A s.heap ([(s0, .inr (8, [.null, .int 0, .int 0, .int 0])), (b, .inr (9, [.ref ae, .int 0, .int 0, .int (nI n)])), (ae, .inl (Y.2.1 0, cap, .inl f)), (q, .inl (Y.2.1 0, n, .inl g))]) H locs := hW.permA (pmq18 _ _ _ _)
  refine pf_ (ty := (.array .byte)) X hin hinJ0 tyJ0 tyJ0_ok nmJ0 hW 0 rfl rfl 0 (by decide) 5 rfl rfl rfl rfl (by decide +kernel) rfl rfl (Nat.le_of_ble_eq_true rfl) dJ0_init_db425_35 (ws' := [(s0, .inr (8, [.ref q, .int 0, .int 0, .int 0])), (b, .inr (9, [.ref ae, .int 0, .int 0, .int (nI n)])), (ae, .inl (Y.2.1 0, cap, .inl f)), (q, .inl (Y.2.1 0, n, .inl g))]) rfl (fun H locs hW => ?_)
  refine lv_goto (tgt := 97) hx hb dJ0_init_db425_38 (by decide) ?_
  exact hV _ _ _ _ _ _ _ ⟨rfl, q, g, h4, h5, rfl⟩ rfl (Nat.le_of_ble_eq_true rfl) (Nat.le_of_ble_eq_true rfl) hW dJ0_init_db425_78
abbrev rmJ0_init_81219 : Room := { frames := 4, cells := 1, slots := 1000, locals := 96 }
set_option maxRecDepth 100000 in
set_option maxHeartbeats 4000000 in
theorem kJ0_init_81219 (l : Launch) (Dd : va_G) (Y : yT) (s0 b ae cap n : Nat) (f : Nat → Int32) (hn : n ≤ cap) (hc : cap ≤ 1000) (hf : sb_Fit f) : MR l yJ0_init_81219 wsJ0_init_81219 rmJ0_init_81219 Dd Y [.ref s0, .ref b] ([(s0, .inr (8, [.null, .int 0, .int 0, .int 0])), (b, .inr (9, [.ref ae, .int 0, .int 0, .int (nI n)])), (ae, .inl (Y.2.1 0, cap, .inl f))]) (fun rv w => rv = none ∧ ∃ (q : Nat) (g : Nat → Int32), sb_Fit g ∧ (∀ j : Nat, j < n → g j = f j) ∧ w = [(s0, .inr (8, [.ref q, .int 0, .int 0, .int 0])), (b, .inr (9, [.ref ae, .int 0, .int 0, .int (nI n)])), (ae, .inl (Y.2.1 0, cap, .inl f)), (q, .inl (Y.2.1 0, n, .inl g))]) 1 1000 := by
  refine MRk (cc := cJ0_init_81219) (maxL := 2) (ret := none) (by decide) rfl (Nat.le_of_ble_eq_true rfl) (fun {p₀ e₀ s m args below meth c₀ A} ls Q X hin hW hl hI hV hA => ?_)
  have hx := X.x
  have hb := X.b
  have hl : lv_has ls 2 [(0, .ref s0), (1, .ref b)] := hl
  refine lv_aload_n hx hb dJ0_init_81219_0 rfl (lv_at hl 0 rfl) ?_
  refine lv_aload_n hx hb dJ0_init_81219_1 rfl (lv_at hl 1 rfl) ?_
  refine lv_null hx hb dJ0_init_81219_2 ?_
  refine rI_ (As := [.ref b, .null]) (rest := []) (wc := [(s0, .inr (8, [.null, .int 0, .int 0, .int 0])), (b, .inr (9, [.ref ae, .int 0, .int 0, .int (nI n)])), (ae, .inl (Y.2.1 0, cap, .inl f))]) (w9 := []) X (kJ0_init_db425 l Dd Y s0 b ae cap n f hn hc hf) (cwI 2 X.1.2.2.2.2 gJ0_init_81219_J0_init_db425 rfl rfl rfl (X.w (i := 3) rfl) (X.w (i := 1) rfl) (X.w (i := 2) rfl) rfl (by decide +kernel) ⟨(Nat.le_of_ble_eq_true rfl), (Nat.le_of_ble_eq_true rfl)⟩) hW (List.Perm.refl _) rfl hl.1 rfl (Nat.le_of_ble_eq_true rfl) dJ0_init_81219_3 ⟨(Nat.le_of_ble_eq_true rfl), (Nat.le_of_ble_eq_true rfl)⟩ (fun rv wq H locs hp hW => ?_)
  obtain ⟨rfl, q, g, h4, h5, rfl⟩ := hp
  have hW : Wd Dd A s.heap ([(s0, .inr (8, [.ref q, .int 0, .int 0, .int 0])), (b, .inr (9, [.ref ae, .int 0, .int 0, .int (nI n)])), (ae, .inl (Y.2.1 0, cap, .inl f)), (q, .inl (Y.2.1 0, n, .inl g))]) H locs := hW
  refine W.eq (g2 := F0 m 6 ls []) rfl ?_
  exact hV _ _ _ _ _ _ _ ⟨rfl, q, g, h4, h5, rfl⟩ rfl (Nat.le_of_ble_eq_true rfl) (Nat.le_of_ble_eq_true rfl) hW dJ0_init_81219_6
abbrev rmJ4_toString_0e30d : Room := { frames := 5, cells := 2, slots := 1010, locals := 117 }
set_option maxRecDepth 100000 in
set_option maxHeartbeats 4000000 in
theorem kJ4_toString_0e30d (l : Launch) (Dd : va_G) (Y : yT) (b : Nat) (T : List Nat) (w0 : va_W) (hS : WSB Y b T w0) : MR l yJ4_toString_0e30d wsJ4_toString_0e30d rmJ4_toString_0e30d Dd Y [.ref b] (w0) (fun rv w => ∃ (s0 q : Nat) (g : Nat → Int32), rv = some (.ref s0) ∧ BT T g ∧ ∃ w1, WSB Y b T w1 ∧ w = w1 ++ [(s0, .inr (8, [.ref q, .int 0, .int 0, .int 0])), (q, .inl (Y.2.1 0, T.length, .inl g))]) 2 1010 := by
  obtain ⟨ae, cap, f, h0, h1, h2, hB, rfl⟩ := hS
  refine MRk (cc := cJ4_toString_0e30d) (maxL := 1) (ret := (some (.object "java/lang/String"))) (by decide) rfl (Nat.le_of_ble_eq_true rfl) (fun {p₀ e₀ s m args below meth c₀ A} ls Q X hin hW hl hI hV hA => ?_)
  have hx := X.x
  have hb := X.b
  have hl : lv_has ls 1 [(0, .ref b)] := hl
  have hinJ0 : ∀ w ∈ wsJ00, w ∈ wsJ4_toString_0e30d := fun w h => List.mem_cons_of_mem _ (List.mem_append_left _ (List.mem_append_right _ h))
  refine nw_ (ci := 8) X hinJ0 tyJ0 tyJ0_ok 1 2 3 rfl rfl rfl hW rfl [.null, .int 0, .int 0, .int 0] (fun j hj => by rcases (show j = 0 ∨ j = 1 ∨ j = 2 ∨ j = 3 by omega) with rfl | rfl | rfl | rfl <;> rfl) (Nat.le_of_ble_eq_true rfl) (Nat.le_of_ble_eq_true rfl) dJ4_toString_0e30d_0 (fun s0 H hW => ?_)
  have hW : Wd Dd A s.heap ([(b, .inr (9, [.ref ae, .int 0, .int 0, .int (nI T.length)])), (ae, .inl (Y.2.1 0, cap, .inl f)), (s0, .inr (8, [.null, .int 0, .int 0, .int 0]))]) _ _ := hW
  refine lv_dup hx hb dJ4_toString_0e30d_3 rfl ?_
  refine lv_aload_n hx hb dJ4_toString_0e30d_4 rfl (lv_at hl 0 rfl) ?_
  refine rI_ (As := [.ref b]) (rest := [.ref s0]) (wc := [(s0, .inr (8, [.null, .int 0, .int 0, .int 0])), (b, .inr (9, [.ref ae, .int 0, .int 0, .int (nI T.length)])), (ae, .inl (Y.2.1 0, cap, .inl f))]) (w9 := []) X (kJ0_init_81219 l Dd Y s0 b ae cap T.length f h1 h2 hB.1) (cwI 1 X.1.2.2.2.2 gJ4_toString_0e30d_J0_init_81219 rfl rfl rfl (X.w (i := 3) rfl) (X.w (i := 4) rfl) (X.w (i := 5) rfl) rfl (by decide +kernel) ⟨(Nat.le_of_ble_eq_true rfl), (Nat.le_of_ble_eq_true rfl)⟩) hW (pmq23 _ _ _) rfl hl.1 rfl (Nat.le_of_ble_eq_true rfl) dJ4_toString_0e30d_5 ⟨(Nat.le_of_ble_eq_true rfl), (Nat.le_of_ble_eq_true rfl)⟩ (fun rv wq H locs hp hW => ?_)
  obtain ⟨rfl, q, g, h4, h5, rfl⟩ := hp
  have hW : Wd Dd A s.heap ([(s0, .inr (8, [.ref q, .int 0, .int 0, .int 0])), (b, .inr (9, [.ref ae, .int 0, .int 0, .int (nI T.length)])), (ae, .inl (Y.2.1 0, cap, .inl f)), (q, .inl (Y.2.1 0, T.length, .inl g))]) H locs := hW
  refine W.eq (g2 := F0 m 8 ls [.ref s0]) rfl ?_
  have hW : Wd Dd A s.heap ([(b, .inr (9, [.ref ae, .int 0, .int 0, .int (nI T.length)])), (ae, .inl (Y.2.1 0, cap, .inl f)), (s0, .inr (8, [.ref q, .int 0, .int 0, .int 0])), (q, .inl (Y.2.1 0, T.length, .inl g))]) H locs := hW.permA (pmq24 _ _ _ _)
  exact hA _ _ _ _ _ _ (some s0) _ _ ⟨s0, q, g, rfl, BT_keep hB h4 h5, _, ⟨ae, cap, f, h0, h1, h2, hB, rfl⟩, rfl⟩ rfl (Or.inl ⟨_, rfl⟩) (Nat.le_of_ble_eq_true rfl) (Nat.le_of_ble_eq_true rfl) hW dJ4_toString_0e30d_8
