theorem pmq0 {α : Type} (c0 : α) (t : List α) : ([c0] ++ t : List α).Perm (([c0] ++ t) ++ ([])) := pmA _ _ (fun x => by simp only [List.count_append, List.count_cons, List.count_nil]; omega)
abbrev rmJxa1e45_init_da8c8 : Room := { frames := 1, cells := 0, slots := 0, locals := 12 }
set_option maxRecDepth 100000 in
set_option maxHeartbeats 4000000 in
theorem kJxa1e45_init_da8c8 (l : Launch) (Dd : va_G) (Y : yT) (b : Nat) : MR l yJxa1e45_init_da8c8 wsJxa1e45_init_da8c8 rmJxa1e45_init_da8c8 Dd Y [.ref b] ([]) (fun rv w => rv = none ∧ w = []) 0 0 := by
  refine MRk (cc := cJxa1e45_init_da8c8) (maxL := 1) (ret := none) (by decide) rfl (Nat.le_of_ble_eq_true rfl) (fun {p₀ e₀ s m args below meth c₀ A} ls Q X hin hW hl hI hV hA => ?_)
  have hx := X.x
  have hb := X.b
  have hl : lv_has ls 1 [(0, .ref b)] := hl
  refine lv_aload_n hx hb dJxa1e45_init_da8c8_0 rfl (lv_at hl 0 rfl) ?_
  refine W.objInit hx hb X.1.2.2.2.1 (X.w (i := 1) rfl) (X.w (i := 2) rfl) (X.w (i := 3) rfl) rfl (by rw [X.1.2.2.1]; exact hl.1) rfl dJxa1e45_init_da8c8_1 (Nat.le_of_ble_eq_true rfl) (Nat.le_of_ble_eq_true rfl) ?_
  refine W.eq (g2 := F0 m 4 ls []) rfl ?_
  exact hV _ _ _ _ _ _ _ ⟨rfl, rfl⟩ rfl (Nat.zero_le _) (Nat.zero_le _) hW dJxa1e45_init_da8c8_4
abbrev rmJxc12de_init_da8c8 : Room := { frames := 2, cells := 0, slots := 0, locals := 32 }
set_option maxRecDepth 100000 in
set_option maxHeartbeats 4000000 in
theorem kJxc12de_init_da8c8 (l : Launch) (Dd : va_G) (Y : yT) (b : Nat) (mo n : Int32) (v : Value) : MR l yJxc12de_init_da8c8 wsJxc12de_init_da8c8 rmJxc12de_init_da8c8 Dd Y [.ref b] ([(b, .inr (11, [.int mo, v, .int n]))]) (fun rv w => rv = none ∧ w = [(b, .inr (11, [.int 0, v, .int n]))]) 0 0 := by
  refine MRk (cc := cJxc12de_init_da8c8) (maxL := 1) (ret := none) (by decide) rfl (Nat.le_of_ble_eq_true rfl) (fun {p₀ e₀ s m args below meth c₀ A} ls Q X hin hW hl hI hV hA => ?_)
  have hx := X.x
  have hb := X.b
  have hl : lv_has ls 1 [(0, .ref b)] := hl
  have hinJx4a65c : ∀ w ∈ wsJx4a65c0, w ∈ wsJxc12de_init_da8c8 := fun w h => List.mem_cons_of_mem _ (List.mem_append_right _ h)
  refine lv_aload_n hx hb dJxc12de_init_da8c8_0 rfl (lv_at hl 0 rfl) ?_
  refine rI_ (As := []) (rest := []) (wc := []) (w9 := [(b, .inr (11, [.int mo, v, .int n]))]) X (kJxa1e45_init_da8c8 l Dd Y b) (cwI 0 X.1.2.2.2.2 gJxc12de_init_da8c8_Jxa1e45_init_da8c8 rfl rfl rfl (X.w (i := 4) rfl) (X.w (i := 2) rfl) (X.w (i := 3) rfl) rfl (by decide +kernel) ⟨(Nat.le_of_ble_eq_true rfl), (Nat.le_of_ble_eq_true rfl)⟩) hW (List.Perm.refl _) rfl hl.1 rfl (Nat.le_of_ble_eq_true rfl) dJxc12de_init_da8c8_1 ⟨(Nat.le_of_ble_eq_true rfl), (Nat.le_of_ble_eq_true rfl)⟩ (fun rv wq H locs hp hW => ?_)
  obtain ⟨rfl, rfl⟩ := hp
  have hW : Wd Dd A s.heap ([(b, .inr (11, [.int mo, v, .int n]))]) H locs := hW
  refine W.eq (g2 := F0 m 4 ls []) rfl ?_
  refine lv_aload_n hx hb dJxc12de_init_da8c8_4 rfl (lv_at hl 0 rfl) ?_
  refine lv_iconst (v := 0) hx hb dJxc12de_init_da8c8_5 (by decide) ?_
  refine p_ (ty := .int) X hinJx4a65c tyJx4a65c tyJx4a65c_ok nmJx4a65c hW 0 rfl rfl 0 (by decide) 1 rfl rfl rfl (by decide +kernel) rfl rfl (Nat.le_of_ble_eq_true rfl) dJxc12de_init_da8c8_6 (ws' := [(b, .inr (11, [.int 0, v, .int n]))]) rfl (fun H locs hW => ?_)
  exact hV _ _ _ _ _ _ _ ⟨rfl, rfl⟩ rfl (Nat.zero_le _) (Nat.zero_le _) hW dJxc12de_init_da8c8_9
abbrev rmJx4a65c_init_da8c8 : Room := { frames := 3, cells := 0, slots := 0, locals := 52 }
set_option maxRecDepth 100000 in
set_option maxHeartbeats 4000000 in
theorem kJx4a65c_init_da8c8 (l : Launch) (Dd : va_G) (Y : yT) (b : Nat) (mo : Int32) : MR l yJx4a65c_init_da8c8 wsJx4a65c_init_da8c8 rmJx4a65c_init_da8c8 Dd Y [.ref b] ([(b, .inr (11, [.int mo, .null, .int 0]))]) (fun rv w => rv = none ∧ w = [(b, .inr (11, [.int 0, .ref (Y.2.2.2.1 100), .int 0]))]) 0 0 := by
  refine MRk (cc := cJx4a65c_init_da8c8) (maxL := 1) (ret := none) (by decide) rfl (Nat.le_of_ble_eq_true rfl) (fun {p₀ e₀ s m args below meth c₀ A} ls Q X hin hW hl hI hV hA => ?_)
  have hx := X.x
  have hb := X.b
  have hl : lv_has ls 1 [(0, .ref b)] := hl
  have hinJx4a65c : ∀ w ∈ wsJx4a65c0, w ∈ wsJx4a65c_init_da8c8 := fun w h => List.mem_cons_of_mem _ (List.mem_append_right _ h)
  refine lv_aload_n hx hb dJx4a65c_init_da8c8_0 rfl (lv_at hl 0 rfl) ?_
  refine rI_ (As := []) (rest := []) (wc := [(b, .inr (11, [.int mo, .null, .int 0]))]) (w9 := []) X (kJxc12de_init_da8c8 l Dd Y b mo 0 .null) (cwI 0 X.1.2.2.2.2 gJx4a65c_init_da8c8_Jxc12de_init_da8c8 rfl rfl rfl (X.w (i := 5) rfl) (X.w (i := 3) rfl) (X.w (i := 4) rfl) rfl (by decide +kernel) ⟨(Nat.le_of_ble_eq_true rfl), (Nat.le_of_ble_eq_true rfl)⟩) hW (List.Perm.refl _) rfl hl.1 rfl (Nat.le_of_ble_eq_true rfl) dJx4a65c_init_da8c8_1 ⟨(Nat.le_of_ble_eq_true rfl), (Nat.le_of_ble_eq_true rfl)⟩ (fun rv wq H locs hp hW => ?_)
  obtain ⟨rfl, rfl⟩ := hp
  have hW : Wd Dd A s.heap ([(b, .inr (11, [.int 0, .null, .int 0]))]) H locs := hW
  refine W.eq (g2 := F0 m 4 ls []) rfl ?_
  refine lv_aload_n hx hb dJx4a65c_init_da8c8_4 rfl (lv_at hl 0 rfl) ?_
  refine gz_ X hW X.2.2.2.2.2.2.2.2.2.1 1 rfl dJx4a65c_init_da8c8_5 ?_
  refine p_ (ty := (.array (.object "java/lang/Object"))) X hinJx4a65c tyJx4a65c tyJx4a65c_ok nmJx4a65c hW 0 rfl rfl 1 (by decide) 2 rfl rfl rfl (by decide +kernel) rfl rfl (Nat.le_of_ble_eq_true rfl) dJx4a65c_init_da8c8_8 (ws' := [(b, .inr (11, [.int 0, .ref (Y.2.2.2.1 100), .int 0]))]) rfl (fun H locs hW => ?_)
  exact hV _ _ _ _ _ _ _ ⟨rfl, rfl⟩ rfl (Nat.zero_le _) (Nat.zero_le _) hW dJx4a65c_init_da8c8_11
abbrev rmJ15_checkIndex_7cf53 : Room := { frames := 1, cells := 0, slots := 0, locals := 22 }
set_option maxRecDepth 100000 in
set_option maxHeartbeats 4000000 in
theorem kJ15_checkIndex_7cf53 (l : Launch) (Dd : va_G) (Y : yT) (i n : Int32) (h0 : ¬ i < 0) (h1 : i < n) : MR l yJ15_checkIndex_7cf53 wsJ15_checkIndex_7cf53 rmJ15_checkIndex_7cf53 Dd Y [.int i, .int n] ([]) (fun rv w => rv = some (.int i) ∧ w = []) 0 0 := by
  refine MRk (cc := cJ15_checkIndex_7cf53) (maxL := 2) (ret := (some .int)) (by decide) rfl (Nat.le_of_ble_eq_true rfl) (fun {p₀ e₀ s m args below meth c₀ A} ls Q X hin hW hl hI hV hA => ?_)
  have hx := X.x
  have hb := X.b
  have hl : lv_has ls 2 [(0, .int i), (1, .int n)] := hl
  refine lv_iload_n hx hb dJ15_checkIndex_7cf53_0 rfl (lv_at hl 0 rfl) ?_
  refine lv_iload_n hx hb dJ15_checkIndex_7cf53_1 rfl (lv_at hl 1 rfl) ?_
  refine lv_null hx hb dJ15_checkIndex_7cf53_2 ?_
  refine cSi_ (As := [.int i, .int n, .null]) (rest := []) X (kJ3_checkIndex_8e157 l Dd Y i n .null (Or.inl rfl) h0 h1) (va_cwS 3 X.1.2.2.2.2 gJ15_checkIndex_7cf53_J3_checkIndex_8e157 rfl rfl rfl (by decide +kernel) ⟨(Nat.le_of_ble_eq_true rfl), (Nat.le_of_ble_eq_true rfl)⟩) hW rfl hl.1 rfl (Nat.le_of_ble_eq_true rfl) dJ15_checkIndex_7cf53_3 ⟨Nat.zero_le _, Nat.zero_le _⟩ (fun H locs hW => ?_)
  exact hI _ _ _ _ _ _ _ _ _ ⟨rfl, rfl⟩ rfl rfl (Nat.zero_le _) (Nat.zero_le _) hW dJ15_checkIndex_7cf53_6
abbrev rmJx4a65c_elementData_915e3 : Room := { frames := 0, cells := 0, slots := 0, locals := 0 }
set_option maxRecDepth 100000 in
set_option maxHeartbeats 4000000 in
theorem kJx4a65c_elementData_915e3 (l : Launch) (Dd : va_G) (Y : yT) (b ae cap i : Nat) (mo n : Int32) (f : Nat → Option Nat) (hi : i < cap) (hc : cap < 2 ^ 31) : MR l yJx4a65c_elementData_915e3 wsJx4a65c_elementData_915e3 rmJx4a65c_elementData_915e3 Dd Y [.ref b, .int (nI i)] ([(b, .inr (11, [.int mo, .ref ae, .int n])), (ae, .inl (Y.2.1 2, cap, .inr (.inr (.inr (.inr f)))))]) (fun rv w => rv = some (va_rf (f i)) ∧ w = [(b, .inr (11, [.int mo, .ref ae, .int n])), (ae, .inl (Y.2.1 2, cap, .inr (.inr (.inr (.inr f)))))]) 0 0 := by
  refine MRk (cc := cJx4a65c_elementData_915e3) (maxL := 2) (ret := (some (.object "java/lang/Object"))) (by decide) rfl (Nat.le_of_ble_eq_true rfl) (fun {p₀ e₀ s m args below meth c₀ A} ls Q X hin hW hl hI hV hA => ?_)
  have hx := X.x
  have hb := X.b
  have hl : lv_has ls 2 [(0, .ref b), (1, .int (nI i))] := hl
  have hinJx4a65c : ∀ w ∈ wsJx4a65c0, w ∈ wsJx4a65c_elementData_915e3 := fun w h => List.mem_cons_of_mem _ (List.mem_append_right _ h)
  refine lv_aload_n hx hb dJx4a65c_elementData_915e3_0 rfl (lv_at hl 0 rfl) ?_
  refine g_ X hinJx4a65c hW 0 rfl rfl 1 (by decide) 1 rfl rfl rfl dJx4a65c_elementData_915e3_1 ?_
  refine lv_iload_n hx hb dJx4a65c_elementData_915e3_4 rfl (lv_at hl 1 rfl) ?_
  refine alq_ X hW 1 4 rfl rfl (vp_in_nI hi hc) dJx4a65c_elementData_915e3_5 ?_
  rw [nI_clamp (by omega)]
  exact hA _ _ _ _ _ _ _ _ _ ⟨rfl, rfl⟩ rfl (Or.inl ⟨_, rfl⟩) (Nat.zero_le _) (Nat.zero_le _) hW dJx4a65c_elementData_915e3_6
abbrev rmJx4a65c_get_915e3 : Room := { frames := 2, cells := 0, slots := 0, locals := 43 }
set_option maxRecDepth 100000 in
set_option maxHeartbeats 4000000 in
theorem kJx4a65c_get_915e3 (l : Launch) (Dd : va_G) (Y : yT) (b ae cap n i : Nat) (mo : Int32) (f : Nat → Option Nat) (hi : i < n) (hn : n ≤ cap) (hc : cap < 2 ^ 31) : MR l yJx4a65c_get_915e3 wsJx4a65c_get_915e3 rmJx4a65c_get_915e3 Dd Y [.ref b, .int (nI i)] ([(b, .inr (11, [.int mo, .ref ae, .int (nI n)])), (ae, .inl (Y.2.1 2, cap, .inr (.inr (.inr (.inr f)))))]) (fun rv w => rv = some (va_rf (f i)) ∧ w = [(b, .inr (11, [.int mo, .ref ae, .int (nI n)])), (ae, .inl (Y.2.1 2, cap, .inr (.inr (.inr (.inr f)))))]) 0 0 := by
  refine MRk (cc := cJx4a65c_get_915e3) (maxL := 2) (ret := (some (.object "java/lang/Object"))) (by decide) rfl (Nat.le_of_ble_eq_true rfl) (fun {p₀ e₀ s m args below meth c₀ A} ls Q X hin hW hl hI hV hA => ?_)
  have hx := X.x
  have hb := X.b
  have hl : lv_has ls 2 [(0, .ref b), (1, .int (nI i))] := hl
  have hinJx4a65c : ∀ w ∈ wsJx4a65c0, w ∈ wsJx4a65c_get_915e3 := fun w h => List.mem_cons_of_mem _ (List.mem_append_right _ h)
  refine lv_iload_n hx hb dJx4a65c_get_915e3_0 rfl (lv_at hl 1 rfl) ?_
  refine lv_aload_n hx hb dJx4a65c_get_915e3_1 rfl (lv_at hl 0 rfl) ?_
  refine g_ X hinJx4a65c hW 0 rfl rfl 2 (by decide) 1 rfl rfl rfl dJx4a65c_get_915e3_2 ?_
  refine rS_ (As := [.int (nI i), .int (nI n)]) (rest := []) (wc := []) (w9 := [(b, .inr (11, [.int mo, .ref ae, .int (nI n)])), (ae, .inl (Y.2.1 2, cap, .inr (.inr (.inr (.inr f)))))]) X (kJ15_checkIndex_7cf53 l Dd Y (nI i) (nI n) (nI_pos (by omega)) (nI_lt hi (by omega))) (va_cwS 2 X.1.2.2.2.2 gJx4a65c_get_915e3_J15_checkIndex_7cf53 rfl rfl rfl (by decide +kernel) ⟨(Nat.le_of_ble_eq_true rfl), (Nat.le_of_ble_eq_true rfl)⟩) hW (List.Perm.refl _) rfl hl.1 rfl (Nat.le_of_ble_eq_true rfl) dJx4a65c_get_915e3_5 ⟨(Nat.le_of_ble_eq_true rfl), (Nat.le_of_ble_eq_true rfl)⟩ (fun rv wq H locs hp hW => ?_)
  obtain ⟨rfl, rfl⟩ := hp
  have hW : Wd Dd A s.heap ([(b, .inr (11, [.int mo, .ref ae, .int (nI n)])), (ae, .inl (Y.2.1 2, cap, .inr (.inr (.inr (.inr f)))))]) H locs := hW
  refine W.eq (g2 := F0 m 8 ls [.int (nI i)]) rfl ?_
  refine lv_pop hx hb dJx4a65c_get_915e3_8 rfl ?_
  refine lv_aload_n hx hb dJx4a65c_get_915e3_9 rfl (lv_at hl 0 rfl) ?_
  refine lv_iload_n hx hb dJx4a65c_get_915e3_10 rfl (lv_at hl 1 rfl) ?_
  refine rV_ (As := [.int (nI i)]) (rest := []) (wc := [(b, .inr (11, [.int mo, .ref ae, .int (nI n)])), (ae, .inl (Y.2.1 2, cap, .inr (.inr (.inr (.inr f)))))]) (w9 := []) X (kJx4a65c_elementData_915e3 l Dd Y b ae cap i mo (nI n) f (by omega) hc) (cwV 1 X.1.2.2.2.2 gJx4a65c_get_915e3_Jx4a65c_elementData_915e3 rfl rfl rfl (by decide +kernel) ⟨(Nat.le_of_ble_eq_true rfl), (Nat.le_of_ble_eq_true rfl)⟩) hW (List.Perm.refl _) 0 11 rfl rfl rfl rfl hl.1 rfl (Nat.le_of_ble_eq_true rfl) dJx4a65c_get_915e3_11 ⟨(Nat.le_of_ble_eq_true rfl), (Nat.le_of_ble_eq_true rfl)⟩ (fun rv wq H locs hp hW => ?_)
  obtain ⟨rfl, rfl⟩ := hp
  have hW : Wd Dd A s.heap ([(b, .inr (11, [.int mo, .ref ae, .int (nI n)])), (ae, .inl (Y.2.1 2, cap, .inr (.inr (.inr (.inr f)))))]) H locs := hW
  refine W.eq (g2 := F0 m 14 ls [va_rf (f i)]) rfl ?_
  exact hA _ _ _ _ _ _ _ _ _ ⟨rfl, rfl⟩ rfl (Or.inl ⟨_, rfl⟩) (Nat.zero_le _) (Nat.zero_le _) hW dJx4a65c_get_915e3_14
abbrev rmJx4a65c_size_8abf5 : Room := { frames := 0, cells := 0, slots := 0, locals := 0 }
set_option maxRecDepth 100000 in
set_option maxHeartbeats 4000000 in
theorem kJx4a65c_size_8abf5 (l : Launch) (Dd : va_G) (Y : yT) (b : Nat) (mo n : Int32) (v : Value) : MR l yJx4a65c_size_8abf5 wsJx4a65c_size_8abf5 rmJx4a65c_size_8abf5 Dd Y [.ref b] ([(b, .inr (11, [.int mo, v, .int n]))]) (fun rv w => rv = some (.int n) ∧ w = [(b, .inr (11, [.int mo, v, .int n]))]) 0 0 := by
  refine MRk (cc := cJx4a65c_size_8abf5) (maxL := 1) (ret := (some .int)) (by decide) rfl (Nat.le_of_ble_eq_true rfl) (fun {p₀ e₀ s m args below meth c₀ A} ls Q X hin hW hl hI hV hA => ?_)
  have hx := X.x
  have hb := X.b
  have hl : lv_has ls 1 [(0, .ref b)] := hl
  have hinJx4a65c : ∀ w ∈ wsJx4a65c0, w ∈ wsJx4a65c_size_8abf5 := fun w h => List.mem_cons_of_mem _ (List.mem_append_right _ h)
  refine lv_aload_n hx hb dJx4a65c_size_8abf5_0 rfl (lv_at hl 0 rfl) ?_
  refine g_ X hinJx4a65c hW 0 rfl rfl 2 (by decide) 1 rfl rfl rfl dJx4a65c_size_8abf5_1 ?_
  exact hI _ _ _ _ _ _ _ _ _ ⟨rfl, rfl⟩ rfl rfl (Nat.zero_le _) (Nat.zero_le _) hW dJx4a65c_size_8abf5_4
abbrev rmJ8_newLength_cabcc : Room := { frames := 1, cells := 0, slots := 0, locals := 21 }
set_option maxRecDepth 100000 in
set_option maxHeartbeats 4000000 in
theorem kJ8_newLength_cabcc (l : Launch) (Dd : va_G) (Y : yT) (o g q : Nat) (h0 : 0 < o) (hb : o + max g q < 2147483639) (hg : g < 2147483639) (hq : q < 2147483639) : MR l yJ8_newLength_cabcc wsJ8_newLength_cabcc rmJ8_newLength_cabcc Dd Y [.int (nI o), .int (nI g), .int (nI q)] ([]) (fun rv w => rv = some (.int (nI (o + max g q))) ∧ w = []) 0 0 := by
  refine MRk (cc := cJ8_newLength_cabcc) (maxL := 4) (ret := (some .int)) (by decide) rfl (Nat.le_of_ble_eq_true rfl) (fun {p₀ e₀ s m args below meth c₀ A} ls Q X hin hW hl hI hV hA => ?_)
  have hx := X.x
  have hb := X.b
  have hl : lv_has ls 4 [(0, .int (nI o)), (1, .int (nI g)), (2, .int (nI q))] := hl
  refine lv_iload_n hx hb dJ8_newLength_cabcc_0 rfl (lv_at hl 0 rfl) ?_
  refine lv_iload_n hx hb dJ8_newLength_cabcc_1 rfl (lv_at hl 1 rfl) ?_
  refine lv_iload_n hx hb dJ8_newLength_cabcc_2 rfl (lv_at hl 2 rfl) ?_
  refine max_ X hl.1 1 2 3 4 rfl rfl rfl rfl ⟨(Nat.le_of_ble_eq_true rfl), (Nat.le_of_ble_eq_true rfl)⟩ (Nat.le_of_ble_eq_true rfl) ⟨Nat.zero_le _, Nat.zero_le _⟩ dJ8_newLength_cabcc_3 ?_
  rw [show (if nI g < nI q then nI q else nI g) = nI (max g q) from if c : g < q then (by rw [if_pos (nI_lt c (by omega)), Nat.max_eq_right (by omega)]) else (by rw [if_neg (nI_nlt (by omega) (by omega)), Nat.max_eq_left (by omega)])]
  refine lv_iadd hx hb dJ8_newLength_cabcc_6 ?_
  rw [nI_add]
  refine lv_istore_n (lv' := [(3, .int (nI (o + max g q))), (0, .int (nI o)), (1, .int (nI g)), (2, .int (nI q))]) hx hb dJ8_newLength_cabcc_7 rfl hl (by decide) rfl (fun ls hl => ?_)
  refine lv_iconst (v := 0) hx hb dJ8_newLength_cabcc_8 (by decide) ?_
  refine lv_iload_n hx hb dJ8_newLength_cabcc_9 rfl (lv_at hl 0 rfl) ?_
  refine lv_icmp_ge (tgt := 21) hx hb dJ8_newLength_cabcc_10 (by decide) (fun h => absurd h (nI_nle (by omega) (by omega))) (fun _ => ?_)
  refine lv_iload_n hx hb dJ8_newLength_cabcc_13 rfl (lv_at hl 0 rfl) ?_
  refine lv_ldc hx hb X.1.2.2.2.1 (X.w (i := 5) rfl) dJ8_newLength_cabcc_14 ?_
  refine lv_icmp_gt (tgt := 21) hx hb dJ8_newLength_cabcc_16 (by decide) (fun h => absurd h (show ¬ (2147483639 : Int32) < nI (o + max g q) from nI_nlt (a := 2147483639) (by omega) (by omega))) (fun _ => ?_)
  refine lv_iload_n hx hb dJ8_newLength_cabcc_19 rfl (lv_at hl 0 rfl) ?_
  exact hI _ _ _ _ _ _ _ _ _ ⟨rfl, rfl⟩ rfl rfl (Nat.zero_le _) (Nat.zero_le _) hW dJ8_newLength_cabcc_20
abbrev rmJ7_copyOf_6403c : Room := { frames := 1, cells := 1, slots := 1000, locals := 26 }
set_option maxRecDepth 100000 in
set_option maxHeartbeats 4000000 in
theorem kJ7_copyOf_6403c (l : Launch) (Dd : va_G) (Y : yT) (a0 cap n : Nat) (f : Nat → Option Nat) (ex : va_W) (hcn : cap ≤ n) (hn : n ≤ 1000) (hel : ∀ i : Nat, i < cap → ∀ y : Nat, f i = some y → inx ex y) : MR l yJ7_copyOf_6403c wsJ7_copyOf_6403c rmJ7_copyOf_6403c Dd Y [.ref a0, .int (nI n), .ref (Y.2.2.2.1 101)] ([(a0, .inl (Y.2.1 2, cap, .inr (.inr (.inr (.inr f)))))] ++ ex) (fun rv w => ∃ q : Nat, rv = some (.ref q) ∧ w = [(a0, .inl (Y.2.1 2, cap, .inr (.inr (.inr (.inr f))))), (q, .inl (Y.2.1 2, n, .inr (.inr (.inr (.inr (va_cpy f (fun _ => none) 0 0 cap))))))] ++ ex) 1 1000 := by
  refine MRk (cc := cJ7_copyOf_6403c) (maxL := 4) (ret := (some (.array (.object "java/lang/Object")))) (by decide) rfl (Nat.le_of_ble_eq_true rfl) (fun {p₀ e₀ s m args below meth c₀ A} ls Q X hin hW hl hI hV hA => ?_)
  have hx := X.x
  have hb := X.b
  have hl : lv_has ls 4 [(0, .ref a0), (1, .int (nI n)), (2, .ref (Y.2.2.2.1 101))] := hl
  have hms : 0 + n ≤ 1000 := by omega
  have hms' : 0 + n ≤ 1000 := by omega
  refine lv_aload_n hx hb dJ7_copyOf_6403c_0 rfl (lv_at hl 2 rfl) ?_
  refine va_ldcM hx hb X.1.2.2.2.1 (X.w (i := 1) rfl) X.2.2.2.1.2.2.2.2.2.1.2.2.2.2.2.2.2.1 dJ7_copyOf_6403c_1 ?_
  refine lv_acmp_ne (rx := some (Y.2.2.2.1 101)) (ry := some (Y.2.2.2.1 101)) (tgt := 13) hx hb dJ7_copyOf_6403c_3 (by decide) (fun h => absurd rfl h) (fun _ => ?_)
  refine lv_iload_n hx hb dJ7_copyOf_6403c_6 rfl (lv_at hl 1 rfl) ?_
  refine nq_ (N' := n) X 2 rfl hW (nI_pos (by omega)) (nI_clamp (by omega)) (by omega) (Nat.le_of_ble_eq_true rfl) hms dJ7_copyOf_6403c_7 (fun q H hW => ?_)
  have hW : Wd Dd A s.heap ([(a0, .inl (Y.2.1 2, cap, .inr (.inr (.inr (.inr f))))), (q, .inl (Y.2.1 2, n, .inr (.inr (.inr (.inr (fun _ => none))))))] ++ ex) _ _ := hW.permA pm_new
  refine lv_goto (tgt := 24) hx hb dJ7_copyOf_6403c_10 (by decide) ?_
  refine lv_astore_n (lv' := [(3, .ref q), (0, .ref a0), (1, .int (nI n)), (2, .ref (Y.2.2.2.1 101))]) hx hb dJ7_copyOf_6403c_24 rfl hl (by decide) rfl (fun ls hl => ?_)
  refine lv_aload_n hx hb dJ7_copyOf_6403c_25 rfl (lv_at hl 1 rfl) ?_
  refine lv_iconst (v := 0) hx hb dJ7_copyOf_6403c_26 (by decide) ?_
  refine lv_aload_n hx hb dJ7_copyOf_6403c_27 rfl (lv_at hl 0 rfl) ?_
  refine lv_iconst (v := 0) hx hb dJ7_copyOf_6403c_28 (by decide) ?_
  refine lv_aload_n hx hb dJ7_copyOf_6403c_29 rfl (lv_at hl 1 rfl) ?_
  refine len_ (v := nI cap) X hW 0 4 rfl rfl rfl dJ7_copyOf_6403c_30 ?_
  refine lv_iload_n hx hb dJ7_copyOf_6403c_31 rfl (lv_at hl 2 rfl) ?_
  refine min_ X hl.1 3 4 5 6 rfl rfl rfl rfl ⟨(Nat.le_of_ble_eq_true rfl), (Nat.le_of_ble_eq_true rfl)⟩ (Nat.le_of_ble_eq_true rfl) ⟨(Nat.le_of_ble_eq_true rfl), hms'⟩ dJ7_copyOf_6403c_32 ?_
  rw [show (if nI n < nI cap then nI n else nI cap) = nI cap from if_neg (nI_nlt (by omega) (by omega))]
  refine cpq_ X hl.1 7 8 9 10 rfl rfl rfl rfl ⟨(Nat.le_of_ble_eq_true rfl), (Nat.le_of_ble_eq_true rfl)⟩ (Nat.le_of_ble_eq_true rfl) hW 0 1 rfl rfl (sp' := 0) (dp' := 0) (n' := cap) rfl rfl rfl (by omega) (by omega) (by omega) (by omega) (fun i hi y h => anyx_ (w := [(a0, .inl (Y.2.1 2, cap, .inr (.inr (.inr (.inr f))))), (q, .inl (Y.2.1 2, n, .inr (.inr (.inr (.inr (fun _ => none))))))]) X hW (hel i hi y (by rw [Nat.zero_add] at h; exact h))) dJ7_copyOf_6403c_35 (ws' := [(a0, .inl (Y.2.1 2, cap, .inr (.inr (.inr (.inr f))))), (q, .inl (Y.2.1 2, n, .inr (.inr (.inr (.inr (va_cpy f (fun _ => none) 0 0 cap))))))] ++ ex) rfl (fun H locs hW => ?_)
  refine lv_aload_n hx hb dJ7_copyOf_6403c_38 rfl (lv_at hl 0 rfl) ?_
  exact hA _ _ _ _ _ _ (some q) _ _ ⟨q, rfl, rfl⟩ rfl (Or.inr ⟨_, rfl⟩) (Nat.le_of_ble_eq_true rfl) hms' hW dJ7_copyOf_6403c_39
abbrev rmJ7_copyOf_1904c : Room := { frames := 2, cells := 1, slots := 1000, locals := 49 }
set_option maxRecDepth 100000 in
set_option maxHeartbeats 4000000 in
theorem kJ7_copyOf_1904c (l : Launch) (Dd : va_G) (Y : yT) (a0 cap n : Nat) (f : Nat → Option Nat) (ex : va_W) (hcn : cap ≤ n) (hn : n ≤ 1000) (hel : ∀ i : Nat, i < cap → ∀ y : Nat, f i = some y → inx ex y) : MR l yJ7_copyOf_1904c wsJ7_copyOf_1904c rmJ7_copyOf_1904c Dd Y [.ref a0, .int (nI n)] ([(a0, .inl (Y.2.1 2, cap, .inr (.inr (.inr (.inr f)))))] ++ ex) (fun rv w => ∃ q : Nat, rv = some (.ref q) ∧ w = [(a0, .inl (Y.2.1 2, cap, .inr (.inr (.inr (.inr f))))), (q, .inl (Y.2.1 2, n, .inr (.inr (.inr (.inr (va_cpy f (fun _ => none) 0 0 cap))))))] ++ ex) 1 1000 := by
  refine MRk (cc := cJ7_copyOf_1904c) (maxL := 2) (ret := (some (.array (.object "java/lang/Object")))) (by decide) rfl (Nat.le_of_ble_eq_true rfl) (fun {p₀ e₀ s m args below meth c₀ A} ls Q X hin hW hl hI hV hA => ?_)
  have hx := X.x
  have hb := X.b
  have hl : lv_has ls 2 [(0, .ref a0), (1, .int (nI n))] := hl
  refine lv_aload_n hx hb dJ7_copyOf_1904c_0 rfl (lv_at hl 0 rfl) ?_
  refine lv_iload_n hx hb dJ7_copyOf_1904c_1 rfl (lv_at hl 1 rfl) ?_
  refine lv_aload_n hx hb dJ7_copyOf_1904c_2 rfl (lv_at hl 0 rfl) ?_
  refine va_getC hx hb (X.1.2.2.1.trans hl.1.symm) X.1.2.2.2.1 (X.w (i := 1) rfl) (va_Dc.use X.2.2.2.1.2.2.2.2.2.1.2.2.2.2.2.2.2.2) (C := oAr) (X.w (i := 2) rfl) (X.w (i := 3) rfl) (X.w (i := 4) rfl) X.2.2.2.1.2.2.2.2.2.1.2.2.2.2.2.2.2.1 (aro_ X hW 0 rfl) (Nat.le_of_ble_eq_true rfl) (Nat.le_of_ble_eq_true rfl) dJ7_copyOf_1904c_3 ?_
  refine rS_ (As := [.ref a0, .int (nI n), .ref (Y.2.2.2.1 101)]) (rest := []) (wc := [(a0, .inl (Y.2.1 2, cap, .inr (.inr (.inr (.inr f)))))] ++ ex) (w9 := []) X (kJ7_copyOf_6403c l Dd Y a0 cap n f ex hcn hn hel) (va_cwS 3 X.1.2.2.2.2 gJ7_copyOf_1904c_J7_copyOf_6403c rfl rfl rfl (by decide +kernel) ⟨(Nat.le_of_ble_eq_true rfl), (Nat.le_of_ble_eq_true rfl)⟩) hW (pmq0 _ _) rfl hl.1 rfl (Nat.le_of_ble_eq_true rfl) dJ7_copyOf_1904c_6 ⟨(Nat.le_of_ble_eq_true rfl), (Nat.le_of_ble_eq_true rfl)⟩ (fun rv wq H locs hp hW => ?_)
  obtain ⟨q, rfl, rfl⟩ := hp
  have hW : Wd Dd A s.heap ([(a0, .inl (Y.2.1 2, cap, .inr (.inr (.inr (.inr f))))), (q, .inl (Y.2.1 2, n, .inr (.inr (.inr (.inr (va_cpy f (fun _ => none) 0 0 cap))))))] ++ ex) H locs := by rw [List.append_nil] at hW; exact hW
  refine W.eq (g2 := F0 m 9 ls [.ref q]) rfl ?_
  exact hA _ _ _ _ _ _ (some q) _ _ ⟨q, rfl, rfl⟩ rfl (Or.inr ⟨_, rfl⟩) (Nat.le_of_ble_eq_true rfl) (Nat.le_of_ble_eq_true rfl) hW dJ7_copyOf_1904c_9
