theorem pmq5 {α : Type} (c0 c1 : α) : ([c0, c1] : List α).Perm (([c1]) ++ ([c0])) := pmA _ _ (fun x => by simp only [List.count_append, List.count_cons, List.count_nil]; omega)
theorem pmq6 {α : Type} (c0 c1 c2 : α) : ([c0, c1, c2] : List α).Perm ([c2, c1, c0]) := pmA _ _ (fun x => by simp only [List.count_append, List.count_cons, List.count_nil]; omega)
theorem pmq7 {α : Type} (c0 c1 : α) : ([c0, c1] : List α).Perm ([c1, c0]) := pmA _ _ (fun x => by simp only [List.count_append, List.count_cons, List.count_nil]; omega)
theorem pmq8 {α : Type} (c0 c1 c2 : α) : ([c0, c1, c2] : List α).Perm (([c1]) ++ ([c0, c2])) := pmA _ _ (fun x => by simp only [List.count_append, List.count_cons, List.count_nil]; omega)
theorem pmq9 {α : Type} (c0 c1 c2 : α) : ([c0, c1, c2] : List α).Perm ([c1, c0, c2]) := pmA _ _ (fun x => by simp only [List.count_append, List.count_cons, List.count_nil]; omega)
theorem pmq10 {α : Type} (c0 c1 : α) : ([c0, c1] : List α).Perm ([c1] ++ [c0]) := pmA _ _ (fun x => by simp only [List.count_append, List.count_cons, List.count_nil]; omega)
theorem pmq11 {α : Type} (c0 c1 : α) : ([c0] ++ [c1] : List α).Perm ([c1, c0]) := pmA _ _ (fun x => by simp only [List.count_append, List.count_cons, List.count_nil]; omega)
theorem pmq12 {α : Type} (c0 c1 c2 c3 : α) : ([c0, c1, c2, c3] : List α).Perm (([c0, c2]) ++ ([c1, c3])) := pmA _ _ (fun x => by simp only [List.count_append, List.count_cons, List.count_nil]; omega)
theorem pmq13 {α : Type} (c0 c1 c2 c3 : α) : ([c0, c1, c2, c3] : List α).Perm ([c0, c2, c1, c3]) := pmA _ _ (fun x => by simp only [List.count_append, List.count_cons, List.count_nil]; omega)
theorem pmq14 {α : Type} (c0 c1 c2 : α) : ([c0, c1, c2] : List α).Perm ([c1, c2, c0]) := pmA _ _ (fun x => by simp only [List.count_append, List.count_cons, List.count_nil]; omega)
theorem pmq15 {α : Type} (c0 c1 c2 c3 : α) : ([c0, c1, c2, c3] : List α).Perm (([c2, c3, c1]) ++ ([c0])) := pmA _ _ (fun x => by simp only [List.count_append, List.count_cons, List.count_nil]; omega)
theorem pmq16 {α : Type} (c0 c1 c2 c3 : α) : ([c0, c1, c2, c3] : List α).Perm ([c3, c0, c1, c2]) := pmA _ _ (fun x => by simp only [List.count_append, List.count_cons, List.count_nil]; omega)
theorem pmq17 {α : Type} (c0 c1 c2 c3 : α) : ([c0, c1, c2, c3] : List α).Perm (([c2, c3]) ++ ([c0, c1])) := pmA _ _ (fun x => by simp only [List.count_append, List.count_cons, List.count_nil]; omega)
theorem pmq18 {α : Type} (c0 c1 c2 c3 : α) : ([c0, c1, c2, c3] : List α).Perm ([c2, c3, c0, c1]) := pmA _ _ (fun x => by simp only [List.count_append, List.count_cons, List.count_nil]; omega)
abbrev rmJ5_isLatin1_aae02 : Room := { frames := 0, cells := 0, slots := 0, locals := 0 }
set_option maxRecDepth 100000 in
set_option maxHeartbeats 4000000 in
theorem kJ5_isLatin1_aae02 (l : Launch) (Dd : va_G) (Y : yT) (b : Nat) (v : Value) (n : Int32) : MR l yJ5_isLatin1_aae02 wsJ5_isLatin1_aae02 rmJ5_isLatin1_aae02 Dd Y [.ref b] ([(b, .inr (9, [v, .int 0, .int 0, .int n]))]) (fun rv w => rv = some (.int 1) ∧ w = [(b, .inr (9, [v, .int 0, .int 0, .int n]))]) 0 0 := by
  refine MRk (cc := cJ5_isLatin1_aae02) (maxL := 1) (ret := (some .boolean)) (by decide) rfl (Nat.le_of_ble_eq_true rfl) (fun {p₀ e₀ s m args below meth c₀ A} ls Q X hin hW hl hI hV hA => ?_)
  have hx := X.x
  have hb := X.b
  have hl : lv_has ls 1 [(0, .ref b)] := hl
  have hinJ4 : ∀ w ∈ wsJ40, w ∈ wsJ5_isLatin1_aae02 := fun w h => List.mem_cons_of_mem _ (List.mem_append_right _ h)
  refine gz_ X hW X.2.2.2.2.2.1 1 rfl dJ5_isLatin1_aae02_0 ?_
  refine lv_if_eq (tgt := 17) hx hb dJ5_isLatin1_aae02_3 (by decide) (fun h => absurd h (by decide)) (fun _ => ?_)
  refine lv_aload_n hx hb dJ5_isLatin1_aae02_6 rfl (lv_at hl 0 rfl) ?_
  refine g_ X hinJ4 hW 0 rfl rfl 1 (by decide) 2 rfl rfl rfl dJ5_isLatin1_aae02_7 ?_
  refine lv_if_ne (tgt := 17) hx hb dJ5_isLatin1_aae02_10 (by decide) (fun h => absurd h (fun g => g rfl)) (fun _ => ?_)
  refine lv_iconst (v := 1) hx hb dJ5_isLatin1_aae02_13 (by decide) ?_
  refine lv_goto (tgt := 18) hx hb dJ5_isLatin1_aae02_14 (by decide) ?_
  exact hI _ _ _ _ _ _ _ _ _ ⟨rfl, rfl⟩ rfl rfl (Nat.le_of_ble_eq_true rfl) (Nat.le_of_ble_eq_true rfl) hW dJ5_isLatin1_aae02_18
abbrev rmJ5_length_8abf5 : Room := { frames := 0, cells := 0, slots := 0, locals := 0 }
set_option maxRecDepth 100000 in
set_option maxHeartbeats 4000000 in
theorem kJ5_length_8abf5 (l : Launch) (Dd : va_G) (Y : yT) (b : Nat) (v : Value) (n : Int32) : MR l yJ5_length_8abf5 wsJ5_length_8abf5 rmJ5_length_8abf5 Dd Y [.ref b] ([(b, .inr (9, [v, .int 0, .int 0, .int n]))]) (fun rv w => rv = some (.int n) ∧ w = [(b, .inr (9, [v, .int 0, .int 0, .int n]))]) 0 0 := by
  refine MRk (cc := cJ5_length_8abf5) (maxL := 1) (ret := (some .int)) (by decide) rfl (Nat.le_of_ble_eq_true rfl) (fun {p₀ e₀ s m args below meth c₀ A} ls Q X hin hW hl hI hV hA => ?_)
  have hx := X.x
  have hb := X.b
  have hl : lv_has ls 1 [(0, .ref b)] := hl
  have hinJ4 : ∀ w ∈ wsJ40, w ∈ wsJ5_length_8abf5 := fun w h => List.mem_cons_of_mem _ (List.mem_append_right _ h)
  refine lv_aload_n hx hb dJ5_length_8abf5_0 rfl (lv_at hl 0 rfl) ?_
  refine g_ X hinJ4 hW 0 rfl rfl 3 (by decide) 1 rfl rfl rfl dJ5_length_8abf5_1 ?_
  exact hI _ _ _ _ _ _ _ _ _ ⟨rfl, rfl⟩ rfl rfl (Nat.le_of_ble_eq_true rfl) (Nat.le_of_ble_eq_true rfl) hW dJ5_length_8abf5_4
abbrev rmJ4_length_8abf5 : Room := { frames := 1, cells := 0, slots := 0, locals := 20 }
set_option maxRecDepth 100000 in
set_option maxHeartbeats 4000000 in
theorem kJ4_length_8abf5 (l : Launch) (Dd : va_G) (Y : yT) (b : Nat) (v : Value) (n : Int32) : MR l yJ4_length_8abf5 wsJ4_length_8abf5 rmJ4_length_8abf5 Dd Y [.ref b] ([(b, .inr (9, [v, .int 0, .int 0, .int n]))]) (fun rv w => rv = some (.int n) ∧ w = [(b, .inr (9, [v, .int 0, .int 0, .int n]))]) 0 0 := by
  refine MRk (cc := cJ4_length_8abf5) (maxL := 1) (ret := (some .int)) (by decide) rfl (Nat.le_of_ble_eq_true rfl) (fun {p₀ e₀ s m args below meth c₀ A} ls Q X hin hW hl hI hV hA => ?_)
  have hx := X.x
  have hb := X.b
  have hl : lv_has ls 1 [(0, .ref b)] := hl
  refine lv_aload_n hx hb dJ4_length_8abf5_0 rfl (lv_at hl 0 rfl) ?_
  refine rX_ (As := []) (rest := []) (wc := [(b, .inr (9, [v, .int 0, .int 0, .int n]))]) (w9 := []) X (kJ5_length_8abf5 l Dd Y b v n) (va_cwSU 0 X.1.2.2.2.2 gJ4_length_8abf5_J5_length_8abf5_s343 rfl rfl rfl (by decide +kernel) ⟨(Nat.le_of_ble_eq_true rfl), (Nat.le_of_ble_eq_true rfl)⟩) hW (List.Perm.refl _) 0 9 rfl rfl rfl hl.1 rfl (Nat.le_of_ble_eq_true rfl) dJ4_length_8abf5_1 ⟨(Nat.le_of_ble_eq_true rfl), (Nat.le_of_ble_eq_true rfl)⟩ (fun rv wq H locs hp hW => ?_)
  obtain ⟨rfl, rfl⟩ := hp
  have hW : Wd Dd A s.heap ([(b, .inr (9, [v, .int 0, .int 0, .int n]))]) H locs := hW
  refine W.eq (g2 := F0 m 4 ls [.int n]) rfl ?_
  exact hI _ _ _ _ _ _ _ _ _ ⟨rfl, rfl⟩ rfl rfl (Nat.le_of_ble_eq_true rfl) (Nat.le_of_ble_eq_true rfl) hW dJ4_length_8abf5_4
abbrev rmJ5_getValue_6d5f1 : Room := { frames := 0, cells := 0, slots := 0, locals := 0 }
set_option maxRecDepth 100000 in
set_option maxHeartbeats 4000000 in
theorem kJ5_getValue_6d5f1 (l : Launch) (Dd : va_G) (Y : yT) (b ae : Nat) (n : Int32) : MR l yJ5_getValue_6d5f1 wsJ5_getValue_6d5f1 rmJ5_getValue_6d5f1 Dd Y [.ref b] ([(b, .inr (9, [.ref ae, .int 0, .int 0, .int n]))]) (fun rv w => rv = some (.ref ae) ∧ w = [(b, .inr (9, [.ref ae, .int 0, .int 0, .int n]))]) 0 0 := by
  refine MRk (cc := cJ5_getValue_6d5f1) (maxL := 1) (ret := (some (.array .byte))) (by decide) rfl (Nat.le_of_ble_eq_true rfl) (fun {p₀ e₀ s m args below meth c₀ A} ls Q X hin hW hl hI hV hA => ?_)
  have hx := X.x
  have hb := X.b
  have hl : lv_has ls 1 [(0, .ref b)] := hl
  have hinJ4 : ∀ w ∈ wsJ40, w ∈ wsJ5_getValue_6d5f1 := fun w h => List.mem_cons_of_mem _ (List.mem_append_right _ h)
  refine lv_aload_n hx hb dJ5_getValue_6d5f1_0 rfl (lv_at hl 0 rfl) ?_
  refine g_ X hinJ4 hW 0 rfl rfl 0 (by decide) 1 rfl rfl rfl dJ5_getValue_6d5f1_1 ?_
  exact hA _ _ _ _ _ _ (some ae) _ _ ⟨rfl, rfl⟩ rfl (Or.inr ⟨_, rfl⟩) (Nat.le_of_ble_eq_true rfl) (Nat.le_of_ble_eq_true rfl) hW dJ5_getValue_6d5f1_4
abbrev rmJ1_canEncode_fc78d : Room := { frames := 0, cells := 0, slots := 0, locals := 0 }
set_option maxRecDepth 100000 in
set_option maxHeartbeats 4000000 in
theorem kJ1_canEncode_fc78d (l : Launch) (Dd : va_G) (Y : yT) (c : Nat) (hc : c < 128) : MR l yJ1_canEncode_fc78d wsJ1_canEncode_fc78d rmJ1_canEncode_fc78d Dd Y [.int (nI c)] ([]) (fun rv w => rv = some (.int 1) ∧ w = []) 0 0 := by
  refine MRk (cc := cJ1_canEncode_fc78d) (maxL := 1) (ret := (some .boolean)) (by decide) rfl (Nat.le_of_ble_eq_true rfl) (fun {p₀ e₀ s m args below meth c₀ A} ls Q X hin hW hl hI hV hA => ?_)
  have hx := X.x
  have hb := X.b
  have hl : lv_has ls 1 [(0, .int (nI c))] := hl
  refine lv_iload_n hx hb dJ1_canEncode_fc78d_0 rfl (lv_at hl 0 rfl) ?_
  refine lv_sipush (v := 255) hx hb dJ1_canEncode_fc78d_1 (by decide) ?_
  refine lv_icmp_gt (tgt := 11) hx hb dJ1_canEncode_fc78d_4 (by decide) (fun h => absurd h (nI_nlt (a := 255) (by omega) (by decide))) (fun _ => ?_)
  refine lv_iconst (v := 1) hx hb dJ1_canEncode_fc78d_7 (by decide) ?_
  refine lv_goto (tgt := 12) hx hb dJ1_canEncode_fc78d_8 (by decide) ?_
  exact hI _ _ _ _ _ _ _ _ _ ⟨rfl, rfl⟩ rfl rfl (Nat.le_of_ble_eq_true rfl) (Nat.le_of_ble_eq_true rfl) hW dJ1_canEncode_fc78d_12
abbrev rmJ5_newCapacity_0f7a4 : Room := { frames := 2, cells := 0, slots := 0, locals := 44 }
set_option maxRecDepth 100000 in
set_option maxHeartbeats 4000000 in
theorem kJ5_newCapacity_0f7a4 (l : Launch) (Dd : va_G) (Y : yT) (b ae cap q : Nat) (n : Int32) (f : Nat → Int32) (h0 : 0 < cap) (hc : cap ≤ 100000) (hq : cap < q) (hq2 : q ≤ 100000) : MR l yJ5_newCapacity_0f7a4 wsJ5_newCapacity_0f7a4 rmJ5_newCapacity_0f7a4 Dd Y [.ref b, .int (nI q)] ([(b, .inr (9, [.ref ae, .int 0, .int 0, .int n])), (ae, .inl (Y.2.1 0, cap, .inl f))]) (fun rv w => rv = some (.int (nI (cap + max (q - cap) (cap + 2)))) ∧ w = [(b, .inr (9, [.ref ae, .int 0, .int 0, .int n])), (ae, .inl (Y.2.1 0, cap, .inl f))]) 0 0 := by
  refine MRk (cc := cJ5_newCapacity_0f7a4) (maxL := 6) (ret := (some .int)) (by decide) rfl (Nat.le_of_ble_eq_true rfl) (fun {p₀ e₀ s m args below meth c₀ A} ls Q X hin hW hl hI hV hA => ?_)
  have hx := X.x
  have hb := X.b
  have hl : lv_has ls 6 [(0, .ref b), (1, .int (nI q))] := hl
  have hinJ4 : ∀ w ∈ wsJ40, w ∈ wsJ5_newCapacity_0f7a4 := fun w h => List.mem_cons_of_mem _ (List.mem_append_right _ h)
  refine lv_aload_n hx hb dJ5_newCapacity_0f7a4_0 rfl (lv_at hl 0 rfl) ?_
  refine g_ X hinJ4 hW 0 rfl rfl 0 (by decide) 1 rfl rfl rfl dJ5_newCapacity_0f7a4_1 ?_
  refine len_ (v := nI cap) X hW 1 1 rfl rfl rfl dJ5_newCapacity_0f7a4_4 ?_
  refine lv_istore_n (lv' := [(2, .int (nI cap)), (0, .ref b), (1, .int (nI q))]) hx hb dJ5_newCapacity_0f7a4_5 rfl hl (by decide) rfl (fun ls hl => ?_)
  refine lv_iload_n hx hb dJ5_newCapacity_0f7a4_6 rfl (lv_at hl 2 rfl) ?_
  refine lv_aload_n hx hb dJ5_newCapacity_0f7a4_7 rfl (lv_at hl 1 rfl) ?_
  refine g_ X hinJ4 hW 0 rfl rfl 1 (by decide) 2 rfl rfl rfl dJ5_newCapacity_0f7a4_8 ?_
  refine lv_ishl hx hb dJ5_newCapacity_0f7a4_11 ?_
  rw [sb_shl0]
  refine lv_istore_n (lv' := [(3, .int (nI q)), (2, .int (nI cap)), (0, .ref b), (1, .int (nI q))]) hx hb dJ5_newCapacity_0f7a4_12 rfl hl (by decide) rfl (fun ls hl => ?_)
  refine lv_iload_n hx hb dJ5_newCapacity_0f7a4_13 rfl (lv_at hl 0 rfl) ?_
  refine lv_iload_n hx hb dJ5_newCapacity_0f7a4_14 rfl (lv_at hl 1 rfl) ?_
  refine lv_isub hx hb dJ5_newCapacity_0f7a4_15 ?_
  rw [show nI q - nI cap = nI (q - cap) from pk_sub (by omega)]
  refine lv_istore (lv' := [(4, .int (nI (q - cap))), (3, .int (nI q)), (2, .int (nI cap)), (0, .ref b), (1, .int (nI q))]) hx hb dJ5_newCapacity_0f7a4_16 hl (by decide) rfl (fun ls hl => ?_)
  refine lv_iload_n hx hb dJ5_newCapacity_0f7a4_18 rfl (lv_at hl 2 rfl) ?_
  refine lv_iload hx hb dJ5_newCapacity_0f7a4_19 (lv_at hl 0 rfl) ?_
  refine lv_iload_n hx hb dJ5_newCapacity_0f7a4_21 rfl (lv_at hl 2 rfl) ?_
  refine lv_iconst (v := 2) hx hb dJ5_newCapacity_0f7a4_22 (by decide) ?_
  refine lv_aload_n hx hb dJ5_newCapacity_0f7a4_23 rfl (lv_at hl 3 rfl) ?_
  refine g_ X hinJ4 hW 0 rfl rfl 1 (by decide) 2 rfl rfl rfl dJ5_newCapacity_0f7a4_24 ?_
  refine lv_ishl hx hb dJ5_newCapacity_0f7a4_27 ?_
  rw [sb_shl0]
  refine lv_iadd hx hb dJ5_newCapacity_0f7a4_28 ?_
  rw [show nI cap + 2 = nI (cap + 2) from nI_add cap 2]
  refine rS_ (As := [.int (nI cap), .int (nI (q - cap)), .int (nI (cap + 2))]) (rest := []) (wc := []) (w9 := [(b, .inr (9, [.ref ae, .int 0, .int 0, .int n])), (ae, .inl (Y.2.1 0, cap, .inl f))]) X (kJ8_newLength_cabcc l Dd Y cap (q - cap) (cap + 2) h0 (by omega) (by omega) (by omega)) (va_cwS 3 X.1.2.2.2.2 gJ5_newCapacity_0f7a4_J8_newLength_cabcc rfl rfl rfl (by decide +kernel) ⟨(Nat.le_of_ble_eq_true rfl), (Nat.le_of_ble_eq_true rfl)⟩) hW (List.Perm.refl _) rfl hl.1 rfl (Nat.le_of_ble_eq_true rfl) dJ5_newCapacity_0f7a4_29 ⟨(Nat.le_of_ble_eq_true rfl), (Nat.le_of_ble_eq_true rfl)⟩ (fun rv wq H locs hp hW => ?_)
  obtain ⟨rfl, rfl⟩ := hp
  have hW : Wd Dd A s.heap ([(b, .inr (9, [.ref ae, .int 0, .int 0, .int n])), (ae, .inl (Y.2.1 0, cap, .inl f))]) H locs := hW
  refine W.eq (g2 := F0 m 32 ls [.int (nI (cap + max (q - cap) (cap + 2)))]) rfl ?_
  refine lv_istore (lv' := [(5, .int (nI (cap + max (q - cap) (cap + 2)))), (4, .int (nI (q - cap))), (3, .int (nI q)), (2, .int (nI cap)), (0, .ref b), (1, .int (nI q))]) hx hb dJ5_newCapacity_0f7a4_32 hl (by decide) rfl (fun ls hl => ?_)
  refine lv_iload hx hb dJ5_newCapacity_0f7a4_34 (lv_at hl 0 rfl) ?_
  refine lv_ldc hx hb X.1.2.2.2.1 (X.w (i := 3) rfl) dJ5_newCapacity_0f7a4_36 ?_
  refine lv_icmp_ne (tgt := 51) hx hb dJ5_newCapacity_0f7a4_38 (by decide) (fun _ => ?_) (fun h => absurd ((nI_eq (b := 2147483647) (by omega) (by decide)).mp h) (by omega))
  refine lv_iload hx hb dJ5_newCapacity_0f7a4_51 (lv_at hl 0 rfl) ?_
  refine lv_aload_n hx hb dJ5_newCapacity_0f7a4_53 rfl (lv_at hl 4 rfl) ?_
  refine g_ X hinJ4 hW 0 rfl rfl 1 (by decide) 2 rfl rfl rfl dJ5_newCapacity_0f7a4_54 ?_
  refine lv_ishr hx hb dJ5_newCapacity_0f7a4_57 ?_
  rw [sb_shr0]
  exact hI _ _ _ _ _ _ _ _ _ ⟨rfl, rfl⟩ rfl rfl (Nat.le_of_ble_eq_true rfl) (Nat.le_of_ble_eq_true rfl) hW dJ5_newCapacity_0f7a4_58
abbrev rmJ7_copyOf_9075b : Room := { frames := 1, cells := 1, slots := 5000, locals := 26 }
set_option maxRecDepth 100000 in
set_option maxHeartbeats 4000000 in
theorem kJ7_copyOf_9075b (l : Launch) (Dd : va_G) (Y : yT) (ae cap n : Nat) (f : Nat → Int32) (hcn : cap < n) (hn : n ≤ 5000) (hf : sb_Fit f) : MR l yJ7_copyOf_9075b wsJ7_copyOf_9075b rmJ7_copyOf_9075b Dd Y [.ref ae, .int (nI n)] ([(ae, .inl (Y.2.1 0, cap, .inl f))]) (fun rv w => ∃ q : Nat, rv = some (.ref q) ∧ w = [(ae, .inl (Y.2.1 0, cap, .inl f)), (q, .inl (Y.2.1 0, n, .inl (va_cpy f (fun _ => 0) 0 0 cap)))]) 1 5000 := by
  refine MRk (cc := cJ7_copyOf_9075b) (maxL := 3) (ret := (some (.array .byte))) (by decide) rfl (Nat.le_of_ble_eq_true rfl) (fun {p₀ e₀ s m args below meth c₀ A} ls Q X hin hW hl hI hV hA => ?_)
  have hx := X.x
  have hb := X.b
  have hl : lv_has ls 3 [(0, .ref ae), (1, .int (nI n))] := hl
  have hms : 0 + n ≤ 5000 := by omega
  refine lv_iload_n hx hb dJ7_copyOf_9075b_0 rfl (lv_at hl 1 rfl) ?_
  refine lv_aload_n hx hb dJ7_copyOf_9075b_1 rfl (lv_at hl 0 rfl) ?_
  refine len_ (v := nI cap) X hW 0 1 rfl rfl rfl dJ7_copyOf_9075b_2 ?_
  refine lv_icmp_ne (tgt := 14) hx hb dJ7_copyOf_9075b_3 (by decide) (fun _ => ?_) (fun h => absurd ((nI_eq (by omega) (by omega)).mp h) (by omega))
  refine lv_iload_n hx hb dJ7_copyOf_9075b_14 rfl (lv_at hl 1 rfl) ?_
  refine nb_ (N' := n) X 7 rfl hW (nI_pos (by omega)) (nI_clamp (by omega)) (by omega) (Nat.le_of_ble_eq_true rfl) hms dJ7_copyOf_9075b_15 (fun q H hW => ?_)
  have hW : Wd Dd A s.heap ([(ae, .inl (Y.2.1 0, cap, .inl f)), (q, .inl (Y.2.1 0, n, .inl (fun _ => 0)))]) _ _ := hW
  refine lv_astore_n (lv' := [(2, .ref q), (0, .ref ae), (1, .int (nI n))]) hx hb dJ7_copyOf_9075b_17 rfl hl (by decide) rfl (fun ls hl => ?_)
  refine lv_aload_n hx hb dJ7_copyOf_9075b_18 rfl (lv_at hl 1 rfl) ?_
  refine lv_iconst (v := 0) hx hb dJ7_copyOf_9075b_19 (by decide) ?_
  refine lv_aload_n hx hb dJ7_copyOf_9075b_20 rfl (lv_at hl 0 rfl) ?_
  refine lv_iconst (v := 0) hx hb dJ7_copyOf_9075b_21 (by decide) ?_
  refine lv_aload_n hx hb dJ7_copyOf_9075b_22 rfl (lv_at hl 1 rfl) ?_
  refine len_ (v := nI cap) X hW 0 1 rfl rfl rfl dJ7_copyOf_9075b_23 ?_
  refine lv_iload_n hx hb dJ7_copyOf_9075b_24 rfl (lv_at hl 2 rfl) ?_
  refine min_ X hl.1 8 9 10 11 rfl rfl rfl rfl ⟨(Nat.le_of_ble_eq_true rfl), (Nat.le_of_ble_eq_true rfl)⟩ (Nat.le_of_ble_eq_true rfl) ⟨(Nat.le_of_ble_eq_true rfl), hms⟩ dJ7_copyOf_9075b_25 ?_
  rw [show (if nI n < nI cap then nI n else nI cap) = nI cap from if_neg (nI_nlt (by omega) (by omega))]
  refine cpb_ X hl.1 12 13 14 15 rfl rfl rfl rfl ⟨(Nat.le_of_ble_eq_true rfl), (Nat.le_of_ble_eq_true rfl)⟩ (Nat.le_of_ble_eq_true rfl) hW 0 1 rfl rfl (sp' := 0) (dp' := 0) (n' := cap) rfl rfl rfl (by omega) (by omega) (by omega) (by omega) (fun i _ => hf _) dJ7_copyOf_9075b_28 (ws' := [(ae, .inl (Y.2.1 0, cap, .inl f)), (q, .inl (Y.2.1 0, n, .inl (va_cpy f (fun _ => 0) 0 0 cap)))]) rfl (fun H locs hW => ?_)
  refine lv_aload_n hx hb dJ7_copyOf_9075b_31 rfl (lv_at hl 0 rfl) ?_
  exact hA _ _ _ _ _ _ (some q) _ _ ⟨q, rfl, rfl⟩ rfl (Or.inr ⟨_, rfl⟩) (Nat.le_of_ble_eq_true rfl) hms hW dJ7_copyOf_9075b_32
theorem ec_le {q cap : Nat} (h : nI q - nI cap ≤ 0) (hc : cap ≤ 1000) (hq : q ≤ 1000) : q ≤ cap := by
  have e : (nI q - nI cap).toInt = (q : Int) - cap := pk_sub_toInt (by omega) (by omega)
  rw [Int32.le_iff_toInt_le, e, Int32.toInt_zero] at h
  omega
theorem ec_gt {q cap : Nat} (h : ¬ nI q - nI cap ≤ 0) (hc : cap ≤ 1000) (hq : q ≤ 1000) : cap < q := by
  have e : (nI q - nI cap).toInt = (q : Int) - cap := pk_sub_toInt (by omega) (by omega)
  rw [Int32.le_iff_toInt_le, e, Int32.toInt_zero] at h
  omega
abbrev rmJ5_ensureCapacityInternal_d00df : Room := { frames := 3, cells := 1, slots := 5000, locals := 69 }
set_option maxRecDepth 100000 in
set_option maxHeartbeats 4000000 in
theorem kJ5_ensureCapacityInternal_d00df (l : Launch) (Dd : va_G) (Y : yT) (b ae cap q : Nat) (n : Int32) (f : Nat → Int32) (h0 : 0 < cap) (hc : cap ≤ 1000) (hq : q ≤ 1000) (hf : sb_Fit f) : MR l yJ5_ensureCapacityInternal_d00df wsJ5_ensureCapacityInternal_d00df rmJ5_ensureCapacityInternal_d00df Dd Y [.ref b, .int (nI q)] ([(b, .inr (9, [.ref ae, .int 0, .int 0, .int n])), (ae, .inl (Y.2.1 0, cap, .inl f))]) (fun rv w => rv = none ∧ ∃ (ae' cap' : Nat) (f' : Nat → Int32), cap ≤ cap' ∧ q ≤ cap' ∧ (cap' = cap ∨ cap' ≤ 3 * q + 2) ∧ sb_Fit f' ∧ (∀ j : Nat, j < cap → f' j = f j) ∧ w = [(b, .inr (9, [.ref ae', .int 0, .int 0, .int n])), (ae', .inl (Y.2.1 0, cap', .inl f'))]) 1 5000 := by
  refine MRk (cc := cJ5_ensureCapacityInternal_d00df) (maxL := 3) (ret := none) (by decide) rfl (Nat.le_of_ble_eq_true rfl) (fun {p₀ e₀ s m args below meth c₀ A} ls Q X hin hW hl hI hV hA => ?_)
  have hx := X.x
  have hb := X.b
  have hl : lv_has ls 3 [(0, .ref b), (1, .int (nI q))] := hl
  have hinJ4 : ∀ w ∈ wsJ40, w ∈ wsJ5_ensureCapacityInternal_d00df := fun w h => List.mem_cons_of_mem _ (List.mem_append_right _ h)
  refine lv_aload_n hx hb dJ5_ensureCapacityInternal_d00df_0 rfl (lv_at hl 0 rfl) ?_
  refine g_ X hinJ4 hW 0 rfl rfl 0 (by decide) 1 rfl rfl rfl dJ5_ensureCapacityInternal_d00df_1 ?_
  refine len_ (v := nI cap) X hW 1 1 rfl rfl rfl dJ5_ensureCapacityInternal_d00df_4 ?_
  refine lv_aload_n hx hb dJ5_ensureCapacityInternal_d00df_5 rfl (lv_at hl 0 rfl) ?_
  refine g_ X hinJ4 hW 0 rfl rfl 1 (by decide) 2 rfl rfl rfl dJ5_ensureCapacityInternal_d00df_6 ?_
  refine lv_ishr hx hb dJ5_ensureCapacityInternal_d00df_9 ?_
  rw [sb_shr0]
  refine lv_istore_n (lv' := [(2, .int (nI cap)), (0, .ref b), (1, .int (nI q))]) hx hb dJ5_ensureCapacityInternal_d00df_10 rfl hl (by decide) rfl (fun ls hl => ?_)
  refine lv_iload_n hx hb dJ5_ensureCapacityInternal_d00df_11 rfl (lv_at hl 2 rfl) ?_
  refine lv_iload_n hx hb dJ5_ensureCapacityInternal_d00df_12 rfl (lv_at hl 0 rfl) ?_
  refine lv_isub hx hb dJ5_ensureCapacityInternal_d00df_13 ?_
  refine lv_if_le (tgt := 38) hx hb dJ5_ensureCapacityInternal_d00df_14 (by decide) (fun cq => ?_) (fun cq => ?_)
  · exact hV _ _ _ _ _ _ _ ⟨rfl, ae, cap, f, Nat.le_refl _, ec_le cq hc hq, Or.inl rfl, hf, fun _ _ => rfl, rfl⟩ rfl (Nat.le_of_ble_eq_true rfl) (Nat.le_of_ble_eq_true rfl) hW dJ5_ensureCapacityInternal_d00df_38
  · have hlt := ec_gt cq hc hq
    refine lv_aload_n hx hb dJ5_ensureCapacityInternal_d00df_17 rfl (lv_at hl 1 rfl) ?_
    refine lv_aload_n hx hb dJ5_ensureCapacityInternal_d00df_18 rfl (lv_at hl 1 rfl) ?_
    refine g_ X hinJ4 hW 0 rfl rfl 0 (by decide) 1 rfl rfl rfl dJ5_ensureCapacityInternal_d00df_19 ?_
    refine lv_aload_n hx hb dJ5_ensureCapacityInternal_d00df_22 rfl (lv_at hl 1 rfl) ?_
    refine lv_iload_n hx hb dJ5_ensureCapacityInternal_d00df_23 rfl (lv_at hl 2 rfl) ?_
    refine rU_ (As := [.int (nI q)]) (rest := [.ref ae, .ref b]) (wc := [(b, .inr (9, [.ref ae, .int 0, .int 0, .int n])), (ae, .inl (Y.2.1 0, cap, .inl f))]) (w9 := []) X (kJ5_newCapacity_0f7a4 l Dd Y b ae cap q n f h0 (by omega) hlt (by omega)) (va_cwU 1 X.1.2.2.2.2 gJ5_ensureCapacityInternal_d00df_J5_newCapacity_0f7a4_u104J4 rfl rfl rfl rfl (by decide +kernel) ⟨(Nat.le_of_ble_eq_true rfl), (Nat.le_of_ble_eq_true rfl)⟩) hW (List.Perm.refl _) 0 9 rfl rfl rfl rfl hl.1 rfl (Nat.le_of_ble_eq_true rfl) dJ5_ensureCapacityInternal_d00df_24 ⟨(Nat.le_of_ble_eq_true rfl), (Nat.le_of_ble_eq_true rfl)⟩ (fun rv wq H locs hp hW => ?_)
    obtain ⟨rfl, rfl⟩ := hp
    have hW : Wd Dd A s.heap ([(b, .inr (9, [.ref ae, .int 0, .int 0, .int n])), (ae, .inl (Y.2.1 0, cap, .inl f))]) H locs := hW
    refine W.eq (g2 := F0 m 27 ls [.int (nI (cap + max (q - cap) (cap + 2))), .ref ae, .ref b]) rfl ?_
    refine lv_aload_n hx hb dJ5_ensureCapacityInternal_d00df_27 rfl (lv_at hl 1 rfl) ?_
    refine g_ X hinJ4 hW 0 rfl rfl 1 (by decide) 2 rfl rfl rfl dJ5_ensureCapacityInternal_d00df_28 ?_
    refine lv_ishl hx hb dJ5_ensureCapacityInternal_d00df_31 ?_
    rw [sb_shl0]
    refine rS_ (As := [.ref ae, .int (nI (cap + max (q - cap) (cap + 2)))]) (rest := [.ref b]) (wc := [(ae, .inl (Y.2.1 0, cap, .inl f))]) (w9 := [(b, .inr (9, [.ref ae, .int 0, .int 0, .int n]))]) X (kJ7_copyOf_9075b l Dd Y ae cap (cap + max (q - cap) (cap + 2)) f (by omega) (by omega) hf) (va_cwS 2 X.1.2.2.2.2 gJ5_ensureCapacityInternal_d00df_J7_copyOf_9075b rfl rfl rfl (by decide +kernel) ⟨(Nat.le_of_ble_eq_true rfl), (Nat.le_of_ble_eq_true rfl)⟩) hW (pmq5 _ _) rfl hl.1 rfl (Nat.le_of_ble_eq_true rfl) dJ5_ensureCapacityInternal_d00df_32 ⟨(Nat.le_of_ble_eq_true rfl), (Nat.le_of_ble_eq_true rfl)⟩ (fun rv wq H locs hp hW => ?_)
    obtain ⟨q2, rfl, rfl⟩ := hp
    have hW : Wd Dd A s.heap ([(ae, .inl (Y.2.1 0, cap, .inl f)), (q2, .inl (Y.2.1 0, (cap + max (q - cap) (cap + 2)), .inl (va_cpy f (fun _ => 0) 0 0 cap))), (b, .inr (9, [.ref ae, .int 0, .int 0, .int n]))]) H locs := hW
    refine W.eq (g2 := F0 m 35 ls [.ref q2, .ref b]) rfl ?_
    have hW : Wd Dd A s.heap ([(b, .inr (9, [.ref ae, .int 0, .int 0, .int n])), (q2, .inl (Y.2.1 0, (cap + max (q - cap) (cap + 2)), .inl (va_cpy f (fun _ => 0) 0 0 cap))), (ae, .inl (Y.2.1 0, cap, .inl f))]) H locs := hW.permA (pmq6 _ _ _)
    refine p_ (ty := (.array .byte)) X hinJ4 tyJ4 tyJ4_ok nmJ4 hW 0 rfl rfl 0 (by decide) 1 rfl rfl rfl (by decide +kernel) rfl rfl (Nat.le_of_ble_eq_true rfl) dJ5_ensureCapacityInternal_d00df_35 (ws' := [(b, .inr (9, [.ref q2, .int 0, .int 0, .int n])), (q2, .inl (Y.2.1 0, (cap + max (q - cap) (cap + 2)), .inl (va_cpy f (fun _ => 0) 0 0 cap))), (ae, .inl (Y.2.1 0, cap, .inl f))]) rfl (fun H locs hW => ?_)
    have hW : Wd Dd A s.heap ([(b, .inr (9, [.ref q2, .int 0, .int 0, .int n])), (q2, .inl (Y.2.1 0, (cap + max (q - cap) (cap + 2)), .inl (va_cpy f (fun _ => 0) 0 0 cap)))] ++ [(ae, .inl (Y.2.1 0, cap, .inl f))]) H locs := hW
    exact hV _ _ _ _ _ _ _ ⟨rfl, q2, (cap + max (q - cap) (cap + 2)), _, by omega, by omega, Or.inr (by omega), sb_fitC hf sb_fit0, fun j hj => sb_cpy0 hj, rfl⟩ rfl (Nat.le_of_ble_eq_true rfl) (Nat.le_of_ble_eq_true rfl) hW.drop dJ5_ensureCapacityInternal_d00df_38
set_option maxRecDepth 100000 in
set_option maxHeartbeats 4000000 in
theorem hJ0_coder_7d493 (l : Launch) (Dd : va_G) (Y : yT) (s0 : Nat) (v : Value) : MR l yJ0_coder_7d493 wsJ0_coder_7d493 rmJ0_coder_7d493 Dd Y [.ref s0] ([(s0, .inr (8, [v, .int 0, .int 0, .int 0]))]) (fun rv w => rv = some (.int 0) ∧ w = [(s0, .inr (8, [v, .int 0, .int 0, .int 0]))]) 0 0 := by
  refine MRk (cc := cJ0_coder_7d493) (maxL := 1) (ret := (some .byte)) (by decide) rfl (Nat.le_of_ble_eq_true rfl) (fun {p₀ e₀ s m args below meth c₀ A} ls Q X hin hW hl hI hV hA => ?_)
  have hx := X.x
  have hb := X.b
  have hl : lv_has ls 1 [(0, .ref s0)] := hl
  have hinJ0 : ∀ w ∈ wsJ00, w ∈ wsJ0_coder_7d493 := fun w h => List.mem_cons_of_mem _ (List.mem_append_right _ h)
  refine gz_ X hW X.2.2.2.2.2.1 1 rfl dJ0_coder_7d493_0 ?_
  refine lv_if_eq (tgt := 13) hx hb dJ0_coder_7d493_3 (by decide) (fun h => absurd h (by decide)) (fun _ => ?_)
  refine lv_aload_n hx hb dJ0_coder_7d493_6 rfl (lv_at hl 0 rfl) ?_
  refine g_ X hinJ0 hW 0 rfl rfl 1 (by decide) 2 rfl rfl rfl dJ0_coder_7d493_7 ?_
  refine lv_goto (tgt := 14) hx hb dJ0_coder_7d493_10 (by decide) ?_
  exact hI _ _ _ _ _ _ _ _ _ ⟨rfl, rfl⟩ rfl (by decide) (Nat.le_of_ble_eq_true rfl) (Nat.le_of_ble_eq_true rfl) hW dJ0_coder_7d493_14
set_option maxRecDepth 100000 in
set_option maxHeartbeats 4000000 in
theorem hJ0_isLatin1_aae02 (l : Launch) (Dd : va_G) (Y : yT) (s0 : Nat) (v : Value) : MR l yJ0_isLatin1_aae02 wsJ0_isLatin1_aae02 rmJ0_isLatin1_aae02 Dd Y [.ref s0] ([(s0, .inr (8, [v, .int 0, .int 0, .int 0]))]) (fun rv w => rv = some (.int 1) ∧ w = [(s0, .inr (8, [v, .int 0, .int 0, .int 0]))]) 0 0 := by
  refine MRk (cc := cJ0_isLatin1_aae02) (maxL := 1) (ret := (some .boolean)) (by decide) rfl (Nat.le_of_ble_eq_true rfl) (fun {p₀ e₀ s m args below meth c₀ A} ls Q X hin hW hl hI hV hA => ?_)
  have hx := X.x
  have hb := X.b
  have hl : lv_has ls 1 [(0, .ref s0)] := hl
  have hinJ0 : ∀ w ∈ wsJ00, w ∈ wsJ0_isLatin1_aae02 := fun w h => List.mem_cons_of_mem _ (List.mem_append_right _ h)
  refine gz_ X hW X.2.2.2.2.2.1 1 rfl dJ0_isLatin1_aae02_0 ?_
  refine lv_if_eq (tgt := 17) hx hb dJ0_isLatin1_aae02_3 (by decide) (fun h => absurd h (by decide)) (fun _ => ?_)
  refine lv_aload_n hx hb dJ0_isLatin1_aae02_6 rfl (lv_at hl 0 rfl) ?_
  refine g_ X hinJ0 hW 0 rfl rfl 1 (by decide) 2 rfl rfl rfl dJ0_isLatin1_aae02_7 ?_
  refine lv_if_ne (tgt := 17) hx hb dJ0_isLatin1_aae02_10 (by decide) (fun h => absurd h (fun g => g rfl)) (fun _ => ?_)
  refine lv_iconst (v := 1) hx hb dJ0_isLatin1_aae02_13 (by decide) ?_
  refine lv_goto (tgt := 18) hx hb dJ0_isLatin1_aae02_14 (by decide) ?_
  exact hI _ _ _ _ _ _ _ _ _ ⟨rfl, rfl⟩ rfl (by decide) (Nat.le_of_ble_eq_true rfl) (Nat.le_of_ble_eq_true rfl) hW dJ0_isLatin1_aae02_18
set_option maxRecDepth 100000 in
set_option maxHeartbeats 4000000 in
theorem hJ0_length_8abf5 (l : Launch) (Dd : va_G) (Y : yT) (s0 av n : Nat) (f : Nat → Int32) : MR l yJ0_length_8abf5 wsJ0_length_8abf5 rmJ0_length_8abf5 Dd Y [.ref s0] ([(s0, .inr (8, [.ref av, .int 0, .int 0, .int 0])), (av, .inl (Y.2.1 0, n, .inl f))]) (fun rv w => rv = some (.int (nI n)) ∧ w = [(s0, .inr (8, [.ref av, .int 0, .int 0, .int 0])), (av, .inl (Y.2.1 0, n, .inl f))]) 0 0 := by
  refine MRk (cc := cJ0_length_8abf5) (maxL := 1) (ret := (some .int)) (by decide) rfl (Nat.le_of_ble_eq_true rfl) (fun {p₀ e₀ s m args below meth c₀ A} ls Q X hin hW hl hI hV hA => ?_)
  have hx := X.x
  have hb := X.b
  have hl : lv_has ls 1 [(0, .ref s0)] := hl
  have hinJ0 : ∀ w ∈ wsJ00, w ∈ wsJ0_length_8abf5 := fun w h => List.mem_cons_of_mem _ (List.mem_append_right _ h)
  refine lv_aload_n hx hb dJ0_length_8abf5_0 rfl (lv_at hl 0 rfl) ?_
  refine g_ X hinJ0 hW 0 rfl rfl 0 (by decide) 1 rfl rfl rfl dJ0_length_8abf5_1 ?_
  refine len_ (v := nI n) X hW 1 1 rfl rfl rfl dJ0_length_8abf5_4 ?_
  refine lv_aload_n hx hb dJ0_length_8abf5_5 rfl (lv_at hl 0 rfl) ?_
  refine rV_ (As := []) (rest := [.int (nI n)]) (wc := [(s0, .inr (8, [.ref av, .int 0, .int 0, .int 0]))]) (w9 := [(av, .inl (Y.2.1 0, n, .inl f))]) X (hJ0_coder_7d493 l Dd Y s0 (.ref av)) (cwV 0 X.1.2.2.2.2 gJ0_length_8abf5_J0_coder_7d493 rfl rfl rfl (by decide +kernel) ⟨(Nat.le_of_ble_eq_true rfl), (Nat.le_of_ble_eq_true rfl)⟩) hW (List.Perm.refl _) 0 8 rfl rfl rfl rfl hl.1 rfl (Nat.le_of_ble_eq_true rfl) dJ0_length_8abf5_6 ⟨(Nat.le_of_ble_eq_true rfl), (Nat.le_of_ble_eq_true rfl)⟩ (fun rv wq H locs hp hW => ?_)
  obtain ⟨rfl, rfl⟩ := hp
  have hW : Wd Dd A s.heap ([(s0, .inr (8, [.ref av, .int 0, .int 0, .int 0])), (av, .inl (Y.2.1 0, n, .inl f))]) H locs := hW
  refine W.eq (g2 := F0 m 9 ls [.int 0, .int (nI n)]) rfl ?_
  refine lv_ishr hx hb dJ0_length_8abf5_9 ?_
  rw [sb_shr0]
  exact hI _ _ _ _ _ _ _ _ _ ⟨rfl, rfl⟩ rfl rfl (Nat.le_of_ble_eq_true rfl) (Nat.le_of_ble_eq_true rfl) hW dJ0_length_8abf5_10
theorem asc : ∀ c : Nat, c < 128 → (nI c &&& 255 = nI c ∧ ((nI c).toUInt32 % 65536).toInt32 = nI c ∧ narrow .char (.int (nI c)) = .int (nI c) ∧ (nI c).toInt8.toInt32 = nI c ∧ vp_nar .byte (nI c) = nI c ∧ fits .byte (.int (nI c)) = true) := by decide +kernel
set_option maxRecDepth 100000 in
set_option maxHeartbeats 4000000 in
theorem hJ1_charAt_3b067 (l : Launch) (Dd : va_G) (Y : yT) (av n i c : Nat) (f : Nat → Int32) (hi : i < n) (hn : n < 2 ^ 31) (hfi : f i = nI c) (hc : c < 128) : MR l yJ1_charAt_3b067 wsJ1_charAt_3b067 rmJ1_charAt_3b067 Dd Y [.ref av, .int (nI i)] ([(av, .inl (Y.2.1 0, n, .inl f))]) (fun rv w => rv = some (.int (nI c)) ∧ w = [(av, .inl (Y.2.1 0, n, .inl f))]) 0 0 := by
  refine MRk (cc := cJ1_charAt_3b067) (maxL := 2) (ret := (some .char)) (by decide) rfl (Nat.le_of_ble_eq_true rfl) (fun {p₀ e₀ s m args below meth c₀ A} ls Q X hin hW hl hI hV hA => ?_)
  have hx := X.x
  have hb := X.b
  have hl : lv_has ls 2 [(0, .ref av), (1, .int (nI i))] := hl
  refine lv_iload_n hx hb dJ1_charAt_3b067_0 rfl (lv_at hl 1 rfl) ?_
  refine lv_aload_n hx hb dJ1_charAt_3b067_1 rfl (lv_at hl 0 rfl) ?_
  refine len_ (v := nI n) X hW 0 1 rfl rfl rfl dJ1_charAt_3b067_2 ?_
  refine cSv_ (As := [.int (nI i), .int (nI n)]) (rest := []) X (kJ0_checkIndex_df160 l Dd Y (nI i) (nI n) (nI_pos (by omega)) (nI_lt hi hn)) (va_cwS 2 X.1.2.2.2.2 gJ1_charAt_3b067_J0_checkIndex_df160 rfl rfl rfl (by decide +kernel) ⟨(Nat.le_of_ble_eq_true rfl), (Nat.le_of_ble_eq_true rfl)⟩) hW rfl hl.1 rfl (Nat.le_of_ble_eq_true rfl) dJ1_charAt_3b067_3 ⟨(Nat.le_of_ble_eq_true rfl), (Nat.le_of_ble_eq_true rfl)⟩ (fun H locs hW => ?_)
  refine lv_aload_n hx hb dJ1_charAt_3b067_6 rfl (lv_at hl 0 rfl) ?_
  refine lv_iload_n hx hb dJ1_charAt_3b067_7 rfl (lv_at hl 1 rfl) ?_
  refine lb_ X hW 0 rfl (i' := i) rfl hi hn dJ1_charAt_3b067_8 ?_
  rw [hfi]
  refine lv_sipush (v := 255) hx hb dJ1_charAt_3b067_9 (by decide) ?_
  refine lv_iand hx hb dJ1_charAt_3b067_12 ?_
  rw [(asc c hc).1]
  refine lv_i2c (v := nI c) hx hb dJ1_charAt_3b067_13 (asc c hc).2.1 ?_
  exact hI _ _ _ _ _ _ _ _ _ ⟨rfl, rfl⟩ rfl (asc c hc).2.2.1 (Nat.le_of_ble_eq_true rfl) (Nat.le_of_ble_eq_true rfl) hW dJ1_charAt_3b067_14
set_option maxRecDepth 100000 in
set_option maxHeartbeats 4000000 in
theorem hJ0_charAt_5068e (l : Launch) (Dd : va_G) (Y : yT) (s0 av n i c : Nat) (f : Nat → Int32) (hi : i < n) (hn : n < 2 ^ 31) (hfi : f i = nI c) (hc : c < 128) : MR l yJ0_charAt_5068e wsJ0_charAt_5068e rmJ0_charAt_5068e Dd Y [.ref s0, .int (nI i)] ([(s0, .inr (8, [.ref av, .int 0, .int 0, .int 0])), (av, .inl (Y.2.1 0, n, .inl f))]) (fun rv w => rv = some (.int (nI c)) ∧ w = [(s0, .inr (8, [.ref av, .int 0, .int 0, .int 0])), (av, .inl (Y.2.1 0, n, .inl f))]) 0 0 := by
  refine MRk (cc := cJ0_charAt_5068e) (maxL := 2) (ret := (some .char)) (by decide) rfl (Nat.le_of_ble_eq_true rfl) (fun {p₀ e₀ s m args below meth c₀ A} ls Q X hin hW hl hI hV hA => ?_)
  have hx := X.x
  have hb := X.b
  have hl : lv_has ls 2 [(0, .ref s0), (1, .int (nI i))] := hl
  have hinJ0 : ∀ w ∈ wsJ00, w ∈ wsJ0_charAt_5068e := fun w h => List.mem_cons_of_mem _ (List.mem_append_right _ h)
  refine lv_aload_n hx hb dJ0_charAt_5068e_0 rfl (lv_at hl 0 rfl) ?_
  refine rV_ (As := []) (rest := []) (wc := [(s0, .inr (8, [.ref av, .int 0, .int 0, .int 0]))]) (w9 := [(av, .inl (Y.2.1 0, n, .inl f))]) X (hJ0_isLatin1_aae02 l Dd Y s0 (.ref av)) (cwV 0 X.1.2.2.2.2 gJ0_charAt_5068e_J0_isLatin1_aae02 rfl rfl rfl (by decide +kernel) ⟨(Nat.le_of_ble_eq_true rfl), (Nat.le_of_ble_eq_true rfl)⟩) hW (List.Perm.refl _) 0 8 rfl rfl rfl rfl hl.1 rfl (Nat.le_of_ble_eq_true rfl) dJ0_charAt_5068e_1 ⟨(Nat.le_of_ble_eq_true rfl), (Nat.le_of_ble_eq_true rfl)⟩ (fun rv wq H locs hp hW => ?_)
  obtain ⟨rfl, rfl⟩ := hp
  have hW : Wd Dd A s.heap ([(s0, .inr (8, [.ref av, .int 0, .int 0, .int 0])), (av, .inl (Y.2.1 0, n, .inl f))]) H locs := hW
  refine W.eq (g2 := F0 m 4 ls [.int 1]) rfl ?_
  refine lv_if_eq (tgt := 16) hx hb dJ0_charAt_5068e_4 (by decide) (fun h => absurd h (by decide)) (fun _ => ?_)
  refine lv_aload_n hx hb dJ0_charAt_5068e_7 rfl (lv_at hl 0 rfl) ?_
  refine g_ X hinJ0 hW 0 rfl rfl 0 (by decide) 1 rfl rfl rfl dJ0_charAt_5068e_8 ?_
  refine lv_iload_n hx hb dJ0_charAt_5068e_11 rfl (lv_at hl 1 rfl) ?_
  refine rS_ (As := [.ref av, .int (nI i)]) (rest := []) (wc := [(av, .inl (Y.2.1 0, n, .inl f))]) (w9 := [(s0, .inr (8, [.ref av, .int 0, .int 0, .int 0]))]) X (hJ1_charAt_3b067 l Dd Y av n i c f hi hn hfi hc) (va_cwS 2 X.1.2.2.2.2 gJ0_charAt_5068e_J1_charAt_3b067 rfl rfl rfl (by decide +kernel) ⟨(Nat.le_of_ble_eq_true rfl), (Nat.le_of_ble_eq_true rfl)⟩) hW (pmq5 _ _) rfl hl.1 rfl (Nat.le_of_ble_eq_true rfl) dJ0_charAt_5068e_12 ⟨(Nat.le_of_ble_eq_true rfl), (Nat.le_of_ble_eq_true rfl)⟩ (fun rv wq H locs hp hW => ?_)
  obtain ⟨rfl, rfl⟩ := hp
  have hW : Wd Dd A s.heap ([(av, .inl (Y.2.1 0, n, .inl f)), (s0, .inr (8, [.ref av, .int 0, .int 0, .int 0]))]) H locs := hW
  refine W.eq (g2 := F0 m 15 ls [.int (nI c)]) rfl ?_
  have hW : Wd Dd A s.heap ([(s0, .inr (8, [.ref av, .int 0, .int 0, .int 0])), (av, .inl (Y.2.1 0, n, .inl f))]) H locs := hW.permA (pmq7 _ _)
  exact hI _ _ _ _ _ _ _ _ _ ⟨rfl, rfl⟩ rfl (asc c hc).2.2.1 (Nat.le_of_ble_eq_true rfl) (Nat.le_of_ble_eq_true rfl) hW dJ0_charAt_5068e_15
theorem gD_l {α : Type} {T S : List α} {d : α} {j : Nat} (q : j < T.length) : (T ++ S).getD j d = T.getD j d := by rw [List.getD_eq_getElem?_getD, List.getD_eq_getElem?_getD, List.getElem?_append_left q]
theorem gD_r {α : Type} {T S : List α} {d : α} {j : Nat} (q : T.length ≤ j) : (T ++ S).getD j d = S.getD (j - T.length) d := by rw [List.getD_eq_getElem?_getD, List.getD_eq_getElem?_getD, List.getElem?_append_right q]
theorem gD_i {α : Type} {T : List α} {d : α} {j : Nat} (q : j < T.length) : T.getD j d = T[j] := by rw [List.getD_eq_getElem?_getD, List.getElem?_eq_getElem q, Option.getD_some]
theorem gD_o {α : Type} {T : List α} {d : α} {j : Nat} (q : T.length ≤ j) : T.getD j d = d := by rw [List.getD_eq_getElem?_getD, List.getElem?_eq_none q, Option.getD_none]
/-! a text as bytes; a builder that holds a text -/
def BT (T : List Nat) (f : Nat → Int32) : Prop := sb_Fit f ∧ (∀ j : Nat, j < T.length → f j = nI (T.getD j 0)) ∧ ∀ c ∈ T, c < 128
def WSB (Y : yT) (b : Nat) (T : List Nat) (w : va_W) : Prop := ∃ (ae cap : Nat) (f : Nat → Int32), 0 < cap ∧ T.length ≤ cap ∧ cap ≤ 1000 ∧ BT T f ∧ w = [(b, .inr (9, [.ref ae, .int 0, .int 0, .int (nI T.length)])), (ae, .inl (Y.2.1 0, cap, .inl f))]
theorem BT_keep {T : List Nat} {f g : Nat → Int32} (h : BT T f) (hg : sb_Fit g) (e : ∀ j : Nat, j < T.length → g j = f j) : BT T g := ⟨hg, fun j hj => (e j hj).trans (h.2.1 j hj), h.2.2⟩
theorem BT_app {T S : List Nat} {f g : Nat → Int32} (h : BT T f) (hS : BT S g) : BT (T ++ S) (va_cpy g f 0 T.length S.length) := by
  refine ⟨sb_fitC hS.1 h.1, fun j hj => ?_, fun c hc => (List.mem_append.mp hc).elim (h.2.2 c) (hS.2.2 c)⟩
  rw [List.length_append] at hj
  rcases Nat.lt_or_ge j T.length with q | q
  · rw [pk_cpy_out (Or.inl q), h.2.1 j q, gD_l q]
  · rw [pk_cpy_in q (by omega), Nat.zero_add, hS.2.1 _ (by omega), gD_r q]
theorem BT_one {c : Nat} (hc : c < 128) : BT [c] (fun _ => nI c) := by
  refine ⟨fun _ => (asc c hc).2.2.2.2.2, fun j hj => ?_, fun x hx => ?_⟩
  · rw [List.length_singleton] at hj
    obtain rfl : j = 0 := by omega
    rfl
  · rw [List.mem_singleton.mp hx]; exact hc
theorem BT_snoc {T : List Nat} {f : Nat → Int32} {c : Nat} (h : BT T f) (hc : c < 128) : BT (T ++ [c]) (upd f T.length (nI c)) := by
  have k := BT_app h (BT_one hc)
  have e : va_cpy (fun _ => nI c) f 0 T.length ([c] : List Nat).length = upd f T.length (nI c) := by
    funext j
    by_cases q : j = T.length
    · subst q; rw [pk_cpy_in (Nat.le_refl _) (by simp), pk_us]
    · rw [pk_cpy_out (by simp; omega), pk_un q]
  rw [← e]; exact k
abbrev rmJ5_append_3fe6f : Room := { frames := 4, cells := 1, slots := 5000, locals := 91 }
set_option maxRecDepth 100000 in
set_option maxHeartbeats 4000000 in
theorem kJ5_append_3fe6f (l : Launch) (Dd : va_G) (Y : yT) (b ae cap n c : Nat) (f : Nat → Int32) (h0 : 0 < cap) (hc : cap ≤ 1000) (hf : sb_Fit f) (hq : n + 1 ≤ 300) (hc2 : c < 128) : MR l yJ5_append_3fe6f wsJ5_append_3fe6f rmJ5_append_3fe6f Dd Y [.ref b, .int (nI c)] ([(b, .inr (9, [.ref ae, .int 0, .int 0, .int (nI n)])), (ae, .inl (Y.2.1 0, cap, .inl f))]) (fun rv wq => rv = some (.ref b) ∧ ∃ (ae' cap' : Nat) (f' : Nat → Int32), cap ≤ cap' ∧ n + 1 ≤ cap' ∧ (cap' = cap ∨ cap' ≤ 3 * (n + 1) + 2) ∧ sb_Fit f' ∧ (∀ j : Nat, j < cap → f' j = f j) ∧ wq = [(b, .inr (9, [.ref ae', .int 0, .int 0, .int (nI (n + 1))])), (ae', .inl (Y.2.1 0, cap', .inl (upd f' n (nI c))))]) 1 5000 := by
  refine MRk (cc := cJ5_append_3fe6f) (maxL := 2) (ret := (some (.object "java/lang/AbstractStringBuilder"))) (by decide) rfl (Nat.le_of_ble_eq_true rfl) (fun {p₀ e₀ s m args below meth c₀ A} ls Q X hin hW hl hI hV hA => ?_)
  have hx := X.x
  have hb := X.b
  have hl : lv_has ls 2 [(0, .ref b), (1, .int (nI c))] := hl
  have hinJ4 : ∀ w ∈ wsJ40, w ∈ wsJ5_append_3fe6f := fun w h => List.mem_cons_of_mem _ (List.mem_append_right _ h)
  refine lv_aload_n hx hb dJ5_append_3fe6f_0 rfl (lv_at hl 0 rfl) ?_
  refine lv_aload_n hx hb dJ5_append_3fe6f_1 rfl (lv_at hl 0 rfl) ?_
  refine g_ X hinJ4 hW 0 rfl rfl 3 (by decide) 1 rfl rfl rfl dJ5_append_3fe6f_2 ?_
  refine lv_iconst (v := 1) hx hb dJ5_append_3fe6f_5 (by decide) ?_
  refine lv_iadd hx hb dJ5_append_3fe6f_6 ?_
  rw [nI_1]
  refine rU_ (As := [.int (nI (n + 1))]) (rest := []) (wc := [(b, .inr (9, [.ref ae, .int 0, .int 0, .int (nI n)])), (ae, .inl (Y.2.1 0, cap, .inl f))]) (w9 := []) X (kJ5_ensureCapacityInternal_d00df l Dd Y b ae cap (n + 1) (nI n) f h0 hc (by omega) hf) (va_cwU 1 X.1.2.2.2.2 gJ5_append_3fe6f_J5_ensureCapacityInternal_d00df_u100J4 rfl rfl rfl rfl (by decide +kernel) ⟨(Nat.le_of_ble_eq_true rfl), (Nat.le_of_ble_eq_true rfl)⟩) hW (List.Perm.refl _) 0 9 rfl rfl rfl rfl hl.1 rfl (Nat.le_of_ble_eq_true rfl) dJ5_append_3fe6f_7 ⟨(Nat.le_of_ble_eq_true rfl), (Nat.le_of_ble_eq_true rfl)⟩ (fun rv wq H locs hp hW => ?_)
  obtain ⟨rfl, ae', cap', f', e1, e2, e3, e4, e5, rfl⟩ := hp
  have hW : Wd Dd A s.heap ([(b, .inr (9, [.ref ae', .int 0, .int 0, .int (nI n)])), (ae', .inl (Y.2.1 0, cap', .inl f'))]) H locs := hW
  refine W.eq (g2 := F0 m 10 ls []) rfl ?_
  refine lv_aload_n hx hb dJ5_append_3fe6f_10 rfl (lv_at hl 0 rfl) ?_
  refine rU_ (As := []) (rest := []) (wc := [(b, .inr (9, [.ref ae', .int 0, .int 0, .int (nI n)]))]) (w9 := [(ae', .inl (Y.2.1 0, cap', .inl f'))]) X (kJ5_isLatin1_aae02 l Dd Y b (.ref ae') (nI n)) (va_cwU 0 X.1.2.2.2.2 gJ5_append_3fe6f_J5_isLatin1_aae02_u83J4 rfl rfl rfl rfl (by decide +kernel) ⟨(Nat.le_of_ble_eq_true rfl), (Nat.le_of_ble_eq_true rfl)⟩) hW (List.Perm.refl _) 0 9 rfl rfl rfl rfl hl.1 rfl (Nat.le_of_ble_eq_true rfl) dJ5_append_3fe6f_11 ⟨(Nat.le_of_ble_eq_true rfl), (Nat.le_of_ble_eq_true rfl)⟩ (fun rv wq H locs hp hW => ?_)
  obtain ⟨rfl, rfl⟩ := hp
  have hW : Wd Dd A s.heap ([(b, .inr (9, [.ref ae', .int 0, .int 0, .int (nI n)])), (ae', .inl (Y.2.1 0, cap', .inl f'))]) H locs := hW
  refine W.eq (g2 := F0 m 14 ls [.int 1]) rfl ?_
  refine lv_if_eq (tgt := 45) hx hb dJ5_append_3fe6f_14 (by decide) (fun h => absurd h (by decide)) (fun _ => ?_)
  refine lv_iload_n hx hb dJ5_append_3fe6f_17 rfl (lv_at hl 1 rfl) ?_
  refine rS_ (As := [.int (nI c)]) (rest := []) (wc := []) (w9 := [(b, .inr (9, [.ref ae', .int 0, .int 0, .int (nI n)])), (ae', .inl (Y.2.1 0, cap', .inl f'))]) X (kJ1_canEncode_fc78d l Dd Y c hc2) (va_cwS 1 X.1.2.2.2.2 gJ5_append_3fe6f_J1_canEncode_fc78d rfl rfl rfl (by decide +kernel) ⟨(Nat.le_of_ble_eq_true rfl), (Nat.le_of_ble_eq_true rfl)⟩) hW (List.Perm.refl _) rfl hl.1 rfl (Nat.le_of_ble_eq_true rfl) dJ5_append_3fe6f_18 ⟨(Nat.le_of_ble_eq_true rfl), (Nat.le_of_ble_eq_true rfl)⟩ (fun rv wq H locs hp hW => ?_)
  obtain ⟨rfl, rfl⟩ := hp
  have hW : Wd Dd A s.heap ([(b, .inr (9, [.ref ae', .int 0, .int 0, .int (nI n)])), (ae', .inl (Y.2.1 0, cap', .inl f'))]) H locs := hW
  refine W.eq (g2 := F0 m 21 ls [.int 1]) rfl ?_
  refine lv_if_eq (tgt := 45) hx hb dJ5_append_3fe6f_21 (by decide) (fun h => absurd h (by decide)) (fun _ => ?_)
  refine lv_aload_n hx hb dJ5_append_3fe6f_24 rfl (lv_at hl 0 rfl) ?_
  refine g_ X hinJ4 hW 0 rfl rfl 0 (by decide) 2 rfl rfl rfl dJ5_append_3fe6f_25 ?_
  refine lv_aload_n hx hb dJ5_append_3fe6f_28 rfl (lv_at hl 0 rfl) ?_
  refine lv_dup hx hb dJ5_append_3fe6f_29 rfl ?_
  refine g_ X hinJ4 hW 0 rfl rfl 3 (by decide) 1 rfl rfl rfl dJ5_append_3fe6f_30 ?_
  refine lv_dup_x1 hx hb dJ5_append_3fe6f_33 rfl rfl ?_
  refine lv_iconst (v := 1) hx hb dJ5_append_3fe6f_34 (by decide) ?_
  refine lv_iadd hx hb dJ5_append_3fe6f_35 ?_
  rw [nI_1]
  refine p_ (ty := .int) X hinJ4 tyJ4 tyJ4_ok nmJ4 hW 0 rfl rfl 3 (by decide) 1 rfl rfl rfl (by decide +kernel) rfl rfl (Nat.le_of_ble_eq_true rfl) dJ5_append_3fe6f_36 (ws' := [(b, .inr (9, [.ref ae', .int 0, .int 0, .int (nI (n + 1))])), (ae', .inl (Y.2.1 0, cap', .inl f'))]) rfl (fun H locs hW => ?_)
  refine lv_iload_n hx hb dJ5_append_3fe6f_39 rfl (lv_at hl 1 rfl) ?_
  refine lv_i2b hx hb dJ5_append_3fe6f_40 rfl ?_
  rw [(asc c hc2).2.2.2.1]
  refine sb_ X hW 1 rfl (i' := n) rfl (by omega) (by omega) (asc c hc2).2.2.2.2.1 dJ5_append_3fe6f_41 (ws' := [(b, .inr (9, [.ref ae', .int 0, .int 0, .int (nI (n + 1))])), (ae', .inl (Y.2.1 0, cap', .inl (upd f' n (nI c))))]) rfl (fun H locs hW => ?_)
  refine lv_goto (tgt := 75) hx hb dJ5_append_3fe6f_42 (by decide) ?_
  refine lv_aload_n hx hb dJ5_append_3fe6f_75 rfl (lv_at hl 0 rfl) ?_
  exact hA _ _ _ _ _ _ (some b) _ _ ⟨rfl, ae', cap', f', e1, e2, e3, e4, e5, rfl⟩ rfl (Or.inl ⟨_, rfl⟩) (Nat.le_of_ble_eq_true rfl) (Nat.le_of_ble_eq_true rfl) hW dJ5_append_3fe6f_76
abbrev rmJ4_append_cf468 : Room := { frames := 5, cells := 1, slots := 5000, locals := 112 }
set_option maxRecDepth 100000 in
set_option maxHeartbeats 4000000 in
theorem kJ4_append_cf468 (l : Launch) (Dd : va_G) (Y : yT) (b c : Nat) (T : List Nat) (w0 : va_W) (hS : WSB Y b T w0) (hq : T.length + 1 ≤ 300) (hc2 : c < 128) : MR l yJ4_append_cf468 wsJ4_append_cf468 rmJ4_append_cf468 Dd Y [.ref b, .int (nI c)] (w0) (fun rv w => rv = some (.ref b) ∧ WSB Y b (T ++ [c]) w) 1 5000 := by
  obtain ⟨ae, cap, f, h0, h1, h2, hB, rfl⟩ := hS
  refine MRk (cc := cJ4_append_cf468) (maxL := 2) (ret := (some (.object "java/lang/StringBuilder"))) (by decide) rfl (Nat.le_of_ble_eq_true rfl) (fun {p₀ e₀ s m args below meth c₀ A} ls Q X hin hW hl hI hV hA => ?_)
  have hx := X.x
  have hb := X.b
  have hl : lv_has ls 2 [(0, .ref b), (1, .int (nI c))] := hl
  refine lv_aload_n hx hb dJ4_append_cf468_0 rfl (lv_at hl 0 rfl) ?_
  refine lv_iload_n hx hb dJ4_append_cf468_1 rfl (lv_at hl 1 rfl) ?_
  refine rX_ (As := [.int (nI c)]) (rest := []) (wc := [(b, .inr (9, [.ref ae, .int 0, .int 0, .int (nI T.length)])), (ae, .inl (Y.2.1 0, cap, .inl f))]) (w9 := []) X (kJ5_append_3fe6f l Dd Y b ae cap T.length c f h0 h2 hB.1 hq hc2) (va_cwSU 1 X.1.2.2.2.2 gJ4_append_cf468_J5_append_3fe6f_s50 rfl rfl rfl (by decide +kernel) ⟨(Nat.le_of_ble_eq_true rfl), (Nat.le_of_ble_eq_true rfl)⟩) hW (List.Perm.refl _) 0 9 rfl rfl rfl hl.1 rfl (Nat.le_of_ble_eq_true rfl) dJ4_append_cf468_2 ⟨(Nat.le_of_ble_eq_true rfl), (Nat.le_of_ble_eq_true rfl)⟩ (fun rv wq H locs hp hW => ?_)
  obtain ⟨rfl, ae', cap', f', e1, e2, e3, e4, e5, rfl⟩ := hp
  have hW : Wd Dd A s.heap ([(b, .inr (9, [.ref ae', .int 0, .int 0, .int (nI (T.length + 1))])), (ae', .inl (Y.2.1 0, cap', .inl (upd f' T.length (nI c))))]) H locs := hW
  refine W.eq (g2 := F0 m 5 ls [.ref b]) rfl ?_
  refine lv_pop hx hb dJ4_append_cf468_5 rfl ?_
  refine lv_aload_n hx hb dJ4_append_cf468_6 rfl (lv_at hl 0 rfl) ?_
  exact hA _ _ _ _ _ _ (some b) _ _ ⟨rfl, ae', cap', _, by omega, by rw [List.length_append]; exact e2, by omega, BT_snoc (BT_keep hB e4 (fun j hj => e5 j (by omega))) hc2, by rw [List.length_append]; rfl⟩ rfl (Or.inl ⟨_, rfl⟩) (Nat.le_of_ble_eq_true rfl) (Nat.le_of_ble_eq_true rfl) hW dJ4_append_cf468_7
/-- the constant texts' letters -/
def TCs : List (List Nat) := [[114, 111, 119], [115, 101, 116], [97, 115, 107], [107, 101, 101, 112], [112, 117, 116], [116, 97, 107, 101], [114, 111, 119, 32], [32], [58], [32, 45]]
def TC (w : Nat) : List Nat := TCs.getD w []
theorem TC_len : ∀ w : Nat, w < 10 → sLen.getD w 0 = (TC w).length := by decide
theorem TC_ok : ∀ w : Nat, w < 10 → ((∀ j : Nat, j < (TC w).length → (sByt.getD w []).getD j 0 = nI ((TC w).getD j 0)) ∧ (∀ c ∈ TC w, c < 128) ∧ (TC w).length ≤ 10) := by decide +kernel
theorem TC_fit : ∀ w : Nat, w < 10 → ∀ v ∈ sByt.getD w [], fits .byte (.int v) = true := by decide +kernel
theorem TC_BT {w : Nat} (hw : w < 10) : BT (TC w) (fun j => (sByt.getD w []).getD j 0) := by
  refine ⟨fun j => ?_, (TC_ok w hw).1, (TC_ok w hw).2.1⟩
  rcases Nat.lt_or_ge j (sByt.getD w []).length with q | q
  · show fits .byte (.int ((sByt.getD w []).getD j 0)) = true
    rw [gD_i q]; exact TC_fit w hw _ (List.getElem_mem q)
  · show fits .byte (.int ((sByt.getD w []).getD j 0)) = true
    rw [gD_o q]; rfl
abbrev rmJ5_inflateIfNeededFor_a7421 : Room := { frames := 1, cells := 0, slots := 0, locals := 20 }
set_option maxRecDepth 100000 in
set_option maxHeartbeats 4000000 in
theorem kJ5_inflateIfNeededFor_a7421 (l : Launch) (Dd : va_G) (Y : yT) (b ae : Nat) (n : Int32) (w : Nat) (hw : w < 10) : MR l yJ5_inflateIfNeededFor_a7421 wsJ5_inflateIfNeededFor_a7421 rmJ5_inflateIfNeededFor_a7421 Dd Y [.ref b, .ref (Y.2.2.2.1 w)] ([(b, .inr (9, [.ref ae, .int 0, .int 0, .int n]))]) (fun rv w => rv = none ∧ w = [(b, .inr (9, [.ref ae, .int 0, .int 0, .int n]))]) 0 0 := by
  refine MRk (cc := cJ5_inflateIfNeededFor_a7421) (maxL := 2) (ret := none) (by decide) rfl (Nat.le_of_ble_eq_true rfl) (fun {p₀ e₀ s m args below meth c₀ A} ls Q X hin hW hl hI hV hA => ?_)
  have hx := X.x
  have hb := X.b
  have hl : lv_has ls 2 [(0, .ref b), (1, .ref (Y.2.2.2.1 w))] := hl
  have hinJ4 : ∀ w ∈ wsJ40, w ∈ wsJ5_inflateIfNeededFor_a7421 := fun w h => List.mem_cons_of_mem _ (List.mem_append_left _ (List.mem_append_right _ h))
  refine gz_ X hW X.2.2.2.2.2.1 1 rfl dJ5_inflateIfNeededFor_a7421_0 ?_
  refine lv_if_eq (tgt := 21) hx hb dJ5_inflateIfNeededFor_a7421_3 (by decide) (fun h => absurd h (by decide)) (fun _ => ?_)
  refine lv_aload_n hx hb dJ5_inflateIfNeededFor_a7421_6 rfl (lv_at hl 0 rfl) ?_
  refine g_ X hinJ4 hW 0 rfl rfl 1 (by decide) 2 rfl rfl rfl dJ5_inflateIfNeededFor_a7421_7 ?_
  refine lv_aload_n hx hb dJ5_inflateIfNeededFor_a7421_10 rfl (lv_at hl 1 rfl) ?_
  refine cK_ (rest := [.int 0]) X (kJ0_coder_7d493 l Dd Y w hw) (cwV 0 X.1.2.2.2.2 gJ5_inflateIfNeededFor_a7421_J0_coder_7d493 rfl rfl rfl (by decide +kernel) ⟨(Nat.le_of_ble_eq_true rfl), (Nat.le_of_ble_eq_true rfl)⟩) hW hw rfl hl.1 rfl (Nat.le_of_ble_eq_true rfl) dJ5_inflateIfNeededFor_a7421_11 ⟨(Nat.le_of_ble_eq_true rfl), (Nat.le_of_ble_eq_true rfl)⟩ (fun H locs hW => ?_)
  refine lv_icmp_eq (tgt := 21) hx hb dJ5_inflateIfNeededFor_a7421_14 (by decide) (fun _ => ?_) (fun h => absurd rfl h)
  exact hV _ _ _ _ _ _ _ ⟨rfl, rfl⟩ rfl (Nat.le_of_ble_eq_true rfl) (Nat.le_of_ble_eq_true rfl) hW dJ5_inflateIfNeededFor_a7421_21
set_option maxRecDepth 100000 in
set_option maxHeartbeats 4000000 in
theorem hJ5_inflateIfNeededFor_a7421 (l : Launch) (Dd : va_G) (Y : yT) (b ae : Nat) (n : Int32) (s0 av : Nat) : MR l yJ5_inflateIfNeededFor_a7421 wsJ5_inflateIfNeededFor_a7421 rmJ5_inflateIfNeededFor_a7421 Dd Y [.ref b, .ref s0] ([(b, .inr (9, [.ref ae, .int 0, .int 0, .int n])), (s0, .inr (8, [.ref av, .int 0, .int 0, .int 0]))]) (fun rv w => rv = none ∧ w = [(b, .inr (9, [.ref ae, .int 0, .int 0, .int n])), (s0, .inr (8, [.ref av, .int 0, .int 0, .int 0]))]) 0 0 := by
  refine MRk (cc := cJ5_inflateIfNeededFor_a7421) (maxL := 2) (ret := none) (by decide) rfl (Nat.le_of_ble_eq_true rfl) (fun {p₀ e₀ s m args below meth c₀ A} ls Q X hin hW hl hI hV hA => ?_)
  have hx := X.x
  have hb := X.b
  have hl : lv_has ls 2 [(0, .ref b), (1, .ref s0)] := hl
  have hinJ4 : ∀ w ∈ wsJ40, w ∈ wsJ5_inflateIfNeededFor_a7421 := fun w h => List.mem_cons_of_mem _ (List.mem_append_left _ (List.mem_append_right _ h))
  refine gz_ X hW X.2.2.2.2.2.1 1 rfl dJ5_inflateIfNeededFor_a7421_0 ?_
  refine lv_if_eq (tgt := 21) hx hb dJ5_inflateIfNeededFor_a7421_3 (by decide) (fun h => absurd h (by decide)) (fun _ => ?_)
  refine lv_aload_n hx hb dJ5_inflateIfNeededFor_a7421_6 rfl (lv_at hl 0 rfl) ?_
  refine g_ X hinJ4 hW 0 rfl rfl 1 (by decide) 2 rfl rfl rfl dJ5_inflateIfNeededFor_a7421_7 ?_
  refine lv_aload_n hx hb dJ5_inflateIfNeededFor_a7421_10 rfl (lv_at hl 1 rfl) ?_
  refine rV_ (As := []) (rest := [.int 0]) (wc := [(s0, .inr (8, [.ref av, .int 0, .int 0, .int 0]))]) (w9 := [(b, .inr (9, [.ref ae, .int 0, .int 0, .int n]))]) X (hJ0_coder_7d493 l Dd Y s0 (.ref av)) (cwV 0 X.1.2.2.2.2 gJ5_inflateIfNeededFor_a7421_J0_coder_7d493 rfl rfl rfl (by decide +kernel) ⟨(Nat.le_of_ble_eq_true rfl), (Nat.le_of_ble_eq_true rfl)⟩) hW (pmq5 _ _) 0 8 rfl rfl rfl rfl hl.1 rfl (Nat.le_of_ble_eq_true rfl) dJ5_inflateIfNeededFor_a7421_11 ⟨(Nat.le_of_ble_eq_true rfl), (Nat.le_of_ble_eq_true rfl)⟩ (fun rv wq H locs hp hW => ?_)
  obtain ⟨rfl, rfl⟩ := hp
  have hW : Wd Dd A s.heap ([(s0, .inr (8, [.ref av, .int 0, .int 0, .int 0])), (b, .inr (9, [.ref ae, .int 0, .int 0, .int n]))]) H locs := hW
  refine W.eq (g2 := F0 m 14 ls [.int 0, .int 0]) rfl ?_
  have hW : Wd Dd A s.heap ([(b, .inr (9, [.ref ae, .int 0, .int 0, .int n])), (s0, .inr (8, [.ref av, .int 0, .int 0, .int 0]))]) H locs := hW.permA (pmq7 _ _)
  refine lv_icmp_eq (tgt := 21) hx hb dJ5_inflateIfNeededFor_a7421_14 (by decide) (fun _ => ?_) (fun h => absurd rfl h)
  exact hV _ _ _ _ _ _ _ ⟨rfl, rfl⟩ rfl (Nat.le_of_ble_eq_true rfl) (Nat.le_of_ble_eq_true rfl) hW dJ5_inflateIfNeededFor_a7421_21
abbrev rmJ0_getBytes_840e7 : Room := { frames := 1, cells := 0, slots := 0, locals := 26 }
set_option maxRecDepth 100000 in
set_option maxHeartbeats 4000000 in
theorem kJ0_getBytes_840e7 (l : Launch) (Dd : va_G) (Y : yT) (ae cap i : Nat) (f : Nat → Int32) (w : Nat) (hw : w < 10) (hd : i + (sLen.getD w 0) ≤ cap) (hcap : cap < 2 ^ 31) : MR l yJ0_getBytes_840e7 wsJ0_getBytes_840e7 rmJ0_getBytes_840e7 Dd Y [.ref (Y.2.2.2.1 w), .ref ae, .int (nI i), .int 0] ([(ae, .inl (Y.2.1 0, cap, .inl f))]) (fun rv wq => rv = none ∧ wq = [(ae, .inl (Y.2.1 0, cap, .inl (va_cpy (fun j => (sByt.getD w []).getD j 0) f 0 i (sLen.getD w 0))))]) 0 0 := by
  refine MRk (cc := cJ0_getBytes_840e7) (maxL := 4) (ret := none) (by decide) rfl (Nat.le_of_ble_eq_true rfl) (fun {p₀ e₀ s m args below meth c₀ A} ls Q X hin hW hl hI hV hA => ?_)
  have hx := X.x
  have hb := X.b
  have hl : lv_has ls 4 [(0, .ref (Y.2.2.2.1 w)), (1, .ref ae), (2, .int (nI i)), (3, .int 0)] := hl
  refine lv_aload_n hx hb dJ0_getBytes_840e7_0 rfl (lv_at hl 0 rfl) ?_
  refine cK_ (rest := []) X (kJ0_coder_7d493 l Dd Y w hw) (cwV 0 X.1.2.2.2.2 gJ0_getBytes_840e7_J0_coder_7d493 rfl rfl rfl (by decide +kernel) ⟨(Nat.le_of_ble_eq_true rfl), (Nat.le_of_ble_eq_true rfl)⟩) hW hw rfl hl.1 rfl (Nat.le_of_ble_eq_true rfl) dJ0_getBytes_840e7_1 ⟨(Nat.le_of_ble_eq_true rfl), (Nat.le_of_ble_eq_true rfl)⟩ (fun H locs hW => ?_)
  refine lv_iload_n hx hb dJ0_getBytes_840e7_4 rfl (lv_at hl 3 rfl) ?_
  refine lv_icmp_ne (tgt := 28) hx hb dJ0_getBytes_840e7_5 (by decide) (fun h => absurd rfl h) (fun _ => ?_)
  refine lv_aload_n hx hb dJ0_getBytes_840e7_8 rfl (lv_at hl 0 rfl) ?_
  refine vk_getf hx hb (X.2.2.2.2.1.1 w hw).2.2.1 hW.2.2 X.1.2.2.2.1 (X.w (i := 1) rfl) (fun _ h => h) dJ0_getBytes_840e7_9 ?_
  refine lv_iconst (v := 0) hx hb dJ0_getBytes_840e7_12 (by decide) ?_
  refine lv_aload_n hx hb dJ0_getBytes_840e7_13 rfl (lv_at hl 1 rfl) ?_
  refine lv_iload_n hx hb dJ0_getBytes_840e7_14 rfl (lv_at hl 2 rfl) ?_
  refine lv_iload_n hx hb dJ0_getBytes_840e7_15 rfl (lv_at hl 3 rfl) ?_
  refine lv_ishl hx hb dJ0_getBytes_840e7_16 ?_
  rw [sb_shl0]
  refine lv_aload_n hx hb dJ0_getBytes_840e7_17 rfl (lv_at hl 0 rfl) ?_
  refine vk_getf hx hb (X.2.2.2.2.1.1 w hw).2.2.1 hW.2.2 X.1.2.2.2.1 (X.w (i := 1) rfl) (fun _ h => h) dJ0_getBytes_840e7_18 ?_
  refine va_tlen (v := nI (sLen.getD w 0)) hx hb (X.2.2.2.2.1.1 w hw).2.2.2 hW.2.2 rfl dJ0_getBytes_840e7_21 ?_
  refine cpt_ X hl.1 2 3 4 5 rfl rfl rfl rfl ⟨(Nat.le_of_ble_eq_true rfl), (Nat.le_of_ble_eq_true rfl)⟩ (Nat.le_of_ble_eq_true rfl) hW (X.2.2.2.2.1.1 w hw).2.2.2 0 rfl (n' := sLen.getD w 0) (dp' := i) rfl rfl hd hcap (sLen_lt hw) (fun j _ => (TC_BT hw).1 j) dJ0_getBytes_840e7_22 (ws' := [(ae, .inl (Y.2.1 0, cap, .inl (va_cpy (fun j => (sByt.getD w []).getD j 0) f 0 i (sLen.getD w 0))))]) rfl (fun H locs hW => ?_)
  refine lv_goto (tgt := 43) hx hb dJ0_getBytes_840e7_25 (by decide) ?_
  exact hV _ _ _ _ _ _ _ ⟨rfl, rfl⟩ rfl (Nat.le_of_ble_eq_true rfl) (Nat.le_of_ble_eq_true rfl) hW dJ0_getBytes_840e7_43
set_option maxRecDepth 100000 in
set_option maxHeartbeats 4000000 in
theorem hJ0_getBytes_840e7 (l : Launch) (Dd : va_G) (Y : yT) (ae cap i : Nat) (f : Nat → Int32) (s0 av lm : Nat) (g : Nat → Int32) (hg : sb_Fit g) (hd : i + lm ≤ cap) (hcap : cap < 2 ^ 31) (hm : lm < 2 ^ 31) : MR l yJ0_getBytes_840e7 wsJ0_getBytes_840e7 rmJ0_getBytes_840e7 Dd Y [.ref s0, .ref ae, .int (nI i), .int 0] ([(ae, .inl (Y.2.1 0, cap, .inl f)), (s0, .inr (8, [.ref av, .int 0, .int 0, .int 0])), (av, .inl (Y.2.1 0, lm, .inl g))]) (fun rv wq => rv = none ∧ wq = [(ae, .inl (Y.2.1 0, cap, .inl (va_cpy g f 0 i lm))), (s0, .inr (8, [.ref av, .int 0, .int 0, .int 0])), (av, .inl (Y.2.1 0, lm, .inl g))]) 0 0 := by
  refine MRk (cc := cJ0_getBytes_840e7) (maxL := 4) (ret := none) (by decide) rfl (Nat.le_of_ble_eq_true rfl) (fun {p₀ e₀ s m args below meth c₀ A} ls Q X hin hW hl hI hV hA => ?_)
  have hx := X.x
  have hb := X.b
  have hl : lv_has ls 4 [(0, .ref s0), (1, .ref ae), (2, .int (nI i)), (3, .int 0)] := hl
  have hinJ0 : ∀ w ∈ wsJ00, w ∈ wsJ0_getBytes_840e7 := fun w h => List.mem_cons_of_mem _ (List.mem_append_right _ h)
  refine lv_aload_n hx hb dJ0_getBytes_840e7_0 rfl (lv_at hl 0 rfl) ?_
  refine rV_ (As := []) (rest := []) (wc := [(s0, .inr (8, [.ref av, .int 0, .int 0, .int 0]))]) (w9 := [(ae, .inl (Y.2.1 0, cap, .inl f)), (av, .inl (Y.2.1 0, lm, .inl g))]) X (hJ0_coder_7d493 l Dd Y s0 (.ref av)) (cwV 0 X.1.2.2.2.2 gJ0_getBytes_840e7_J0_coder_7d493 rfl rfl rfl (by decide +kernel) ⟨(Nat.le_of_ble_eq_true rfl), (Nat.le_of_ble_eq_true rfl)⟩) hW (pmq8 _ _ _) 0 8 rfl rfl rfl rfl hl.1 rfl (Nat.le_of_ble_eq_true rfl) dJ0_getBytes_840e7_1 ⟨(Nat.le_of_ble_eq_true rfl), (Nat.le_of_ble_eq_true rfl)⟩ (fun rv wq H locs hp hW => ?_)
  obtain ⟨rfl, rfl⟩ := hp
  have hW : Wd Dd A s.heap ([(s0, .inr (8, [.ref av, .int 0, .int 0, .int 0])), (ae, .inl (Y.2.1 0, cap, .inl f)), (av, .inl (Y.2.1 0, lm, .inl g))]) H locs := hW
  refine W.eq (g2 := F0 m 4 ls [.int 0]) rfl ?_
  have hW : Wd Dd A s.heap ([(ae, .inl (Y.2.1 0, cap, .inl f)), (s0, .inr (8, [.ref av, .int 0, .int 0, .int 0])), (av, .inl (Y.2.1 0, lm, .inl g))]) H locs := hW.permA (pmq9 _ _ _)
  refine lv_iload_n hx hb dJ0_getBytes_840e7_4 rfl (lv_at hl 3 rfl) ?_
  refine lv_icmp_ne (tgt := 28) hx hb dJ0_getBytes_840e7_5 (by decide) (fun h => absurd rfl h) (fun _ => ?_)
  refine lv_aload_n hx hb dJ0_getBytes_840e7_8 rfl (lv_at hl 0 rfl) ?_
  refine g_ X hinJ0 hW 1 rfl rfl 0 (by decide) 1 rfl rfl rfl dJ0_getBytes_840e7_9 ?_
  refine lv_iconst (v := 0) hx hb dJ0_getBytes_840e7_12 (by decide) ?_
  refine lv_aload_n hx hb dJ0_getBytes_840e7_13 rfl (lv_at hl 1 rfl) ?_
  refine lv_iload_n hx hb dJ0_getBytes_840e7_14 rfl (lv_at hl 2 rfl) ?_
  refine lv_iload_n hx hb dJ0_getBytes_840e7_15 rfl (lv_at hl 3 rfl) ?_
  refine lv_ishl hx hb dJ0_getBytes_840e7_16 ?_
  rw [sb_shl0]
  refine lv_aload_n hx hb dJ0_getBytes_840e7_17 rfl (lv_at hl 0 rfl) ?_
  refine g_ X hinJ0 hW 1 rfl rfl 0 (by decide) 1 rfl rfl rfl dJ0_getBytes_840e7_18 ?_
  refine len_ (v := nI lm) X hW 2 1 rfl rfl rfl dJ0_getBytes_840e7_21 ?_
  refine cpb_ X hl.1 2 3 4 5 rfl rfl rfl rfl ⟨(Nat.le_of_ble_eq_true rfl), (Nat.le_of_ble_eq_true rfl)⟩ (Nat.le_of_ble_eq_true rfl) hW 2 0 rfl rfl (sp' := 0) (dp' := i) (n' := lm) rfl rfl rfl (by omega) hd hm hcap (fun j _ => hg _) dJ0_getBytes_840e7_22 (ws' := [(ae, .inl (Y.2.1 0, cap, .inl (va_cpy g f 0 i lm))), (s0, .inr (8, [.ref av, .int 0, .int 0, .int 0])), (av, .inl (Y.2.1 0, lm, .inl g))]) rfl (fun H locs hW => ?_)
  refine lv_goto (tgt := 43) hx hb dJ0_getBytes_840e7_25 (by decide) ?_
  exact hV _ _ _ _ _ _ _ ⟨rfl, rfl⟩ rfl (Nat.le_of_ble_eq_true rfl) (Nat.le_of_ble_eq_true rfl) hW dJ0_getBytes_840e7_43
abbrev rmJ5_putStringAt_47b60 : Room := { frames := 2, cells := 0, slots := 0, locals := 49 }
set_option maxRecDepth 100000 in
set_option maxHeartbeats 4000000 in
theorem kJ5_putStringAt_47b60 (l : Launch) (Dd : va_G) (Y : yT) (b ae cap i : Nat) (n : Int32) (f : Nat → Int32) (w : Nat) (hw : w < 10) (hd : i + (sLen.getD w 0) ≤ cap) (hcap : cap < 2 ^ 31) : MR l yJ5_putStringAt_47b60 wsJ5_putStringAt_47b60 rmJ5_putStringAt_47b60 Dd Y [.ref b, .int (nI i), .ref (Y.2.2.2.1 w)] ([(b, .inr (9, [.ref ae, .int 0, .int 0, .int n])), (ae, .inl (Y.2.1 0, cap, .inl f))]) (fun rv wq => rv = none ∧ wq = [(b, .inr (9, [.ref ae, .int 0, .int 0, .int n])), (ae, .inl (Y.2.1 0, cap, .inl (va_cpy (fun j => (sByt.getD w []).getD j 0) f 0 i (sLen.getD w 0))))]) 0 0 := by
  refine MRk (cc := cJ5_putStringAt_47b60) (maxL := 3) (ret := none) (by decide) rfl (Nat.le_of_ble_eq_true rfl) (fun {p₀ e₀ s m args below meth c₀ A} ls Q X hin hW hl hI hV hA => ?_)
  have hx := X.x
  have hb := X.b
  have hl : lv_has ls 3 [(0, .ref b), (1, .int (nI i)), (2, .ref (Y.2.2.2.1 w))] := hl
  have hinJ4 : ∀ w ∈ wsJ40, w ∈ wsJ5_putStringAt_47b60 := fun w h => List.mem_cons_of_mem _ (List.mem_append_left _ (List.mem_append_right _ h))
  refine lv_aload_n hx hb dJ5_putStringAt_47b60_0 rfl (lv_at hl 0 rfl) ?_
  refine lv_aload_n hx hb dJ5_putStringAt_47b60_1 rfl (lv_at hl 2 rfl) ?_
  refine rU_ (As := [.ref (Y.2.2.2.1 w)]) (rest := []) (wc := [(b, .inr (9, [.ref ae, .int 0, .int 0, .int n]))]) (w9 := [(ae, .inl (Y.2.1 0, cap, .inl f))]) X (kJ5_inflateIfNeededFor_a7421 l Dd Y b ae n w hw) (va_cwU 1 X.1.2.2.2.2 gJ5_putStringAt_47b60_J5_inflateIfNeededFor_a7421_u397J4 rfl rfl rfl rfl (by decide +kernel) ⟨(Nat.le_of_ble_eq_true rfl), (Nat.le_of_ble_eq_true rfl)⟩) hW (List.Perm.refl _) 0 9 rfl rfl rfl rfl hl.1 rfl (Nat.le_of_ble_eq_true rfl) dJ5_putStringAt_47b60_2 ⟨(Nat.le_of_ble_eq_true rfl), (Nat.le_of_ble_eq_true rfl)⟩ (fun rv wq H locs hp hW => ?_)
  obtain ⟨rfl, rfl⟩ := hp
  have hW : Wd Dd A s.heap ([(b, .inr (9, [.ref ae, .int 0, .int 0, .int n])), (ae, .inl (Y.2.1 0, cap, .inl f))]) H locs := hW
  refine W.eq (g2 := F0 m 5 ls []) rfl ?_
  refine lv_aload_n hx hb dJ5_putStringAt_47b60_5 rfl (lv_at hl 2 rfl) ?_
  refine lv_aload_n hx hb dJ5_putStringAt_47b60_6 rfl (lv_at hl 0 rfl) ?_
  refine g_ X hinJ4 hW 0 rfl rfl 0 (by decide) 1 rfl rfl rfl dJ5_putStringAt_47b60_7 ?_
  refine lv_iload_n hx hb dJ5_putStringAt_47b60_10 rfl (lv_at hl 1 rfl) ?_
  refine lv_aload_n hx hb dJ5_putStringAt_47b60_11 rfl (lv_at hl 0 rfl) ?_
  refine g_ X hinJ4 hW 0 rfl rfl 1 (by decide) 2 rfl rfl rfl dJ5_putStringAt_47b60_12 ?_
  refine rK_ (As := [.ref ae, .int (nI i), .int 0]) (rest := []) (wc := [(ae, .inl (Y.2.1 0, cap, .inl f))]) (w9 := [(b, .inr (9, [.ref ae, .int 0, .int 0, .int n]))]) X (kJ0_getBytes_840e7 l Dd Y ae cap i f w hw hd hcap) (cwV 3 X.1.2.2.2.2 gJ5_putStringAt_47b60_J0_getBytes_840e7 rfl rfl rfl (by decide +kernel) ⟨(Nat.le_of_ble_eq_true rfl), (Nat.le_of_ble_eq_true rfl)⟩) hW (pmq10 _ _) hw rfl hl.1 rfl (Nat.le_of_ble_eq_true rfl) dJ5_putStringAt_47b60_15 ⟨(Nat.le_of_ble_eq_true rfl), (Nat.le_of_ble_eq_true rfl)⟩ (fun rv wq H locs hp hW => ?_)
  obtain ⟨rfl, rfl⟩ := hp
  have hW : Wd Dd A s.heap ([(b, .inr (9, [.ref ae, .int 0, .int 0, .int n])), (ae, .inl (Y.2.1 0, cap, .inl (va_cpy (fun j => (sByt.getD w []).getD j 0) f 0 i (sLen.getD w 0))))]) H locs := hW.permA (pmq11 _ _)
  refine W.eq (g2 := F0 m 18 ls []) rfl ?_
  exact hV _ _ _ _ _ _ _ ⟨rfl, rfl⟩ rfl (Nat.le_of_ble_eq_true rfl) (Nat.le_of_ble_eq_true rfl) hW dJ5_putStringAt_47b60_18
set_option maxRecDepth 100000 in
set_option maxHeartbeats 4000000 in
theorem hJ5_putStringAt_47b60 (l : Launch) (Dd : va_G) (Y : yT) (b ae cap i : Nat) (n : Int32) (f : Nat → Int32) (s0 av lm : Nat) (g : Nat → Int32) (hg : sb_Fit g) (hd : i + lm ≤ cap) (hcap : cap < 2 ^ 31) (hm : lm < 2 ^ 31) : MR l yJ5_putStringAt_47b60 wsJ5_putStringAt_47b60 rmJ5_putStringAt_47b60 Dd Y [.ref b, .int (nI i), .ref s0] ([(b, .inr (9, [.ref ae, .int 0, .int 0, .int n])), (ae, .inl (Y.2.1 0, cap, .inl f)), (s0, .inr (8, [.ref av, .int 0, .int 0, .int 0])), (av, .inl (Y.2.1 0, lm, .inl g))]) (fun rv wq => rv = none ∧ wq = [(b, .inr (9, [.ref ae, .int 0, .int 0, .int n])), (ae, .inl (Y.2.1 0, cap, .inl (va_cpy g f 0 i lm))), (s0, .inr (8, [.ref av, .int 0, .int 0, .int 0])), (av, .inl (Y.2.1 0, lm, .inl g))]) 0 0 := by
  refine MRk (cc := cJ5_putStringAt_47b60) (maxL := 3) (ret := none) (by decide) rfl (Nat.le_of_ble_eq_true rfl) (fun {p₀ e₀ s m args below meth c₀ A} ls Q X hin hW hl hI hV hA => ?_)
  have hx := X.x
  have hb := X.b
  have hl : lv_has ls 3 [(0, .ref b), (1, .int (nI i)), (2, .ref s0)] := hl
  have hinJ4 : ∀ w ∈ wsJ40, w ∈ wsJ5_putStringAt_47b60 := fun w h => List.mem_cons_of_mem _ (List.mem_append_left _ (List.mem_append_right _ h))
  refine lv_aload_n hx hb dJ5_putStringAt_47b60_0 rfl (lv_at hl 0 rfl) ?_
  refine lv_aload_n hx hb dJ5_putStringAt_47b60_1 rfl (lv_at hl 2 rfl) ?_
  refine rU_ (As := [.ref s0]) (rest := []) (wc := [(b, .inr (9, [.ref ae, .int 0, .int 0, .int n])), (s0, .inr (8, [.ref av, .int 0, .int 0, .int 0]))]) (w9 := [(ae, .inl (Y.2.1 0, cap, .inl f)), (av, .inl (Y.2.1 0, lm, .inl g))]) X (hJ5_inflateIfNeededFor_a7421 l Dd Y b ae n s0 av) (va_cwU 1 X.1.2.2.2.2 gJ5_putStringAt_47b60_J5_inflateIfNeededFor_a7421_u397J4 rfl rfl rfl rfl (by decide +kernel) ⟨(Nat.le_of_ble_eq_true rfl), (Nat.le_of_ble_eq_true rfl)⟩) hW (pmq12 _ _ _ _) 0 9 rfl rfl rfl rfl hl.1 rfl (Nat.le_of_ble_eq_true rfl) dJ5_putStringAt_47b60_2 ⟨(Nat.le_of_ble_eq_true rfl), (Nat.le_of_ble_eq_true rfl)⟩ (fun rv wq H locs hp hW => ?_)
  obtain ⟨rfl, rfl⟩ := hp
  have hW : Wd Dd A s.heap ([(b, .inr (9, [.ref ae, .int 0, .int 0, .int n])), (s0, .inr (8, [.ref av, .int 0, .int 0, .int 0])), (ae, .inl (Y.2.1 0, cap, .inl f)), (av, .inl (Y.2.1 0, lm, .inl g))]) H locs := hW
  refine W.eq (g2 := F0 m 5 ls []) rfl ?_
  have hW : Wd Dd A s.heap ([(b, .inr (9, [.ref ae, .int 0, .int 0, .int n])), (ae, .inl (Y.2.1 0, cap, .inl f)), (s0, .inr (8, [.ref av, .int 0, .int 0, .int 0])), (av, .inl (Y.2.1 0, lm, .inl g))]) H locs := hW.permA (pmq13 _ _ _ _)
  refine lv_aload_n hx hb dJ5_putStringAt_47b60_5 rfl (lv_at hl 2 rfl) ?_
  refine lv_aload_n hx hb dJ5_putStringAt_47b60_6 rfl (lv_at hl 0 rfl) ?_
  refine g_ X hinJ4 hW 0 rfl rfl 0 (by decide) 1 rfl rfl rfl dJ5_putStringAt_47b60_7 ?_
  refine lv_iload_n hx hb dJ5_putStringAt_47b60_10 rfl (lv_at hl 1 rfl) ?_
  refine lv_aload_n hx hb dJ5_putStringAt_47b60_11 rfl (lv_at hl 0 rfl) ?_
  refine g_ X hinJ4 hW 0 rfl rfl 1 (by decide) 2 rfl rfl rfl dJ5_putStringAt_47b60_12 ?_
  refine rV_ (As := [.ref ae, .int (nI i), .int 0]) (rest := []) (wc := [(s0, .inr (8, [.ref av, .int 0, .int 0, .int 0])), (av, .inl (Y.2.1 0, lm, .inl g)), (ae, .inl (Y.2.1 0, cap, .inl f))]) (w9 := [(b, .inr (9, [.ref ae, .int 0, .int 0, .int n]))]) X ((hJ0_getBytes_840e7 l Dd Y ae cap i f s0 av lm g hg hd hcap hm).wsp (w2 := [(s0, .inr (8, [.ref av, .int 0, .int 0, .int 0])), (av, .inl (Y.2.1 0, lm, .inl g)), (ae, .inl (Y.2.1 0, cap, .inl f))]) (pmq14 _ _ _)) (cwV 3 X.1.2.2.2.2 gJ5_putStringAt_47b60_J0_getBytes_840e7 rfl rfl rfl (by decide +kernel) ⟨(Nat.le_of_ble_eq_true rfl), (Nat.le_of_ble_eq_true rfl)⟩) hW (pmq15 _ _ _ _) 0 8 rfl rfl rfl rfl hl.1 rfl (Nat.le_of_ble_eq_true rfl) dJ5_putStringAt_47b60_15 ⟨(Nat.le_of_ble_eq_true rfl), (Nat.le_of_ble_eq_true rfl)⟩ (fun rv wq H locs hp hW => ?_)
  obtain ⟨rfl, rfl⟩ := hp
  have hW : Wd Dd A s.heap ([(ae, .inl (Y.2.1 0, cap, .inl (va_cpy g f 0 i lm))), (s0, .inr (8, [.ref av, .int 0, .int 0, .int 0])), (av, .inl (Y.2.1 0, lm, .inl g)), (b, .inr (9, [.ref ae, .int 0, .int 0, .int n]))]) H locs := hW
  refine W.eq (g2 := F0 m 18 ls []) rfl ?_
  have hW : Wd Dd A s.heap ([(b, .inr (9, [.ref ae, .int 0, .int 0, .int n])), (ae, .inl (Y.2.1 0, cap, .inl (va_cpy g f 0 i lm))), (s0, .inr (8, [.ref av, .int 0, .int 0, .int 0])), (av, .inl (Y.2.1 0, lm, .inl g))]) H locs := hW.permA (pmq16 _ _ _ _)
  exact hV _ _ _ _ _ _ _ ⟨rfl, rfl⟩ rfl (Nat.le_of_ble_eq_true rfl) (Nat.le_of_ble_eq_true rfl) hW dJ5_putStringAt_47b60_18
abbrev rmJ5_append_cf1ce : Room := { frames := 5, cells := 1, slots := 5000, locals := 120 }
set_option maxRecDepth 100000 in
set_option maxHeartbeats 4000000 in
theorem kJ5_append_cf1ce (l : Launch) (Dd : va_G) (Y : yT) (b ae cap n : Nat) (f : Nat → Int32) (w : Nat) (hw : w < 10) (h0 : 0 < cap) (hc : cap ≤ 1000) (hf : sb_Fit f) (hq : n + (sLen.getD w 0) ≤ 300) : MR l yJ5_append_cf1ce wsJ5_append_cf1ce rmJ5_append_cf1ce Dd Y [.ref b, .ref (Y.2.2.2.1 w)] ([(b, .inr (9, [.ref ae, .int 0, .int 0, .int (nI n)])), (ae, .inl (Y.2.1 0, cap, .inl f))]) (fun rv wq => rv = some (.ref b) ∧ ∃ (ae' cap' : Nat) (f' : Nat → Int32), cap ≤ cap' ∧ n + (sLen.getD w 0) ≤ cap' ∧ (cap' = cap ∨ cap' ≤ 3 * (n + (sLen.getD w 0)) + 2) ∧ sb_Fit f' ∧ (∀ j : Nat, j < cap → f' j = f j) ∧ wq = [(b, .inr (9, [.ref ae', .int 0, .int 0, .int (nI (n + (sLen.getD w 0)))])), (ae', .inl (Y.2.1 0, cap', .inl (va_cpy (fun j => (sByt.getD w []).getD j 0) f' 0 n (sLen.getD w 0))))]) 1 5000 := by
  refine MRk (cc := cJ5_append_cf1ce) (maxL := 3) (ret := (some (.object "java/lang/AbstractStringBuilder"))) (by decide) rfl (Nat.le_of_ble_eq_true rfl) (fun {p₀ e₀ s m args below meth c₀ A} ls Q X hin hW hl hI hV hA => ?_)
  have hx := X.x
  have hb := X.b
  have hl : lv_has ls 3 [(0, .ref b), (1, .ref (Y.2.2.2.1 w))] := hl
  have hinJ4 : ∀ w ∈ wsJ40, w ∈ wsJ5_append_cf1ce := fun w h => List.mem_cons_of_mem _ (List.mem_append_left _ (List.mem_append_right _ h))
  refine lv_aload_n hx hb dJ5_append_cf1ce_0 rfl (lv_at hl 1 rfl) ?_
  refine lv_ifnonnull (tgt := 9) hx hb dJ5_append_cf1ce_1 (by decide) ?_
  refine lv_aload_n hx hb dJ5_append_cf1ce_9 rfl (lv_at hl 1 rfl) ?_
  refine cK_ (rest := []) X (kJ0_length_8abf5 l Dd Y w hw) (cwV 0 X.1.2.2.2.2 gJ5_append_cf1ce_J0_length_8abf5 rfl rfl rfl (by decide +kernel) ⟨(Nat.le_of_ble_eq_true rfl), (Nat.le_of_ble_eq_true rfl)⟩) hW hw rfl hl.1 rfl (Nat.le_of_ble_eq_true rfl) dJ5_append_cf1ce_10 ⟨(Nat.le_of_ble_eq_true rfl), (Nat.le_of_ble_eq_true rfl)⟩ (fun H locs hW => ?_)
  refine lv_istore_n (lv' := [(2, .int (nI (sLen.getD w 0))), (0, .ref b), (1, .ref (Y.2.2.2.1 w))]) hx hb dJ5_append_cf1ce_13 rfl hl (by decide) rfl (fun ls hl => ?_)
  refine lv_aload_n hx hb dJ5_append_cf1ce_14 rfl (lv_at hl 1 rfl) ?_
  refine lv_aload_n hx hb dJ5_append_cf1ce_15 rfl (lv_at hl 1 rfl) ?_
  refine g_ X hinJ4 hW 0 rfl rfl 3 (by decide) 1 rfl rfl rfl dJ5_append_cf1ce_16 ?_
  refine lv_iload_n hx hb dJ5_append_cf1ce_19 rfl (lv_at hl 0 rfl) ?_
  refine lv_iadd hx hb dJ5_append_cf1ce_20 ?_
  rw [nI_add]
  refine rU_ (As := [.int (nI (n + (sLen.getD w 0)))]) (rest := []) (wc := [(b, .inr (9, [.ref ae, .int 0, .int 0, .int (nI n)])), (ae, .inl (Y.2.1 0, cap, .inl f))]) (w9 := []) X (kJ5_ensureCapacityInternal_d00df l Dd Y b ae cap (n + (sLen.getD w 0)) (nI n) f h0 hc (by omega) hf) (va_cwU 1 X.1.2.2.2.2 gJ5_append_cf1ce_J5_ensureCapacityInternal_d00df_u100J4 rfl rfl rfl rfl (by decide +kernel) ⟨(Nat.le_of_ble_eq_true rfl), (Nat.le_of_ble_eq_true rfl)⟩) hW (List.Perm.refl _) 0 9 rfl rfl rfl rfl hl.1 rfl (Nat.le_of_ble_eq_true rfl) dJ5_append_cf1ce_21 ⟨(Nat.le_of_ble_eq_true rfl), (Nat.le_of_ble_eq_true rfl)⟩ (fun rv wq H locs hp hW => ?_)
  obtain ⟨rfl, ae', cap', f', e1, e2, e3, e4, e5, rfl⟩ := hp
  have hW : Wd Dd A s.heap ([(b, .inr (9, [.ref ae', .int 0, .int 0, .int (nI n)])), (ae', .inl (Y.2.1 0, cap', .inl f'))]) H locs := hW
  refine W.eq (g2 := F0 m 24 ls []) rfl ?_
  refine lv_aload_n hx hb dJ5_append_cf1ce_24 rfl (lv_at hl 1 rfl) ?_
  refine lv_aload_n hx hb dJ5_append_cf1ce_25 rfl (lv_at hl 1 rfl) ?_
  refine g_ X hinJ4 hW 0 rfl rfl 3 (by decide) 1 rfl rfl rfl dJ5_append_cf1ce_26 ?_
  refine lv_aload_n hx hb dJ5_append_cf1ce_29 rfl (lv_at hl 2 rfl) ?_
  refine rU_ (As := [.int (nI n), .ref (Y.2.2.2.1 w)]) (rest := []) (wc := [(b, .inr (9, [.ref ae', .int 0, .int 0, .int (nI n)])), (ae', .inl (Y.2.1 0, cap', .inl f'))]) (w9 := []) X (kJ5_putStringAt_47b60 l Dd Y b ae' cap' n (nI n) f' w hw e2 (by omega)) (va_cwU 2 X.1.2.2.2.2 gJ5_append_cf1ce_J5_putStringAt_47b60_u208J4 rfl rfl rfl rfl (by decide +kernel) ⟨(Nat.le_of_ble_eq_true rfl), (Nat.le_of_ble_eq_true rfl)⟩) hW (List.Perm.refl _) 0 9 rfl rfl rfl rfl hl.1 rfl (Nat.le_of_ble_eq_true rfl) dJ5_append_cf1ce_30 ⟨(Nat.le_of_ble_eq_true rfl), (Nat.le_of_ble_eq_true rfl)⟩ (fun rv wq H locs hp hW => ?_)
  obtain ⟨rfl, rfl⟩ := hp
  have hW : Wd Dd A s.heap ([(b, .inr (9, [.ref ae', .int 0, .int 0, .int (nI n)])), (ae', .inl (Y.2.1 0, cap', .inl (va_cpy (fun j => (sByt.getD w []).getD j 0) f' 0 n (sLen.getD w 0))))]) H locs := hW
  refine W.eq (g2 := F0 m 33 ls []) rfl ?_
  refine lv_aload_n hx hb dJ5_append_cf1ce_33 rfl (lv_at hl 1 rfl) ?_
  refine lv_dup hx hb dJ5_append_cf1ce_34 rfl ?_
  refine g_ X hinJ4 hW 0 rfl rfl 3 (by decide) 1 rfl rfl rfl dJ5_append_cf1ce_35 ?_
  refine lv_iload_n hx hb dJ5_append_cf1ce_38 rfl (lv_at hl 0 rfl) ?_
  refine lv_iadd hx hb dJ5_append_cf1ce_39 ?_
  rw [nI_add]
  refine p_ (ty := .int) X hinJ4 tyJ4 tyJ4_ok nmJ4 hW 0 rfl rfl 3 (by decide) 1 rfl rfl rfl (by decide +kernel) rfl rfl (Nat.le_of_ble_eq_true rfl) dJ5_append_cf1ce_40 (ws' := [(b, .inr (9, [.ref ae', .int 0, .int 0, .int (nI (n + (sLen.getD w 0)))])), (ae', .inl (Y.2.1 0, cap', .inl (va_cpy (fun j => (sByt.getD w []).getD j 0) f' 0 n (sLen.getD w 0))))]) rfl (fun H locs hW => ?_)
  refine lv_aload_n hx hb dJ5_append_cf1ce_43 rfl (lv_at hl 1 rfl) ?_
  exact hA _ _ _ _ _ _ (some b) _ _ ⟨rfl, ae', cap', f', e1, e2, e3, e4, e5, rfl⟩ rfl (Or.inl ⟨_, rfl⟩) (Nat.le_of_ble_eq_true rfl) (Nat.le_of_ble_eq_true rfl) hW dJ5_append_cf1ce_44
set_option maxRecDepth 100000 in
set_option maxHeartbeats 4000000 in
theorem hJ5_append_cf1ce (l : Launch) (Dd : va_G) (Y : yT) (b ae cap n : Nat) (f : Nat → Int32) (s0 av lm : Nat) (g : Nat → Int32) (hg : sb_Fit g) (h0 : 0 < cap) (hc : cap ≤ 1000) (hf : sb_Fit f) (hq : n + lm ≤ 300) : MR l yJ5_append_cf1ce wsJ5_append_cf1ce rmJ5_append_cf1ce Dd Y [.ref b, .ref s0] ([(b, .inr (9, [.ref ae, .int 0, .int 0, .int (nI n)])), (ae, .inl (Y.2.1 0, cap, .inl f)), (s0, .inr (8, [.ref av, .int 0, .int 0, .int 0])), (av, .inl (Y.2.1 0, lm, .inl g))]) (fun rv wq => rv = some (.ref b) ∧ ∃ (ae' cap' : Nat) (f' : Nat → Int32), cap ≤ cap' ∧ n + lm ≤ cap' ∧ (cap' = cap ∨ cap' ≤ 3 * (n + lm) + 2) ∧ sb_Fit f' ∧ (∀ j : Nat, j < cap → f' j = f j) ∧ wq = [(b, .inr (9, [.ref ae', .int 0, .int 0, .int (nI (n + lm))])), (ae', .inl (Y.2.1 0, cap', .inl (va_cpy g f' 0 n lm))), (s0, .inr (8, [.ref av, .int 0, .int 0, .int 0])), (av, .inl (Y.2.1 0, lm, .inl g))]) 1 5000 := by
  refine MRk (cc := cJ5_append_cf1ce) (maxL := 3) (ret := (some (.object "java/lang/AbstractStringBuilder"))) (by decide) rfl (Nat.le_of_ble_eq_true rfl) (fun {p₀ e₀ s m args below meth c₀ A} ls Q X hin hW hl hI hV hA => ?_)
  have hx := X.x
  have hb := X.b
  have hl : lv_has ls 3 [(0, .ref b), (1, .ref s0)] := hl
  have hinJ4 : ∀ w ∈ wsJ40, w ∈ wsJ5_append_cf1ce := fun w h => List.mem_cons_of_mem _ (List.mem_append_left _ (List.mem_append_right _ h))
  refine lv_aload_n hx hb dJ5_append_cf1ce_0 rfl (lv_at hl 1 rfl) ?_
  refine lv_ifnonnull (tgt := 9) hx hb dJ5_append_cf1ce_1 (by decide) ?_
  refine lv_aload_n hx hb dJ5_append_cf1ce_9 rfl (lv_at hl 1 rfl) ?_
  refine rV_ (As := []) (rest := []) (wc := [(s0, .inr (8, [.ref av, .int 0, .int 0, .int 0])), (av, .inl (Y.2.1 0, lm, .inl g))]) (w9 := [(b, .inr (9, [.ref ae, .int 0, .int 0, .int (nI n)])), (ae, .inl (Y.2.1 0, cap, .inl f))]) X (hJ0_length_8abf5 l Dd Y s0 av lm g) (cwV 0 X.1.2.2.2.2 gJ5_append_cf1ce_J0_length_8abf5 rfl rfl rfl (by decide +kernel) ⟨(Nat.le_of_ble_eq_true rfl), (Nat.le_of_ble_eq_true rfl)⟩) hW (pmq17 _ _ _ _) 0 8 rfl rfl rfl rfl hl.1 rfl (Nat.le_of_ble_eq_true rfl) dJ5_append_cf1ce_10 ⟨(Nat.le_of_ble_eq_true rfl), (Nat.le_of_ble_eq_true rfl)⟩ (fun rv wq H locs hp hW => ?_)
  obtain ⟨rfl, rfl⟩ := hp
  have hW : Wd Dd A s.heap ([(s0, .inr (8, [.ref av, .int 0, .int 0, .int 0])), (av, .inl (Y.2.1 0, lm, .inl g)), (b, .inr (9, [.ref ae, .int 0, .int 0, .int (nI n)])), (ae, .inl (Y.2.1 0, cap, .inl f))]) H locs := hW
  refine W.eq (g2 := F0 m 13 ls [.int (nI lm)]) rfl ?_
  have hW : Wd Dd A s.heap ([(b, .inr (9, [.ref ae, .int 0, .int 0, .int (nI n)])), (ae, .inl (Y.2.1 0, cap, .inl f)), (s0, .inr (8, [.ref av, .int 0, .int 0, .int 0])), (av, .inl (Y.2.1 0, lm, .inl g))]) H locs := hW.permA (pmq18 _ _ _ _)
  refine lv_istore_n (lv' := [(2, .int (nI lm)), (0, .ref b), (1, .ref s0)]) hx hb dJ5_append_cf1ce_13 rfl hl (by decide) rfl (fun ls hl => ?_)
  refine lv_aload_n hx hb dJ5_append_cf1ce_14 rfl (lv_at hl 1 rfl) ?_
  refine lv_aload_n hx hb dJ5_append_cf1ce_15 rfl (lv_at hl 1 rfl) ?_
  refine g_ X hinJ4 hW 0 rfl rfl 3 (by decide) 1 rfl rfl rfl dJ5_append_cf1ce_16 ?_
  refine lv_iload_n hx hb dJ5_append_cf1ce_19 rfl (lv_at hl 0 rfl) ?_
  refine lv_iadd hx hb dJ5_append_cf1ce_20 ?_
  rw [nI_add]
  refine rU_ (As := [.int (nI (n + lm))]) (rest := []) (wc := [(b, .inr (9, [.ref ae, .int 0, .int 0, .int (nI n)])), (ae, .inl (Y.2.1 0, cap, .inl f))]) (w9 := [(s0, .inr (8, [.ref av, .int 0, .int 0, .int 0])), (av, .inl (Y.2.1 0, lm, .inl g))]) X (kJ5_ensureCapacityInternal_d00df l Dd Y b ae cap (n + lm) (nI n) f h0 hc (by omega) hf) (va_cwU 1 X.1.2.2.2.2 gJ5_append_cf1ce_J5_ensureCapacityInternal_d00df_u100J4 rfl rfl rfl rfl (by decide +kernel) ⟨(Nat.le_of_ble_eq_true rfl), (Nat.le_of_ble_eq_true rfl)⟩) hW (List.Perm.refl _) 0 9 rfl rfl rfl rfl hl.1 rfl (Nat.le_of_ble_eq_true rfl) dJ5_append_cf1ce_21 ⟨(Nat.le_of_ble_eq_true rfl), (Nat.le_of_ble_eq_true rfl)⟩ (fun rv wq H locs hp hW => ?_)
  obtain ⟨rfl, ae', cap', f', e1, e2, e3, e4, e5, rfl⟩ := hp
  have hW : Wd Dd A s.heap ([(b, .inr (9, [.ref ae', .int 0, .int 0, .int (nI n)])), (ae', .inl (Y.2.1 0, cap', .inl f')), (s0, .inr (8, [.ref av, .int 0, .int 0, .int 0])), (av, .inl (Y.2.1 0, lm, .inl g))]) H locs := hW
  refine W.eq (g2 := F0 m 24 ls []) rfl ?_
  refine lv_aload_n hx hb dJ5_append_cf1ce_24 rfl (lv_at hl 1 rfl) ?_
  refine lv_aload_n hx hb dJ5_append_cf1ce_25 rfl (lv_at hl 1 rfl) ?_
  refine g_ X hinJ4 hW 0 rfl rfl 3 (by decide) 1 rfl rfl rfl dJ5_append_cf1ce_26 ?_
  refine lv_aload_n hx hb dJ5_append_cf1ce_29 rfl (lv_at hl 2 rfl) ?_
  refine rU_ (As := [.int (nI n), .ref s0]) (rest := []) (wc := [(b, .inr (9, [.ref ae', .int 0, .int 0, .int (nI n)])), (ae', .inl (Y.2.1 0, cap', .inl f')), (s0, .inr (8, [.ref av, .int 0, .int 0, .int 0])), (av, .inl (Y.2.1 0, lm, .inl g))]) (w9 := []) X (hJ5_putStringAt_47b60 l Dd Y b ae' cap' n (nI n) f' s0 av lm g hg e2 (by omega) (by omega)) (va_cwU 2 X.1.2.2.2.2 gJ5_append_cf1ce_J5_putStringAt_47b60_u208J4 rfl rfl rfl rfl (by decide +kernel) ⟨(Nat.le_of_ble_eq_true rfl), (Nat.le_of_ble_eq_true rfl)⟩) hW (List.Perm.refl _) 0 9 rfl rfl rfl rfl hl.1 rfl (Nat.le_of_ble_eq_true rfl) dJ5_append_cf1ce_30 ⟨(Nat.le_of_ble_eq_true rfl), (Nat.le_of_ble_eq_true rfl)⟩ (fun rv wq H locs hp hW => ?_)
  obtain ⟨rfl, rfl⟩ := hp
  have hW : Wd Dd A s.heap ([(b, .inr (9, [.ref ae', .int 0, .int 0, .int (nI n)])), (ae', .inl (Y.2.1 0, cap', .inl (va_cpy g f' 0 n lm))), (s0, .inr (8, [.ref av, .int 0, .int 0, .int 0])), (av, .inl (Y.2.1 0, lm, .inl g))]) H locs := hW
  refine W.eq (g2 := F0 m 33 ls []) rfl ?_
  refine lv_aload_n hx hb dJ5_append_cf1ce_33 rfl (lv_at hl 1 rfl) ?_
  refine lv_dup hx hb dJ5_append_cf1ce_34 rfl ?_
  refine g_ X hinJ4 hW 0 rfl rfl 3 (by decide) 1 rfl rfl rfl dJ5_append_cf1ce_35 ?_
  refine lv_iload_n hx hb dJ5_append_cf1ce_38 rfl (lv_at hl 0 rfl) ?_
  refine lv_iadd hx hb dJ5_append_cf1ce_39 ?_
  rw [nI_add]
  refine p_ (ty := .int) X hinJ4 tyJ4 tyJ4_ok nmJ4 hW 0 rfl rfl 3 (by decide) 1 rfl rfl rfl (by decide +kernel) rfl rfl (Nat.le_of_ble_eq_true rfl) dJ5_append_cf1ce_40 (ws' := [(b, .inr (9, [.ref ae', .int 0, .int 0, .int (nI (n + lm))])), (ae', .inl (Y.2.1 0, cap', .inl (va_cpy g f' 0 n lm))), (s0, .inr (8, [.ref av, .int 0, .int 0, .int 0])), (av, .inl (Y.2.1 0, lm, .inl g))]) rfl (fun H locs hW => ?_)
  refine lv_aload_n hx hb dJ5_append_cf1ce_43 rfl (lv_at hl 1 rfl) ?_
  exact hA _ _ _ _ _ _ (some b) _ _ ⟨rfl, ae', cap', f', e1, e2, e3, e4, e5, rfl⟩ rfl (Or.inl ⟨_, rfl⟩) (Nat.le_of_ble_eq_true rfl) (Nat.le_of_ble_eq_true rfl) hW dJ5_append_cf1ce_44
abbrev rmJ4_append_15ec4 : Room := { frames := 6, cells := 1, slots := 5000, locals := 142 }
set_option maxRecDepth 100000 in
set_option maxHeartbeats 4000000 in
theorem kJ4_append_15ec4 (l : Launch) (Dd : va_G) (Y : yT) (b w : Nat) (hw : w < 10) (T : List Nat) (w0 : va_W) (hS : WSB Y b T w0) (hq : T.length + 10 ≤ 300) : MR l yJ4_append_15ec4 wsJ4_append_15ec4 rmJ4_append_15ec4 Dd Y [.ref b, .ref (Y.2.2.2.1 w)] (w0) (fun rv w' => rv = some (.ref b) ∧ WSB Y b (T ++ TC w) w') 1 5000 := by
  obtain ⟨ae, cap, f, h0, h1, h2, hB, rfl⟩ := hS
  have hlw : sLen.getD w 0 ≤ 10 := by rw [TC_len w hw]; exact (TC_ok w hw).2.2
  refine MRk (cc := cJ4_append_15ec4) (maxL := 2) (ret := (some (.object "java/lang/StringBuilder"))) (by decide) rfl (Nat.le_of_ble_eq_true rfl) (fun {p₀ e₀ s m args below meth c₀ A} ls Q X hin hW hl hI hV hA => ?_)
  have hx := X.x
  have hb := X.b
  have hl : lv_has ls 2 [(0, .ref b), (1, .ref (Y.2.2.2.1 w))] := hl
  refine lv_aload_n hx hb dJ4_append_15ec4_0 rfl (lv_at hl 0 rfl) ?_
  refine lv_aload_n hx hb dJ4_append_15ec4_1 rfl (lv_at hl 1 rfl) ?_
  refine rX_ (As := [.ref (Y.2.2.2.1 w)]) (rest := []) (wc := [(b, .inr (9, [.ref ae, .int 0, .int 0, .int (nI T.length)])), (ae, .inl (Y.2.1 0, cap, .inl f))]) (w9 := []) X (kJ5_append_cf1ce l Dd Y b ae cap T.length f w hw h0 h2 hB.1 (by omega)) (va_cwSU 1 X.1.2.2.2.2 gJ4_append_15ec4_J5_append_cf1ce_s29 rfl rfl rfl (by decide +kernel) ⟨(Nat.le_of_ble_eq_true rfl), (Nat.le_of_ble_eq_true rfl)⟩) hW (List.Perm.refl _) 0 9 rfl rfl rfl hl.1 rfl (Nat.le_of_ble_eq_true rfl) dJ4_append_15ec4_2 ⟨(Nat.le_of_ble_eq_true rfl), (Nat.le_of_ble_eq_true rfl)⟩ (fun rv wq H locs hp hW => ?_)
  obtain ⟨rfl, ae', cap', f', e1, e2, e3, e4, e5, rfl⟩ := hp
  have hW : Wd Dd A s.heap ([(b, .inr (9, [.ref ae', .int 0, .int 0, .int (nI (T.length + (sLen.getD w 0)))])), (ae', .inl (Y.2.1 0, cap', .inl (va_cpy (fun j => (sByt.getD w []).getD j 0) f' 0 T.length (sLen.getD w 0))))]) H locs := hW
  refine W.eq (g2 := F0 m 5 ls [.ref b]) rfl ?_
  refine lv_pop hx hb dJ4_append_15ec4_5 rfl ?_
  refine lv_aload_n hx hb dJ4_append_15ec4_6 rfl (lv_at hl 0 rfl) ?_
  exact hA _ _ _ _ _ _ (some b) _ _ ⟨rfl, ae', cap', _, by omega, by rw [List.length_append, ← TC_len w hw]; exact e2, by omega, (TC_len w hw) ▸ BT_app (BT_keep hB e4 (fun j hj => e5 j (by omega))) (TC_BT hw), by rw [List.length_append, ← TC_len w hw]⟩ rfl (Or.inl ⟨_, rfl⟩) (Nat.le_of_ble_eq_true rfl) (Nat.le_of_ble_eq_true rfl) hW dJ4_append_15ec4_7
set_option maxRecDepth 100000 in
set_option maxHeartbeats 4000000 in
theorem hJ4_append_15ec4 (l : Launch) (Dd : va_G) (Y : yT) (b s0 av : Nat) (S T : List Nat) (g : Nat → Int32) (hG : BT S g) (w0 : va_W) (hS : WSB Y b T w0) (hq : T.length + S.length ≤ 300) : MR l yJ4_append_15ec4 wsJ4_append_15ec4 rmJ4_append_15ec4 Dd Y [.ref b, .ref s0] (w0 ++ [(s0, .inr (8, [.ref av, .int 0, .int 0, .int 0])), (av, .inl (Y.2.1 0, S.length, .inl g))]) (fun rv w => rv = some (.ref b) ∧ ∃ w1, WSB Y b (T ++ S) w1 ∧ w = w1 ++ [(s0, .inr (8, [.ref av, .int 0, .int 0, .int 0])), (av, .inl (Y.2.1 0, S.length, .inl g))]) 1 5000 := by
  obtain ⟨ae, cap, f, h0, h1, h2, hB, rfl⟩ := hS
  refine MRk (cc := cJ4_append_15ec4) (maxL := 2) (ret := (some (.object "java/lang/StringBuilder"))) (by decide) rfl (Nat.le_of_ble_eq_true rfl) (fun {p₀ e₀ s m args below meth c₀ A} ls Q X hin hW hl hI hV hA => ?_)
  have hx := X.x
  have hb := X.b
  have hl : lv_has ls 2 [(0, .ref b), (1, .ref s0)] := hl
  refine lv_aload_n hx hb dJ4_append_15ec4_0 rfl (lv_at hl 0 rfl) ?_
  refine lv_aload_n hx hb dJ4_append_15ec4_1 rfl (lv_at hl 1 rfl) ?_
  refine rX_ (As := [.ref s0]) (rest := []) (wc := [(b, .inr (9, [.ref ae, .int 0, .int 0, .int (nI T.length)])), (ae, .inl (Y.2.1 0, cap, .inl f)), (s0, .inr (8, [.ref av, .int 0, .int 0, .int 0])), (av, .inl (Y.2.1 0, S.length, .inl g))]) (w9 := []) X (hJ5_append_cf1ce l Dd Y b ae cap T.length f s0 av S.length g hG.1 h0 h2 hB.1 (by omega)) (va_cwSU 1 X.1.2.2.2.2 gJ4_append_15ec4_J5_append_cf1ce_s29 rfl rfl rfl (by decide +kernel) ⟨(Nat.le_of_ble_eq_true rfl), (Nat.le_of_ble_eq_true rfl)⟩) hW (List.Perm.refl _) 0 9 rfl rfl rfl hl.1 rfl (Nat.le_of_ble_eq_true rfl) dJ4_append_15ec4_2 ⟨(Nat.le_of_ble_eq_true rfl), (Nat.le_of_ble_eq_true rfl)⟩ (fun rv wq H locs hp hW => ?_)
  obtain ⟨rfl, ae', cap', f', e1, e2, e3, e4, e5, rfl⟩ := hp
  have hW : Wd Dd A s.heap ([(b, .inr (9, [.ref ae', .int 0, .int 0, .int (nI (T.length + S.length))])), (ae', .inl (Y.2.1 0, cap', .inl (va_cpy g f' 0 T.length S.length))), (s0, .inr (8, [.ref av, .int 0, .int 0, .int 0])), (av, .inl (Y.2.1 0, S.length, .inl g))]) H locs := hW
  refine W.eq (g2 := F0 m 5 ls [.ref b]) rfl ?_
  refine lv_pop hx hb dJ4_append_15ec4_5 rfl ?_
  refine lv_aload_n hx hb dJ4_append_15ec4_6 rfl (lv_at hl 0 rfl) ?_
  exact hA _ _ _ _ _ _ (some b) _ _ ⟨rfl, _, ⟨ae', cap', _, by omega, by rw [List.length_append]; exact e2, by omega, BT_app (BT_keep hB e4 (fun j hj => e5 j (by omega))) hG, rfl⟩, by rw [List.length_append]; rfl⟩ rfl (Or.inl ⟨_, rfl⟩) (Nat.le_of_ble_eq_true rfl) (Nat.le_of_ble_eq_true rfl) hW dJ4_append_15ec4_7
