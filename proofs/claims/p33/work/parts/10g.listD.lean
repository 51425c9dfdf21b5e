theorem nI_leZ {a : Nat} (h : a < 2 ^ 31) : (0 : Int32) ≤ nI a := by
  have := nI_pos h
  exact Int32.not_lt.mp this
abbrev rmJx4a65c_rangeCheckForAdd_d00df : Room := { frames := 0, cells := 0, slots := 0, locals := 0 }
set_option maxRecDepth 100000 in
set_option maxHeartbeats 4000000 in
theorem kJx4a65c_rangeCheckForAdd_d00df (l : Launch) (Dd : va_G) (Y : yT) (b i n : Nat) (mo : Int32) (v : Value) (hi : i ≤ n) (hn : n < 2 ^ 31) : MR l yJx4a65c_rangeCheckForAdd_d00df wsJx4a65c_rangeCheckForAdd_d00df rmJx4a65c_rangeCheckForAdd_d00df Dd Y [.ref b, .int (nI i)] ([(b, .inr (11, [.int mo, v, .int (nI n)]))]) (fun rv w => rv = none ∧ w = [(b, .inr (11, [.int mo, v, .int (nI n)]))]) 0 0 := by
  refine MRk (cc := cJx4a65c_rangeCheckForAdd_d00df) (maxL := 2) (ret := none) (by decide) rfl (Nat.le_of_ble_eq_true rfl) (fun {p₀ e₀ s m args below meth c₀ A} ls Q X hin hW hl hI hV hA => ?_)
  have hx := X.x
  have hb := X.b
  have hl : lv_has ls 2 [(0, .ref b), (1, .int (nI i))] := hl
  have hinJx4a65c : ∀ w ∈ wsJx4a65c0, w ∈ wsJx4a65c_rangeCheckForAdd_d00df := fun w h => List.mem_cons_of_mem _ (List.mem_append_right _ h)
  refine lv_iload_n hx hb dJx4a65c_rangeCheckForAdd_d00df_0 rfl (lv_at hl 1 rfl) ?_
  refine lv_aload_n hx hb dJx4a65c_rangeCheckForAdd_d00df_1 rfl (lv_at hl 0 rfl) ?_
  refine g_ X hinJx4a65c hW 0 rfl rfl 2 (by decide) 1 rfl rfl rfl dJx4a65c_rangeCheckForAdd_d00df_2 ?_
  refine lv_icmp_gt (tgt := 12) hx hb dJx4a65c_rangeCheckForAdd_d00df_5 (by decide) (fun h => absurd h (nI_nlt (by omega) (by omega))) (fun _ => ?_)
  refine lv_iload_n hx hb dJx4a65c_rangeCheckForAdd_d00df_8 rfl (lv_at hl 1 rfl) ?_
  refine lv_if_ge (tgt := 25) hx hb dJx4a65c_rangeCheckForAdd_d00df_9 (by decide) (fun _ => ?_) (fun h => absurd (show (0 : Int32) ≤ nI i from nI_leZ (by omega)) h)
  exact hV _ _ _ _ _ _ _ ⟨rfl, rfl⟩ rfl (Nat.le_of_ble_eq_true rfl) (Nat.le_of_ble_eq_true rfl) hW dJx4a65c_rangeCheckForAdd_d00df_25
abbrev rmJx4a65c_add_7a177 : Room := { frames := 5, cells := 1, slots := 1000, locals := 113 }
set_option maxRecDepth 100000 in
set_option maxHeartbeats 4000000 in
theorem kJx4a65c_add_7a177 (l : Launch) (Dd : va_G) (Y : yT) (b ae cap n i v : Nat) (mo : Int32) (f : Nat → Option Nat) (ex : va_W) (hi : i ≤ n) (hn : n < cap) (hc : cap ≤ 1000) (hv : inx ex v) (hel : ∀ i : Nat, i < n → ∀ y : Nat, f i = some y → inx ex y) : MR l yJx4a65c_add_7a177 wsJx4a65c_add_7a177 rmJx4a65c_add_7a177 Dd Y [.ref b, .int (nI i), .ref v] ([(b, .inr (11, [.int mo, .ref ae, .int (nI n)])), (ae, .inl (Y.2.1 2, cap, .inr (.inr (.inr (.inr f)))))] ++ ex) (fun rv w => rv = none ∧ w = [(b, .inr (11, [.int (mo + 1), .ref ae, .int (nI (n + 1))])), (ae, .inl (Y.2.1 2, cap, .inr (.inr (.inr (.inr (va_up (va_cpy f f i (i + 1) (n - i)) i (some v)))))))] ++ ex) 1 1000 := by
  refine MRk (cc := cJx4a65c_add_7a177) (maxL := 5) (ret := none) (by decide) rfl (Nat.le_of_ble_eq_true rfl) (fun {p₀ e₀ s m args below meth c₀ A} ls Q X hin hW hl hI hV hA => ?_)
  have hx := X.x
  have hb := X.b
  have hl : lv_has ls 5 [(0, .ref b), (1, .int (nI i)), (2, .ref v)] := hl
  have hinJx4a65c : ∀ w ∈ wsJx4a65c0, w ∈ wsJx4a65c_add_7a177 := fun w h => List.mem_cons_of_mem _ (List.mem_append_right _ h)
  refine lv_aload_n hx hb dJx4a65c_add_7a177_0 rfl (lv_at hl 0 rfl) ?_
  refine lv_iload_n hx hb dJx4a65c_add_7a177_1 rfl (lv_at hl 1 rfl) ?_
  refine rV_ (As := [.int (nI i)]) (rest := []) (wc := [(b, .inr (11, [.int mo, .ref ae, .int (nI n)]))]) (w9 := [(ae, .inl (Y.2.1 2, cap, .inr (.inr (.inr (.inr f)))))] ++ ex) X (kJx4a65c_rangeCheckForAdd_d00df l Dd Y b i n mo (.ref ae) hi (by omega)) (cwV 1 X.1.2.2.2.2 gJx4a65c_add_7a177_Jx4a65c_rangeCheckForAdd_d00df rfl rfl rfl (by decide +kernel) ⟨(Nat.le_of_ble_eq_true rfl), (Nat.le_of_ble_eq_true rfl)⟩) hW (List.Perm.refl _) 0 11 rfl rfl rfl rfl hl.1 rfl (Nat.le_of_ble_eq_true rfl) dJx4a65c_add_7a177_2 ⟨(Nat.le_of_ble_eq_true rfl), (Nat.le_of_ble_eq_true rfl)⟩ (fun rv wq H locs hp hW => ?_)
  obtain ⟨rfl, rfl⟩ := hp
  have hW : Wd Dd A s.heap ([(b, .inr (11, [.int mo, .ref ae, .int (nI n)])), (ae, .inl (Y.2.1 2, cap, .inr (.inr (.inr (.inr f)))))] ++ ex) H locs := hW
  refine W.eq (g2 := F0 m 5 ls []) rfl ?_
  refine lv_aload_n hx hb dJx4a65c_add_7a177_5 rfl (lv_at hl 0 rfl) ?_
  refine lv_dup hx hb dJx4a65c_add_7a177_6 rfl ?_
  refine gS_ X hinJx4a65c hW 0 rfl rfl 0 (by decide) 1 2 rfl rfl rfl dJx4a65c_add_7a177_7 ?_
  refine lv_iconst (v := 1) hx hb dJx4a65c_add_7a177_10 (by decide) ?_
  refine lv_iadd hx hb dJx4a65c_add_7a177_11 ?_
  refine pS_ (ty := .int) X hinJx4a65c tyJx4a65c tyJx4a65c_ok nmJx4a65c hW 0 rfl rfl 0 (by decide) 1 2 rfl rfl rfl (by decide +kernel) rfl rfl (Nat.le_of_ble_eq_true rfl) dJx4a65c_add_7a177_12 (ws' := [(b, .inr (11, [.int (mo + 1), .ref ae, .int (nI n)])), (ae, .inl (Y.2.1 2, cap, .inr (.inr (.inr (.inr f)))))] ++ ex) rfl (fun H locs hW => ?_)
  refine lv_aload_n hx hb dJx4a65c_add_7a177_15 rfl (lv_at hl 0 rfl) ?_
  refine g_ X hinJx4a65c hW 0 rfl rfl 2 (by decide) 3 rfl rfl rfl dJx4a65c_add_7a177_16 ?_
  refine lv_dup hx hb dJx4a65c_add_7a177_19 rfl ?_
  refine lv_istore_n (lv' := [(3, .int (nI n)), (0, .ref b), (1, .int (nI i)), (2, .ref v)]) hx hb dJx4a65c_add_7a177_20 rfl hl (by decide) rfl (fun ls hl => ?_)
  refine lv_aload_n hx hb dJx4a65c_add_7a177_21 rfl (lv_at hl 1 rfl) ?_
  refine g_ X hinJx4a65c hW 0 rfl rfl 1 (by decide) 4 rfl rfl rfl dJx4a65c_add_7a177_22 ?_
  refine lv_dup hx hb dJx4a65c_add_7a177_25 rfl ?_
  refine lv_astore (lv' := [(4, .ref ae), (3, .int (nI n)), (0, .ref b), (1, .int (nI i)), (2, .ref v)]) hx hb dJx4a65c_add_7a177_26 hl (by decide) rfl (fun ls hl => ?_)
  refine len_ (v := nI cap) X hW 1 4 rfl rfl rfl dJx4a65c_add_7a177_28 ?_
  refine lv_icmp_ne (tgt := 38) hx hb dJx4a65c_add_7a177_29 (by decide) (fun _ => ?_) (fun h => absurd ((nI_eq (by omega) (by omega)).mp h) (by omega))
  refine lv_aload hx hb dJx4a65c_add_7a177_38 (lv_at hl 0 rfl) ?_
  refine lv_iload_n hx hb dJx4a65c_add_7a177_40 rfl (lv_at hl 3 rfl) ?_
  refine lv_aload hx hb dJx4a65c_add_7a177_41 (lv_at hl 0 rfl) ?_
  refine lv_iload_n hx hb dJx4a65c_add_7a177_43 rfl (lv_at hl 3 rfl) ?_
  refine lv_iconst (v := 1) hx hb dJx4a65c_add_7a177_44 (by decide) ?_
  refine lv_iadd hx hb dJx4a65c_add_7a177_45 ?_
  rw [nI_1]
  refine lv_iload_n hx hb dJx4a65c_add_7a177_46 rfl (lv_at hl 1 rfl) ?_
  refine lv_iload_n hx hb dJx4a65c_add_7a177_47 rfl (lv_at hl 3 rfl) ?_
  refine lv_isub hx hb dJx4a65c_add_7a177_48 ?_
  rw [show nI n - nI i = nI (n - i) from pk_sub hi]
  refine cpq_ X hl.1 5 6 7 8 rfl rfl rfl rfl ⟨(Nat.le_of_ble_eq_true rfl), (Nat.le_of_ble_eq_true rfl)⟩ (Nat.le_of_ble_eq_true rfl) hW 1 1 rfl rfl (sp' := i) (dp' := i + 1) (n' := n - i) rfl rfl rfl (by omega) (by omega) (by omega) (by omega) (fun j hj y h => anyx_ (w := [(b, .inr (11, [.int (mo + 1), .ref ae, .int (nI n)])), (ae, .inl (Y.2.1 2, cap, .inr (.inr (.inr (.inr f)))))]) X hW (hel (i + j) (by omega) y h)) dJx4a65c_add_7a177_49 (ws' := [(b, .inr (11, [.int (mo + 1), .ref ae, .int (nI n)])), (ae, .inl (Y.2.1 2, cap, .inr (.inr (.inr (.inr (va_cpy f f i (i + 1) (n - i)))))))] ++ ex) rfl (fun H locs hW => ?_)
  refine lv_aload hx hb dJx4a65c_add_7a177_52 (lv_at hl 0 rfl) ?_
  refine lv_iload_n hx hb dJx4a65c_add_7a177_54 rfl (lv_at hl 3 rfl) ?_
  refine lv_aload_n hx hb dJx4a65c_add_7a177_55 rfl (lv_at hl 4 rfl) ?_
  refine asq_ X hW 1 rfl (anyx_ (w := [(b, .inr (11, [.int (mo + 1), .ref ae, .int (nI n)])), (ae, .inl (Y.2.1 2, cap, .inr (.inr (.inr (.inr (va_cpy f f i (i + 1) (n - i)))))))]) X hW hv) (vp_in_nI (by omega) (by omega)) dJx4a65c_add_7a177_56 (ws' := [(b, .inr (11, [.int (mo + 1), .ref ae, .int (nI n)])), (ae, .inl (Y.2.1 2, cap, .inr (.inr (.inr (.inr (va_up (va_cpy f f i (i + 1) (n - i)) i (some v)))))))] ++ ex) (by rw [nI_clamp (by omega)]; rfl) (fun H locs hW => ?_)
  refine lv_aload_n hx hb dJx4a65c_add_7a177_57 rfl (lv_at hl 2 rfl) ?_
  refine lv_iload_n hx hb dJx4a65c_add_7a177_58 rfl (lv_at hl 1 rfl) ?_
  refine lv_iconst (v := 1) hx hb dJx4a65c_add_7a177_59 (by decide) ?_
  refine lv_iadd hx hb dJx4a65c_add_7a177_60 ?_
  rw [nI_1]
  refine p_ (ty := .int) X hinJx4a65c tyJx4a65c tyJx4a65c_ok nmJx4a65c hW 0 rfl rfl 2 (by decide) 3 rfl rfl rfl (by decide +kernel) rfl rfl (Nat.le_of_ble_eq_true rfl) dJx4a65c_add_7a177_61 (ws' := [(b, .inr (11, [.int (mo + 1), .ref ae, .int (nI (n + 1))])), (ae, .inl (Y.2.1 2, cap, .inr (.inr (.inr (.inr (va_up (va_cpy f f i (i + 1) (n - i)) i (some v)))))))] ++ ex) rfl (fun H locs hW => ?_)
  exact hV _ _ _ _ _ _ _ ⟨rfl, rfl⟩ rfl (Nat.le_of_ble_eq_true rfl) (Nat.le_of_ble_eq_true rfl) hW dJx4a65c_add_7a177_64
set_option maxRecDepth 100000 in
set_option maxHeartbeats 4000000 in
theorem kInsF (l : Launch) (Dd : va_G) (Y : yT) (b ae cap i v : Nat) (mo : Int32) (f : Nat → Option Nat) (ex : va_W) (hi : i ≤ cap) (hv : inx ex v) (h0 : 0 < cap) (hc : cap ≤ 600) (hel : ∀ i : Nat, i < cap → ∀ y : Nat, f i = some y → inx ex y) : MR l yJx4a65c_add_7a177 wsJx4a65c_add_7a177 rmJx4a65c_add_7a177 Dd Y [.ref b, .int (nI i), .ref v] ([(b, .inr (11, [.int mo, .ref ae, .int (nI cap)])), (ae, .inl (Y.2.1 2, cap, .inr (.inr (.inr (.inr f)))))] ++ ex) (fun rv w => ∃ q : Nat, rv = none ∧ w = [(b, .inr (11, [.int (mo + 1), .ref q, .int (nI (cap + 1))])), (q, .inl (Y.2.1 2, (cap + max 1 (cap / 2)), .inr (.inr (.inr (.inr (va_up (va_cpy (va_cpy f (fun _ => none) 0 0 cap) (va_cpy f (fun _ => none) 0 0 cap) i (i + 1) (cap - i)) i (some v)))))))] ++ ex) 1 1000 := by
  refine MRk (cc := cJx4a65c_add_7a177) (maxL := 5) (ret := none) (by decide) rfl (Nat.le_of_ble_eq_true rfl) (fun {p₀ e₀ s m args below meth c₀ A} ls Q X hin hW hl hI hV hA => ?_)
  have hx := X.x
  have hb := X.b
  have hl : lv_has ls 5 [(0, .ref b), (1, .int (nI i)), (2, .ref v)] := hl
  have hinJx4a65c : ∀ w ∈ wsJx4a65c0, w ∈ wsJx4a65c_add_7a177 := fun w h => List.mem_cons_of_mem _ (List.mem_append_right _ h)
  refine lv_aload_n hx hb dJx4a65c_add_7a177_0 rfl (lv_at hl 0 rfl) ?_
  refine lv_iload_n hx hb dJx4a65c_add_7a177_1 rfl (lv_at hl 1 rfl) ?_
  refine rV_ (As := [.int (nI i)]) (rest := []) (wc := [(b, .inr (11, [.int mo, .ref ae, .int (nI cap)]))]) (w9 := [(ae, .inl (Y.2.1 2, cap, .inr (.inr (.inr (.inr f)))))] ++ ex) X (kJx4a65c_rangeCheckForAdd_d00df l Dd Y b i cap mo (.ref ae) hi (by omega)) (cwV 1 X.1.2.2.2.2 gJx4a65c_add_7a177_Jx4a65c_rangeCheckForAdd_d00df rfl rfl rfl (by decide +kernel) ⟨(Nat.le_of_ble_eq_true rfl), (Nat.le_of_ble_eq_true rfl)⟩) hW (List.Perm.refl _) 0 11 rfl rfl rfl rfl hl.1 rfl (Nat.le_of_ble_eq_true rfl) dJx4a65c_add_7a177_2 ⟨(Nat.le_of_ble_eq_true rfl), (Nat.le_of_ble_eq_true rfl)⟩ (fun rv wq H locs hp hW => ?_)
  obtain ⟨rfl, rfl⟩ := hp
  have hW : Wd Dd A s.heap ([(b, .inr (11, [.int mo, .ref ae, .int (nI cap)])), (ae, .inl (Y.2.1 2, cap, .inr (.inr (.inr (.inr f)))))] ++ ex) H locs := hW
  refine W.eq (g2 := F0 m 5 ls []) rfl ?_
  refine lv_aload_n hx hb dJx4a65c_add_7a177_5 rfl (lv_at hl 0 rfl) ?_
  refine lv_dup hx hb dJx4a65c_add_7a177_6 rfl ?_
  refine gS_ X hinJx4a65c hW 0 rfl rfl 0 (by decide) 1 2 rfl rfl rfl dJx4a65c_add_7a177_7 ?_
  refine lv_iconst (v := 1) hx hb dJx4a65c_add_7a177_10 (by decide) ?_
  refine lv_iadd hx hb dJx4a65c_add_7a177_11 ?_
  refine pS_ (ty := .int) X hinJx4a65c tyJx4a65c tyJx4a65c_ok nmJx4a65c hW 0 rfl rfl 0 (by decide) 1 2 rfl rfl rfl (by decide +kernel) rfl rfl (Nat.le_of_ble_eq_true rfl) dJx4a65c_add_7a177_12 (ws' := [(b, .inr (11, [.int (mo + 1), .ref ae, .int (nI cap)])), (ae, .inl (Y.2.1 2, cap, .inr (.inr (.inr (.inr f)))))] ++ ex) rfl (fun H locs hW => ?_)
  refine lv_aload_n hx hb dJx4a65c_add_7a177_15 rfl (lv_at hl 0 rfl) ?_
  refine g_ X hinJx4a65c hW 0 rfl rfl 2 (by decide) 3 rfl rfl rfl dJx4a65c_add_7a177_16 ?_
  refine lv_dup hx hb dJx4a65c_add_7a177_19 rfl ?_
  refine lv_istore_n (lv' := [(3, .int (nI cap)), (0, .ref b), (1, .int (nI i)), (2, .ref v)]) hx hb dJx4a65c_add_7a177_20 rfl hl (by decide) rfl (fun ls hl => ?_)
  refine lv_aload_n hx hb dJx4a65c_add_7a177_21 rfl (lv_at hl 1 rfl) ?_
  refine g_ X hinJx4a65c hW 0 rfl rfl 1 (by decide) 4 rfl rfl rfl dJx4a65c_add_7a177_22 ?_
  refine lv_dup hx hb dJx4a65c_add_7a177_25 rfl ?_
  refine lv_astore (lv' := [(4, .ref ae), (3, .int (nI cap)), (0, .ref b), (1, .int (nI i)), (2, .ref v)]) hx hb dJx4a65c_add_7a177_26 hl (by decide) rfl (fun ls hl => ?_)
  refine len_ (v := nI cap) X hW 1 4 rfl rfl rfl dJx4a65c_add_7a177_28 ?_
  refine lv_icmp_ne (tgt := 38) hx hb dJx4a65c_add_7a177_29 (by decide) (fun h => absurd rfl h) (fun _ => ?_)
  refine lv_aload_n hx hb dJx4a65c_add_7a177_32 rfl (lv_at hl 2 rfl) ?_
  refine rV_ (As := []) (rest := []) (wc := [(b, .inr (11, [.int (mo + 1), .ref ae, .int (nI cap)])), (ae, .inl (Y.2.1 2, cap, .inr (.inr (.inr (.inr f)))))] ++ ex) (w9 := []) X (kGrow0F l Dd Y b ae cap (mo + 1) f ex h0 hc hel) (cwV 0 X.1.2.2.2.2 gJx4a65c_add_7a177_Jx4a65c_grow_d5877 rfl rfl rfl (by decide +kernel) ⟨(Nat.le_of_ble_eq_true rfl), (Nat.le_of_ble_eq_true rfl)⟩) hW (pmq3 _ _ _) 0 11 rfl rfl rfl rfl hl.1 rfl (Nat.le_of_ble_eq_true rfl) dJx4a65c_add_7a177_33 ⟨(Nat.le_of_ble_eq_true rfl), (Nat.le_of_ble_eq_true rfl)⟩ (fun rv wq H locs hp hW => ?_)
  obtain ⟨q, rfl, rfl⟩ := hp
  have hW : Wd Dd A s.heap ([(b, .inr (11, [.int (mo + 1), .ref q, .int (nI cap)])), (q, .inl (Y.2.1 2, (cap + max 1 (cap / 2)), .inr (.inr (.inr (.inr (va_cpy f (fun _ => none) 0 0 cap))))))] ++ ex) H locs := by rw [List.append_nil] at hW; exact hW
  refine W.eq (g2 := F0 m 36 ls [.ref q]) rfl ?_
  refine lv_astore (lv' := [(4, .ref q), (3, .int (nI cap)), (0, .ref b), (1, .int (nI i)), (2, .ref v)]) hx hb dJx4a65c_add_7a177_36 hl (by decide) rfl (fun ls hl => ?_)
  refine lv_aload hx hb dJx4a65c_add_7a177_38 (lv_at hl 0 rfl) ?_
  refine lv_iload_n hx hb dJx4a65c_add_7a177_40 rfl (lv_at hl 3 rfl) ?_
  refine lv_aload hx hb dJx4a65c_add_7a177_41 (lv_at hl 0 rfl) ?_
  refine lv_iload_n hx hb dJx4a65c_add_7a177_43 rfl (lv_at hl 3 rfl) ?_
  refine lv_iconst (v := 1) hx hb dJx4a65c_add_7a177_44 (by decide) ?_
  refine lv_iadd hx hb dJx4a65c_add_7a177_45 ?_
  rw [nI_1]
  refine lv_iload_n hx hb dJx4a65c_add_7a177_46 rfl (lv_at hl 1 rfl) ?_
  refine lv_iload_n hx hb dJx4a65c_add_7a177_47 rfl (lv_at hl 3 rfl) ?_
  refine lv_isub hx hb dJx4a65c_add_7a177_48 ?_
  rw [show nI cap - nI i = nI (cap - i) from pk_sub hi]
  refine cpq_ X hl.1 5 6 7 8 rfl rfl rfl rfl ⟨(Nat.le_of_ble_eq_true rfl), (Nat.le_of_ble_eq_true rfl)⟩ (Nat.le_of_ble_eq_true rfl) hW 1 1 rfl rfl (sp' := i) (dp' := i + 1) (n' := cap - i) rfl rfl rfl (by omega) (by omega) (by omega) (by omega) (fun j hj y h => anyx_ (w := [(b, .inr (11, [.int (mo + 1), .ref q, .int (nI cap)])), (q, .inl (Y.2.1 2, (cap + max 1 (cap / 2)), .inr (.inr (.inr (.inr (va_cpy f (fun _ => none) 0 0 cap))))))]) X hW (hel (i + j) (by omega) y (by rw [pk_cpy_in (Nat.zero_le _) (by omega), Nat.zero_add, Nat.sub_zero] at h; exact h))) dJx4a65c_add_7a177_49 (ws' := [(b, .inr (11, [.int (mo + 1), .ref q, .int (nI cap)])), (q, .inl (Y.2.1 2, (cap + max 1 (cap / 2)), .inr (.inr (.inr (.inr (va_cpy (va_cpy f (fun _ => none) 0 0 cap) (va_cpy f (fun _ => none) 0 0 cap) i (i + 1) (cap - i)))))))] ++ ex) rfl (fun H locs hW => ?_)
  refine lv_aload hx hb dJx4a65c_add_7a177_52 (lv_at hl 0 rfl) ?_
  refine lv_iload_n hx hb dJx4a65c_add_7a177_54 rfl (lv_at hl 3 rfl) ?_
  refine lv_aload_n hx hb dJx4a65c_add_7a177_55 rfl (lv_at hl 4 rfl) ?_
  refine asq_ X hW 1 rfl (anyx_ (w := [(b, .inr (11, [.int (mo + 1), .ref q, .int (nI cap)])), (q, .inl (Y.2.1 2, (cap + max 1 (cap / 2)), .inr (.inr (.inr (.inr (va_cpy (va_cpy f (fun _ => none) 0 0 cap) (va_cpy f (fun _ => none) 0 0 cap) i (i + 1) (cap - i)))))))]) X hW hv) (vp_in_nI (by omega) (by omega)) dJx4a65c_add_7a177_56 (ws' := [(b, .inr (11, [.int (mo + 1), .ref q, .int (nI cap)])), (q, .inl (Y.2.1 2, (cap + max 1 (cap / 2)), .inr (.inr (.inr (.inr (va_up (va_cpy (va_cpy f (fun _ => none) 0 0 cap) (va_cpy f (fun _ => none) 0 0 cap) i (i + 1) (cap - i)) i (some v)))))))] ++ ex) (by rw [nI_clamp (by omega)]; rfl) (fun H locs hW => ?_)
  refine lv_aload_n hx hb dJx4a65c_add_7a177_57 rfl (lv_at hl 2 rfl) ?_
  refine lv_iload_n hx hb dJx4a65c_add_7a177_58 rfl (lv_at hl 1 rfl) ?_
  refine lv_iconst (v := 1) hx hb dJx4a65c_add_7a177_59 (by decide) ?_
  refine lv_iadd hx hb dJx4a65c_add_7a177_60 ?_
  rw [nI_1]
  refine p_ (ty := .int) X hinJx4a65c tyJx4a65c tyJx4a65c_ok nmJx4a65c hW 0 rfl rfl 2 (by decide) 3 rfl rfl rfl (by decide +kernel) rfl rfl (Nat.le_of_ble_eq_true rfl) dJx4a65c_add_7a177_61 (ws' := [(b, .inr (11, [.int (mo + 1), .ref q, .int (nI (cap + 1))])), (q, .inl (Y.2.1 2, (cap + max 1 (cap / 2)), .inr (.inr (.inr (.inr (va_up (va_cpy (va_cpy f (fun _ => none) 0 0 cap) (va_cpy f (fun _ => none) 0 0 cap) i (i + 1) (cap - i)) i (some v)))))))] ++ ex) rfl (fun H locs hW => ?_)
  exact hV _ _ _ _ _ _ _ ⟨q, rfl, rfl⟩ rfl (Nat.le_of_ble_eq_true rfl) (Nat.le_of_ble_eq_true rfl) hW dJx4a65c_add_7a177_64
theorem xs_ins {xs : List Nat} {i v : Nat} (hi : i ≤ xs.length) (j : Nat) : va_up (va_cpy (fun k => xs[k]?) (fun k => xs[k]?) i (i + 1) (xs.length - i)) i (some v) j = (xs.take i ++ v :: xs.drop i)[j]? := by
  have ht : (xs.take i).length = i := by rw [List.length_take]; omega
  unfold va_up
  by_cases h : j = i
  · subst h
    rw [if_pos rfl, List.getElem?_append_right (by omega), ht, Nat.sub_self]; rfl
  · rw [if_neg h]
    rcases Nat.lt_or_ge j i with q | q
    · rw [pk_cpy_out (Or.inl (by omega)), List.getElem?_append_left (by omega), List.getElem?_take, if_pos q]
    · rw [List.getElem?_append_right (by omega), ht, show j - i = (j - i - 1) + 1 by omega, List.getElem?_cons_succ, List.getElem?_drop]
      rcases Nat.lt_or_ge j (xs.length + 1) with k | k
      · rw [pk_cpy_in (by omega) (by omega)]
        show xs[i + (j - (i + 1))]? = _
        rw [show i + (j - (i + 1)) = i + (j - i - 1) by omega]
      · rw [pk_cpy_out (Or.inr (by omega))]
        show xs[j]? = _
        rw [List.getElem?_eq_none (by omega), List.getElem?_eq_none (by omega)]
theorem kIns (l : Launch) (Dd : va_G) (Y : yT) (b ae cap i v : Nat) (mo : Int32) (xs : List Nat) (ex : va_W) (h : okL Y ae cap xs) (hx : ∀ y ∈ xs, inx ex y) (hv : inx ex v) (h3 : xs.length ≤ 300) (hi : i < xs.length) : MR l yJx4a65c_add_7a177 wsJx4a65c_add_7a177 rmJx4a65c_add_7a177 Dd Y [.ref b, .int (nI i), .ref v] (WLs Y b mo ae cap xs ++ ex) (fun rv w => rv = none ∧ ∃ (mo' : Int32) (ae' cap' : Nat), 0 < cap' ∧ okL Y ae' cap' (xs.take i ++ v :: xs.drop i) ∧ w = WLs Y b mo' ae' cap' (xs.take i ++ v :: xs.drop i) ++ ex) 1 1000 := by
  obtain ⟨g1, g2, g3⟩ := h
  have h0 : 0 < cap := by omega
  have hlen : (xs.take i ++ v :: xs.drop i).length = xs.length + 1 := by rw [List.length_append, List.length_cons, List.length_take, List.length_drop]; omega
  rcases Nat.lt_or_ge xs.length cap with q | q
  · rw [WLs_s _ _ _ h0]
    refine (kJx4a65c_add_7a177 l Dd Y b ae cap xs.length i v mo (fun k => xs[k]?) ex (by omega) q (by omega) hv (fun i hi y hy => hx y (List.mem_of_getElem? hy))).to (fun rv w hp => ?_)
    obtain ⟨rfl, rfl⟩ := hp
    refine ⟨WLs Y b (mo + 1) ae cap (xs.take i ++ v :: xs.drop i) ++ ex, ⟨rfl, mo + 1, ae, cap, h0, ⟨fun h => absurd h (by omega), by omega, g3⟩, rfl⟩, fun H hP => ?_, by rw [WLs_s _ _ _ h0]; rfl⟩
    rw [WLs_s _ _ _ h0, hlen]
    exact sw_P (pre := [(b, .inr (11, [.int (mo + 1), .ref ae, .int (nI (xs.length + 1))]))]) (post := ex) (rf_cg (fun j hj => xs_ins (by omega) j)) hP
  · obtain rfl : cap = xs.length := by omega
    rw [WLs_s _ _ _ h0]
    refine (kInsF l Dd Y b ae xs.length i v mo (fun k => xs[k]?) ex (by omega) hv h0 g3 (fun i hi y hy => hx y (List.mem_of_getElem? hy))).to (fun rv w hp => ?_)
    obtain ⟨q, rfl, rfl⟩ := hp
    have hc : 0 < xs.length + max 1 (xs.length / 2) := by omega
    refine ⟨WLs Y b (mo + 1) q (xs.length + max 1 (xs.length / 2)) (xs.take i ++ v :: xs.drop i) ++ ex, ⟨rfl, mo + 1, q, _, hc, ⟨fun h => absurd h (by omega), by omega, by omega⟩, rfl⟩, fun H hP => ?_, by rw [WLs_s _ _ _ hc]; rfl⟩
    rw [WLs_s _ _ _ hc, hlen]
    refine sw_P (pre := [(b, .inr (11, [.int (mo + 1), .ref q, .int (nI (xs.length + 1))]))]) (post := ex) (rf_cg (fun j hj => ?_)) hP
    rw [← xs_ins (v := v) (show i ≤ xs.length by omega) j]
    have e : ∀ k : Nat, va_cpy (fun k => xs[k]?) (fun _ => none) 0 0 xs.length k = xs[k]? := fun k => by
      rcases Nat.lt_or_ge k xs.length with c | c
      · rw [pk_cpy_in (Nat.zero_le _) (by omega), Nat.zero_add, Nat.sub_zero]
      · rw [pk_cpy_out (Or.inr (by omega)), List.getElem?_eq_none c]
    rw [show va_cpy (fun k => xs[k]?) (fun _ => none) 0 0 xs.length = fun k => xs[k]? from funext e]
theorem nI_leN {a b : Nat} (ha : a < 2 ^ 31) (hb : b < 2 ^ 31) : nI a ≤ nI b ↔ a ≤ b := nI_leI ha hb
theorem rm_0 {f : Nat → Option Nat} {i n : Nat} (h : n - 1 = i) (j : Nat) : va_up f (n - 1) none j = if j < i then f j else if j < n - 1 then f (j + 1) else if j = n - 1 then none else f j := by
  unfold va_up
  by_cases e : j = n - 1
  · rw [if_pos e, if_neg (by omega), if_neg (by omega)]
  · rw [if_neg e]
    by_cases q : j < i
    · rw [if_pos q]
    · rw [if_neg q, if_neg (by omega)]
theorem rm_1 {f : Nat → Option Nat} {i n : Nat} (h : i < n - 1) (j : Nat) : va_up (va_cpy f f (i + 1) i (n - 1 - i)) (n - 1) none j = if j < i then f j else if j < n - 1 then f (j + 1) else if j = n - 1 then none else f j := by
  unfold va_up
  by_cases e : j = n - 1
  · rw [if_pos e, if_neg (by omega), if_neg (by omega), if_pos e]
  · rw [if_neg e]
    by_cases q : j < i
    · rw [if_pos q, pk_cpy_out (Or.inl q)]
    · rw [if_neg q]
      by_cases q2 : j < n - 1
      · rw [if_pos q2, pk_cpy_in (by omega) (by omega)]
        congr 1
        omega
      · rw [if_neg q2, if_neg e, pk_cpy_out (Or.inr (by omega))]
abbrev rmJx4a65c_fastRemove_b59b0 : Room := { frames := 1, cells := 0, slots := 0, locals := 26 }
set_option maxRecDepth 100000 in
set_option maxHeartbeats 4000000 in
theorem kJx4a65c_fastRemove_b59b0 (l : Launch) (Dd : va_G) (Y : yT) (b ae cap n i : Nat) (mo : Int32) (f : Nat → Option Nat) (ex : va_W) (hi : i < n) (hn : n ≤ cap) (hc : cap ≤ 1000) (hel : ∀ i : Nat, i < n → ∀ y : Nat, f i = some y → inx ex y) : MR l yJx4a65c_fastRemove_b59b0 wsJx4a65c_fastRemove_b59b0 rmJx4a65c_fastRemove_b59b0 Dd Y [.ref b, .ref ae, .int (nI i)] ([(b, .inr (11, [.int mo, .ref ae, .int (nI n)])), (ae, .inl (Y.2.1 2, cap, .inr (.inr (.inr (.inr f)))))] ++ ex) (fun rv w => ∃ f' : Nat → Option Nat, (∀ j : Nat, f' j = if j < i then f j else if j < n - 1 then f (j + 1) else if j = n - 1 then none else f j) ∧ rv = none ∧ w = [(b, .inr (11, [.int (mo + 1), .ref ae, .int (nI (n - 1))])), (ae, .inl (Y.2.1 2, cap, .inr (.inr (.inr (.inr f')))))] ++ ex) 0 0 := by
  refine MRk (cc := cJx4a65c_fastRemove_b59b0) (maxL := 4) (ret := none) (by decide) rfl (Nat.le_of_ble_eq_true rfl) (fun {p₀ e₀ s m args below meth c₀ A} ls Q X hin hW hl hI hV hA => ?_)
  have hx := X.x
  have hb := X.b
  have hl : lv_has ls 4 [(0, .ref b), (1, .ref ae), (2, .int (nI i))] := hl
  have hinJx4a65c : ∀ w ∈ wsJx4a65c0, w ∈ wsJx4a65c_fastRemove_b59b0 := fun w h => List.mem_cons_of_mem _ (List.mem_append_right _ h)
  refine lv_aload_n hx hb dJx4a65c_fastRemove_b59b0_0 rfl (lv_at hl 0 rfl) ?_
  refine lv_dup hx hb dJx4a65c_fastRemove_b59b0_1 rfl ?_
  refine gS_ X hinJx4a65c hW 0 rfl rfl 0 (by decide) 1 2 rfl rfl rfl dJx4a65c_fastRemove_b59b0_2 ?_
  refine lv_iconst (v := 1) hx hb dJx4a65c_fastRemove_b59b0_5 (by decide) ?_
  refine lv_iadd hx hb dJx4a65c_fastRemove_b59b0_6 ?_
  refine pS_ (ty := .int) X hinJx4a65c tyJx4a65c tyJx4a65c_ok nmJx4a65c hW 0 rfl rfl 0 (by decide) 1 2 rfl rfl rfl (by decide +kernel) rfl rfl (Nat.le_of_ble_eq_true rfl) dJx4a65c_fastRemove_b59b0_7 (ws' := [(b, .inr (11, [.int (mo + 1), .ref ae, .int (nI n)])), (ae, .inl (Y.2.1 2, cap, .inr (.inr (.inr (.inr f)))))] ++ ex) rfl (fun H locs hW => ?_)
  refine lv_aload_n hx hb dJx4a65c_fastRemove_b59b0_10 rfl (lv_at hl 0 rfl) ?_
  refine g_ X hinJx4a65c hW 0 rfl rfl 2 (by decide) 3 rfl rfl rfl dJx4a65c_fastRemove_b59b0_11 ?_
  refine lv_iconst (v := 1) hx hb dJx4a65c_fastRemove_b59b0_14 (by decide) ?_
  refine lv_isub hx hb dJx4a65c_fastRemove_b59b0_15 ?_
  rw [show nI n - 1 = nI (n - 1) from pk_sub (b := 1) (by omega)]
  refine lv_dup hx hb dJx4a65c_fastRemove_b59b0_16 rfl ?_
  refine lv_istore_n (lv' := [(3, .int (nI (n - 1))), (0, .ref b), (1, .ref ae), (2, .int (nI i))]) hx hb dJx4a65c_fastRemove_b59b0_17 rfl hl (by decide) rfl (fun ls hl => ?_)
  refine lv_iload_n hx hb dJx4a65c_fastRemove_b59b0_18 rfl (lv_at hl 3 rfl) ?_
  refine lv_icmp_le (tgt := 34) hx hb dJx4a65c_fastRemove_b59b0_19 (by decide) (fun cq => ?_) (fun cq => ?_)
  · have hni : n - 1 = i := by have := (nI_leN (by omega) (by omega)).mp cq; omega
    refine lv_aload_n hx hb dJx4a65c_fastRemove_b59b0_34 rfl (lv_at hl 2 rfl) ?_
    refine lv_aload_n hx hb dJx4a65c_fastRemove_b59b0_35 rfl (lv_at hl 1 rfl) ?_
    refine lv_iload_n hx hb dJx4a65c_fastRemove_b59b0_36 rfl (lv_at hl 0 rfl) ?_
    refine lv_dup_x1 hx hb dJx4a65c_fastRemove_b59b0_37 rfl rfl ?_
    refine p_ (ty := .int) X hinJx4a65c tyJx4a65c tyJx4a65c_ok nmJx4a65c hW 0 rfl rfl 2 (by decide) 3 rfl rfl rfl (by decide +kernel) rfl rfl (Nat.le_of_ble_eq_true rfl) dJx4a65c_fastRemove_b59b0_38 (ws' := [(b, .inr (11, [.int (mo + 1), .ref ae, .int (nI (n - 1))])), (ae, .inl (Y.2.1 2, cap, .inr (.inr (.inr (.inr f)))))] ++ ex) rfl (fun H locs hW => ?_)
    refine lv_null hx hb dJx4a65c_fastRemove_b59b0_41 ?_
    refine asqN_ X hW 1 rfl (vp_in_nI (by omega) (by omega)) dJx4a65c_fastRemove_b59b0_42 (ws' := [(b, .inr (11, [.int (mo + 1), .ref ae, .int (nI (n - 1))])), (ae, .inl (Y.2.1 2, cap, .inr (.inr (.inr (.inr (va_up f (n - 1) none))))))] ++ ex) (by rw [nI_clamp (by omega)]; rfl) (fun H locs hW => ?_)
    exact hV _ _ _ _ _ _ _ ⟨_, (fun j => rm_0 hni j), rfl, rfl⟩ rfl (Nat.le_of_ble_eq_true rfl) (Nat.le_of_ble_eq_true rfl) hW dJx4a65c_fastRemove_b59b0_43
  · have hni : i < n - 1 := Nat.lt_of_not_le (fun h => cq ((nI_leN (by omega) (by omega)).mpr h))
    refine lv_aload_n hx hb dJx4a65c_fastRemove_b59b0_22 rfl (lv_at hl 2 rfl) ?_
    refine lv_iload_n hx hb dJx4a65c_fastRemove_b59b0_23 rfl (lv_at hl 3 rfl) ?_
    refine lv_iconst (v := 1) hx hb dJx4a65c_fastRemove_b59b0_24 (by decide) ?_
    refine lv_iadd hx hb dJx4a65c_fastRemove_b59b0_25 ?_
    rw [nI_1]
    refine lv_aload_n hx hb dJx4a65c_fastRemove_b59b0_26 rfl (lv_at hl 2 rfl) ?_
    refine lv_iload_n hx hb dJx4a65c_fastRemove_b59b0_27 rfl (lv_at hl 3 rfl) ?_
    refine lv_iload_n hx hb dJx4a65c_fastRemove_b59b0_28 rfl (lv_at hl 0 rfl) ?_
    refine lv_iload_n hx hb dJx4a65c_fastRemove_b59b0_29 rfl (lv_at hl 3 rfl) ?_
    refine lv_isub hx hb dJx4a65c_fastRemove_b59b0_30 ?_
    rw [show nI (n - 1) - nI i = nI (n - 1 - i) from pk_sub (by omega)]
    refine cpq_ X hl.1 4 5 6 7 rfl rfl rfl rfl ⟨(Nat.le_of_ble_eq_true rfl), (Nat.le_of_ble_eq_true rfl)⟩ (Nat.le_of_ble_eq_true rfl) hW 1 1 rfl rfl (sp' := i + 1) (dp' := i) (n' := n - 1 - i) rfl rfl rfl (by omega) (by omega) (by omega) (by omega) (fun j hj y h => anyx_ (w := [(b, .inr (11, [.int (mo + 1), .ref ae, .int (nI n)])), (ae, .inl (Y.2.1 2, cap, .inr (.inr (.inr (.inr f)))))]) X hW (hel (i + 1 + j) (by omega) y h)) dJx4a65c_fastRemove_b59b0_31 (ws' := [(b, .inr (11, [.int (mo + 1), .ref ae, .int (nI n)])), (ae, .inl (Y.2.1 2, cap, .inr (.inr (.inr (.inr (va_cpy f f (i + 1) i (n - 1 - i)))))))] ++ ex) rfl (fun H locs hW => ?_)
    refine lv_aload_n hx hb dJx4a65c_fastRemove_b59b0_34 rfl (lv_at hl 2 rfl) ?_
    refine lv_aload_n hx hb dJx4a65c_fastRemove_b59b0_35 rfl (lv_at hl 1 rfl) ?_
    refine lv_iload_n hx hb dJx4a65c_fastRemove_b59b0_36 rfl (lv_at hl 0 rfl) ?_
    refine lv_dup_x1 hx hb dJx4a65c_fastRemove_b59b0_37 rfl rfl ?_
    refine p_ (ty := .int) X hinJx4a65c tyJx4a65c tyJx4a65c_ok nmJx4a65c hW 0 rfl rfl 2 (by decide) 3 rfl rfl rfl (by decide +kernel) rfl rfl (Nat.le_of_ble_eq_true rfl) dJx4a65c_fastRemove_b59b0_38 (ws' := [(b, .inr (11, [.int (mo + 1), .ref ae, .int (nI (n - 1))])), (ae, .inl (Y.2.1 2, cap, .inr (.inr (.inr (.inr (va_cpy f f (i + 1) i (n - 1 - i)))))))] ++ ex) rfl (fun H locs hW => ?_)
    refine lv_null hx hb dJx4a65c_fastRemove_b59b0_41 ?_
    refine asqN_ X hW 1 rfl (vp_in_nI (by omega) (by omega)) dJx4a65c_fastRemove_b59b0_42 (ws' := [(b, .inr (11, [.int (mo + 1), .ref ae, .int (nI (n - 1))])), (ae, .inl (Y.2.1 2, cap, .inr (.inr (.inr (.inr (va_up (va_cpy f f (i + 1) i (n - 1 - i)) (n - 1) none))))))] ++ ex) (by rw [nI_clamp (by omega)]; rfl) (fun H locs hW => ?_)
    exact hV _ _ _ _ _ _ _ ⟨_, (fun j => rm_1 hni j), rfl, rfl⟩ rfl (Nat.le_of_ble_eq_true rfl) (Nat.le_of_ble_eq_true rfl) hW dJx4a65c_fastRemove_b59b0_43
abbrev rmJx4a65c_remove_915e3 : Room := { frames := 2, cells := 0, slots := 0, locals := 49 }
set_option maxRecDepth 100000 in
set_option maxHeartbeats 4000000 in
theorem kJx4a65c_remove_915e3 (l : Launch) (Dd : va_G) (Y : yT) (b ae cap n i v : Nat) (mo : Int32) (f : Nat → Option Nat) (ex : va_W) (hi : i < n) (hn : n ≤ cap) (hc : cap ≤ 1000) (hel : ∀ i : Nat, i < n → ∀ y : Nat, f i = some y → inx ex y) (hv : f i = some v) : MR l yJx4a65c_remove_915e3 wsJx4a65c_remove_915e3 rmJx4a65c_remove_915e3 Dd Y [.ref b, .int (nI i)] ([(b, .inr (11, [.int mo, .ref ae, .int (nI n)])), (ae, .inl (Y.2.1 2, cap, .inr (.inr (.inr (.inr f)))))] ++ ex) (fun rv w => ∃ f' : Nat → Option Nat, (∀ j : Nat, f' j = if j < i then f j else if j < n - 1 then f (j + 1) else if j = n - 1 then none else f j) ∧ rv = some (.ref v) ∧ w = [(b, .inr (11, [.int (mo + 1), .ref ae, .int (nI (n - 1))])), (ae, .inl (Y.2.1 2, cap, .inr (.inr (.inr (.inr f')))))] ++ ex) 0 0 := by
  refine MRk (cc := cJx4a65c_remove_915e3) (maxL := 4) (ret := (some (.object "java/lang/Object"))) (by decide) rfl (Nat.le_of_ble_eq_true rfl) (fun {p₀ e₀ s m args below meth c₀ A} ls Q X hin hW hl hI hV hA => ?_)
  have hx := X.x
  have hb := X.b
  have hl : lv_has ls 4 [(0, .ref b), (1, .int (nI i))] := hl
  have hinJx4a65c : ∀ w ∈ wsJx4a65c0, w ∈ wsJx4a65c_remove_915e3 := fun w h => List.mem_cons_of_mem _ (List.mem_append_right _ h)
  refine lv_iload_n hx hb dJx4a65c_remove_915e3_0 rfl (lv_at hl 1 rfl) ?_
  refine lv_aload_n hx hb dJx4a65c_remove_915e3_1 rfl (lv_at hl 0 rfl) ?_
  refine g_ X hinJx4a65c hW 0 rfl rfl 2 (by decide) 1 rfl rfl rfl dJx4a65c_remove_915e3_2 ?_
  refine rS_ (As := [.int (nI i), .int (nI n)]) (rest := []) (wc := []) (w9 := [(b, .inr (11, [.int mo, .ref ae, .int (nI n)])), (ae, .inl (Y.2.1 2, cap, .inr (.inr (.inr (.inr f)))))] ++ ex) X (kJ15_checkIndex_7cf53 l Dd Y (nI i) (nI n) (nI_pos (by omega)) (nI_lt hi (by omega))) (va_cwS 2 X.1.2.2.2.2 gJx4a65c_remove_915e3_J15_checkIndex_7cf53 rfl rfl rfl (by decide +kernel) ⟨(Nat.le_of_ble_eq_true rfl), (Nat.le_of_ble_eq_true rfl)⟩) hW (List.Perm.refl _) rfl hl.1 rfl (Nat.le_of_ble_eq_true rfl) dJx4a65c_remove_915e3_5 ⟨(Nat.le_of_ble_eq_true rfl), (Nat.le_of_ble_eq_true rfl)⟩ (fun rv wq H locs hp hW => ?_)
  obtain ⟨rfl, rfl⟩ := hp
  have hW : Wd Dd A s.heap ([(b, .inr (11, [.int mo, .ref ae, .int (nI n)])), (ae, .inl (Y.2.1 2, cap, .inr (.inr (.inr (.inr f)))))] ++ ex) H locs := hW
  refine W.eq (g2 := F0 m 8 ls [.int (nI i)]) rfl ?_
  refine lv_pop hx hb dJx4a65c_remove_915e3_8 rfl ?_
  refine lv_aload_n hx hb dJx4a65c_remove_915e3_9 rfl (lv_at hl 0 rfl) ?_
  refine g_ X hinJx4a65c hW 0 rfl rfl 1 (by decide) 2 rfl rfl rfl dJx4a65c_remove_915e3_10 ?_
  refine lv_astore_n (lv' := [(2, .ref ae), (0, .ref b), (1, .int (nI i))]) hx hb dJx4a65c_remove_915e3_13 rfl hl (by decide) rfl (fun ls hl => ?_)
  refine lv_aload_n hx hb dJx4a65c_remove_915e3_14 rfl (lv_at hl 0 rfl) ?_
  refine lv_iload_n hx hb dJx4a65c_remove_915e3_15 rfl (lv_at hl 2 rfl) ?_
  refine alq_ X hW 1 4 rfl rfl (vp_in_nI (by omega) (by omega)) dJx4a65c_remove_915e3_16 ?_
  rw [nI_clamp (by omega), hv]
  refine W.eq (g2 := F0 m 17 ls [.ref v]) rfl ?_
  refine lv_astore_n (lv' := [(3, .ref v), (2, .ref ae), (0, .ref b), (1, .int (nI i))]) hx hb dJx4a65c_remove_915e3_17 rfl hl (by decide) rfl (fun ls hl => ?_)
  refine lv_aload_n hx hb dJx4a65c_remove_915e3_18 rfl (lv_at hl 2 rfl) ?_
  refine lv_aload_n hx hb dJx4a65c_remove_915e3_19 rfl (lv_at hl 1 rfl) ?_
  refine lv_iload_n hx hb dJx4a65c_remove_915e3_20 rfl (lv_at hl 3 rfl) ?_
  refine rV_ (As := [.ref ae, .int (nI i)]) (rest := []) (wc := [(b, .inr (11, [.int mo, .ref ae, .int (nI n)])), (ae, .inl (Y.2.1 2, cap, .inr (.inr (.inr (.inr f)))))] ++ ex) (w9 := []) X (kJx4a65c_fastRemove_b59b0 l Dd Y b ae cap n i mo f ex hi hn hc hel) (cwV 2 X.1.2.2.2.2 gJx4a65c_remove_915e3_Jx4a65c_fastRemove_b59b0 rfl rfl rfl (by decide +kernel) ⟨(Nat.le_of_ble_eq_true rfl), (Nat.le_of_ble_eq_true rfl)⟩) hW (pmq3 _ _ _) 0 11 rfl rfl rfl rfl hl.1 rfl (Nat.le_of_ble_eq_true rfl) dJx4a65c_remove_915e3_21 ⟨(Nat.le_of_ble_eq_true rfl), (Nat.le_of_ble_eq_true rfl)⟩ (fun rv wq H locs hp hW => ?_)
  obtain ⟨f', hf', rfl, rfl⟩ := hp
  have hW : Wd Dd A s.heap ([(b, .inr (11, [.int (mo + 1), .ref ae, .int (nI (n - 1))])), (ae, .inl (Y.2.1 2, cap, .inr (.inr (.inr (.inr f')))))] ++ ex) H locs := by rw [List.append_nil] at hW; exact hW
  refine W.eq (g2 := F0 m 24 ls []) rfl ?_
  refine lv_aload_n hx hb dJx4a65c_remove_915e3_24 rfl (lv_at hl 0 rfl) ?_
  exact hA _ _ _ _ _ _ (some v) _ _ ⟨f', hf', rfl, rfl⟩ rfl (Or.inl ⟨_, rfl⟩) (Nat.le_of_ble_eq_true rfl) (Nat.le_of_ble_eq_true rfl) hW dJx4a65c_remove_915e3_25
theorem xs_rem {xs : List Nat} {i : Nat} (hi : i < xs.length) (j : Nat) : (if j < i then xs[j]? else if j < xs.length - 1 then xs[j + 1]? else if j = xs.length - 1 then none else xs[j]?) = (xs.eraseIdx i)[j]? := by
  rw [List.getElem?_eraseIdx]
  by_cases q : j < i
  · rw [if_pos q, if_pos q]
  · rw [if_neg q, if_neg q]
    by_cases q2 : j < xs.length - 1
    · rw [if_pos q2]
    · rw [if_neg q2, List.getElem?_eq_none (show xs.length ≤ j + 1 by omega)]
      by_cases e : j = xs.length - 1
      · rw [if_pos e]
      · rw [if_neg e, List.getElem?_eq_none (by omega)]
theorem kRem (l : Launch) (Dd : va_G) (Y : yT) (b ae cap i v : Nat) (mo : Int32) (xs : List Nat) (ex : va_W) (h : okL Y ae cap xs) (hx : ∀ y ∈ xs, inx ex y) (hi : i < xs.length) (hv : xs[i]? = some v) : MR l yJx4a65c_remove_915e3 wsJx4a65c_remove_915e3 rmJx4a65c_remove_915e3 Dd Y [.ref b, .int (nI i)] (WLs Y b mo ae cap xs ++ ex) (fun rv w => rv = some (.ref v) ∧ ∃ mo' : Int32, w = WLs Y b mo' ae cap (xs.eraseIdx i) ++ ex) 0 0 := by
  obtain ⟨g1, g2, g3⟩ := h
  have h0 : 0 < cap := by omega
  have hlen : (xs.eraseIdx i).length = xs.length - 1 := List.length_eraseIdx_of_lt hi
  rw [WLs_s _ _ _ h0]
  refine (kJx4a65c_remove_915e3 l Dd Y b ae cap xs.length i v mo (fun k => xs[k]?) ex hi g2 (by omega) (fun i hi y hy => hx y (List.mem_of_getElem? hy)) hv).to (fun rv w hp => ?_)
  obtain ⟨f', hf', rfl, rfl⟩ := hp
  refine ⟨WLs Y b (mo + 1) ae cap (xs.eraseIdx i) ++ ex, ⟨rfl, mo + 1, rfl⟩, fun H hP => ?_, by rw [WLs_s _ _ _ h0]; rfl⟩
  rw [WLs_s _ _ _ h0, hlen]
  exact sw_P (pre := [(b, .inr (11, [.int (mo + 1), .ref ae, .int (nI (xs.length - 1))]))]) (post := ex) (rf_cg (fun j hj => (hf' j).trans (xs_rem hi j))) hP
theorem clr_u {f g : Nat → Option Nat} {k : Nat} (hg : ∀ j : Nat, g j = if j < k then none else f j) (j : Nat) : va_up g k none j = if j < k + 1 then none else f j := by
  unfold va_up
  by_cases e : j = k
  · rw [if_pos e, if_pos (by omega)]
  · rw [if_neg e, hg j]
    by_cases q : j < k
    · rw [if_pos q, if_pos (by omega)]
    · rw [if_neg q, if_neg (by omega)]
abbrev rmJx4a65c_clear_da8c8 : Room := { frames := 0, cells := 0, slots := 0, locals := 0 }
set_option maxRecDepth 100000 in
set_option maxHeartbeats 4000000 in
theorem kJx4a65c_clear_da8c8 (l : Launch) (Dd : va_G) (Y : yT) (b : Nat) (ae : Nat) (mo : Int32) : MR l yJx4a65c_clear_da8c8 wsJx4a65c_clear_da8c8 rmJx4a65c_clear_da8c8 Dd Y [.ref b] ([(b, .inr (11, [.int mo, .ref ae, .int 0]))]) (fun rv w => rv = none ∧ w = [(b, .inr (11, [.int (mo + 1), .ref ae, .int 0]))]) 0 0 := by
  refine MRk (cc := cJx4a65c_clear_da8c8) (maxL := 4) (ret := none) (by decide) rfl (Nat.le_of_ble_eq_true rfl) (fun {p₀ e₀ s m args below meth c₀ A} ls Q X hin hW hl hI hV hA => ?_)
  have hx := X.x
  have hb := X.b
  have hl : lv_has ls 4 [(0, .ref b)] := hl
  have hinJx4a65c : ∀ w ∈ wsJx4a65c0, w ∈ wsJx4a65c_clear_da8c8 := fun w h => List.mem_cons_of_mem _ (List.mem_append_right _ h)
  refine lv_aload_n hx hb dJx4a65c_clear_da8c8_0 rfl (lv_at hl 0 rfl) ?_
  refine lv_dup hx hb dJx4a65c_clear_da8c8_1 rfl ?_
  refine gS_ X hinJx4a65c hW 0 rfl rfl 0 (by decide) 1 2 rfl rfl rfl dJx4a65c_clear_da8c8_2 ?_
  refine lv_iconst (v := 1) hx hb dJx4a65c_clear_da8c8_5 (by decide) ?_
  refine lv_iadd hx hb dJx4a65c_clear_da8c8_6 ?_
  refine pS_ (ty := .int) X hinJx4a65c tyJx4a65c tyJx4a65c_ok nmJx4a65c hW 0 rfl rfl 0 (by decide) 1 2 rfl rfl rfl (by decide +kernel) rfl rfl (Nat.le_of_ble_eq_true rfl) dJx4a65c_clear_da8c8_7 (ws' := [(b, .inr (11, [.int (mo + 1), .ref ae, .int 0]))]) rfl (fun H locs hW => ?_)
  refine lv_aload_n hx hb dJx4a65c_clear_da8c8_10 rfl (lv_at hl 0 rfl) ?_
  refine g_ X hinJx4a65c hW 0 rfl rfl 1 (by decide) 3 rfl rfl rfl dJx4a65c_clear_da8c8_11 ?_
  refine lv_astore_n (lv' := [(1, .ref ae), (0, .ref b)]) hx hb dJx4a65c_clear_da8c8_14 rfl hl (by decide) rfl (fun ls hl => ?_)
  refine lv_aload_n hx hb dJx4a65c_clear_da8c8_15 rfl (lv_at hl 1 rfl) ?_
  refine g_ X hinJx4a65c hW 0 rfl rfl 2 (by decide) 4 rfl rfl rfl dJx4a65c_clear_da8c8_16 ?_
  refine lv_istore_n (lv' := [(2, .int 0), (1, .ref ae), (0, .ref b)]) hx hb dJx4a65c_clear_da8c8_19 rfl hl (by decide) rfl (fun ls hl => ?_)
  refine lv_aload_n hx hb dJx4a65c_clear_da8c8_20 rfl (lv_at hl 2 rfl) ?_
  refine lv_iconst (v := 0) hx hb dJx4a65c_clear_da8c8_21 (by decide) ?_
  refine lv_dup_x1 hx hb dJx4a65c_clear_da8c8_22 rfl rfl ?_
  refine p_ (ty := .int) X hinJx4a65c tyJx4a65c tyJx4a65c_ok nmJx4a65c hW 0 rfl rfl 2 (by decide) 4 rfl rfl rfl (by decide +kernel) rfl rfl (Nat.le_of_ble_eq_true rfl) dJx4a65c_clear_da8c8_23 (ws' := [(b, .inr (11, [.int (mo + 1), .ref ae, .int 0]))]) rfl (fun H locs hW => ?_)
  refine lv_istore_n (lv' := [(3, .int 0), (2, .int 0), (1, .ref ae), (0, .ref b)]) hx hb dJx4a65c_clear_da8c8_26 rfl hl (by decide) rfl (fun ls hl => ?_)
  refine lv_iload_n hx hb dJx4a65c_clear_da8c8_27 rfl (lv_at hl 0 rfl) ?_
  refine lv_iload_n hx hb dJx4a65c_clear_da8c8_28 rfl (lv_at hl 1 rfl) ?_
  refine lv_icmp_ge (tgt := 42) hx hb dJx4a65c_clear_da8c8_29 (by decide) (fun _ => ?_) (fun h => absurd (Int32.le_refl 0) h)
  exact hV _ _ _ _ _ _ _ ⟨rfl, rfl⟩ rfl (Nat.le_of_ble_eq_true rfl) (Nat.le_of_ble_eq_true rfl) hW dJx4a65c_clear_da8c8_42
set_option maxRecDepth 100000 in
set_option maxHeartbeats 4000000 in
theorem kClrF (l : Launch) (Dd : va_G) (Y : yT) (b ae cap n : Nat) (mo : Int32) (f : Nat → Option Nat) (hn : n ≤ cap) (hc : cap ≤ 1000) : MR l yJx4a65c_clear_da8c8 wsJx4a65c_clear_da8c8 rmJx4a65c_clear_da8c8 Dd Y [.ref b] ([(b, .inr (11, [.int mo, .ref ae, .int (nI n)])), (ae, .inl (Y.2.1 2, cap, .inr (.inr (.inr (.inr f)))))]) (fun rv w => ∃ g : Nat → Option Nat, (∀ j : Nat, g j = if j < n then none else f j) ∧ rv = none ∧ w = [(b, .inr (11, [.int (mo + 1), .ref ae, .int 0])), (ae, .inl (Y.2.1 2, cap, .inr (.inr (.inr (.inr g)))))]) 0 0 := by
  refine MRk (cc := cJx4a65c_clear_da8c8) (maxL := 4) (ret := none) (by decide) rfl (Nat.le_of_ble_eq_true rfl) (fun {p₀ e₀ s m args below meth c₀ A} ls Q X hin hW hl hI hV hA => ?_)
  have hx := X.x
  have hb := X.b
  have hl : lv_has ls 4 [(0, .ref b)] := hl
  have hinJx4a65c : ∀ w ∈ wsJx4a65c0, w ∈ wsJx4a65c_clear_da8c8 := fun w h => List.mem_cons_of_mem _ (List.mem_append_right _ h)
  refine lv_aload_n hx hb dJx4a65c_clear_da8c8_0 rfl (lv_at hl 0 rfl) ?_
  refine lv_dup hx hb dJx4a65c_clear_da8c8_1 rfl ?_
  refine gS_ X hinJx4a65c hW 0 rfl rfl 0 (by decide) 1 2 rfl rfl rfl dJx4a65c_clear_da8c8_2 ?_
  refine lv_iconst (v := 1) hx hb dJx4a65c_clear_da8c8_5 (by decide) ?_
  refine lv_iadd hx hb dJx4a65c_clear_da8c8_6 ?_
  refine pS_ (ty := .int) X hinJx4a65c tyJx4a65c tyJx4a65c_ok nmJx4a65c hW 0 rfl rfl 0 (by decide) 1 2 rfl rfl rfl (by decide +kernel) rfl rfl (Nat.le_of_ble_eq_true rfl) dJx4a65c_clear_da8c8_7 (ws' := [(b, .inr (11, [.int (mo + 1), .ref ae, .int (nI n)])), (ae, .inl (Y.2.1 2, cap, .inr (.inr (.inr (.inr f)))))]) rfl (fun H locs hW => ?_)
  refine lv_aload_n hx hb dJx4a65c_clear_da8c8_10 rfl (lv_at hl 0 rfl) ?_
  refine g_ X hinJx4a65c hW 0 rfl rfl 1 (by decide) 3 rfl rfl rfl dJx4a65c_clear_da8c8_11 ?_
  refine lv_astore_n (lv' := [(1, .ref ae), (0, .ref b)]) hx hb dJx4a65c_clear_da8c8_14 rfl hl (by decide) rfl (fun ls hl => ?_)
  refine lv_aload_n hx hb dJx4a65c_clear_da8c8_15 rfl (lv_at hl 1 rfl) ?_
  refine g_ X hinJx4a65c hW 0 rfl rfl 2 (by decide) 4 rfl rfl rfl dJx4a65c_clear_da8c8_16 ?_
  refine lv_istore_n (lv' := [(2, .int (nI n)), (1, .ref ae), (0, .ref b)]) hx hb dJx4a65c_clear_da8c8_19 rfl hl (by decide) rfl (fun ls hl => ?_)
  refine lv_aload_n hx hb dJx4a65c_clear_da8c8_20 rfl (lv_at hl 2 rfl) ?_
  refine lv_iconst (v := 0) hx hb dJx4a65c_clear_da8c8_21 (by decide) ?_
  refine lv_dup_x1 hx hb dJx4a65c_clear_da8c8_22 rfl rfl ?_
  refine p_ (ty := .int) X hinJx4a65c tyJx4a65c tyJx4a65c_ok nmJx4a65c hW 0 rfl rfl 2 (by decide) 4 rfl rfl rfl (by decide +kernel) rfl rfl (Nat.le_of_ble_eq_true rfl) dJx4a65c_clear_da8c8_23 (ws' := [(b, .inr (11, [.int (mo + 1), .ref ae, .int 0])), (ae, .inl (Y.2.1 2, cap, .inr (.inr (.inr (.inr f)))))]) rfl (fun H locs hW => ?_)
  refine lv_istore_n (lv' := [(3, .int 0), (2, .int (nI n)), (1, .ref ae), (0, .ref b)]) hx hb dJx4a65c_clear_da8c8_26 rfl hl (by decide) rfl (fun ls hl => ?_)
  have lp : ∀ (d : Nat) (k : Nat) (g : Nat → Option Nat) (H : Heap) (locs : List Loc) (ls : Array Slot), (hk : k ≤ n) → (hg : ∀ j : Nat, g j = if j < k then none else f j) → (n < d + k) → lv_has ls 4 [(3, .int (nI k)), (2, .int (nI n)), (1, .ref ae), (0, .ref b)] → Wd Dd A s.heap ([(b, .inr (11, [.int (mo + 1), .ref ae, .int 0])), (ae, .inl (Y.2.1 2, cap, .inr (.inr (.inr (.inr g)))))]) H locs → W p₀ l e₀ rmJx4a65c_clear_da8c8 s m args below meth c₀ H locs (0) (0) Q (F0 m 27 ls []) := by
    intro d
    induction d with
    | zero => intro k g H locs ls hk hg hfu; exact absurd hfu (by omega)
    | succ d ih =>
      intro k g H locs ls hk hg hfu hl hW
      refine lv_iload_n hx hb dJx4a65c_clear_da8c8_27 rfl (lv_at hl 0 rfl) ?_
      refine lv_iload_n hx hb dJx4a65c_clear_da8c8_28 rfl (lv_at hl 1 rfl) ?_
      refine lv_icmp_ge (tgt := 42) hx hb dJx4a65c_clear_da8c8_29 (by decide) (fun cq => ?_) (fun cq => ?_)
      · obtain rfl : n = k := by have := (nI_leN (by omega) (by omega)).mp cq; omega
        exact hV _ _ _ _ _ _ _ ⟨g, hg, rfl, rfl⟩ rfl (Nat.le_of_ble_eq_true rfl) (Nat.le_of_ble_eq_true rfl) hW dJx4a65c_clear_da8c8_42
      · have hkn : k < n := Nat.lt_of_not_le (fun h => cq ((nI_leN (by omega) (by omega)).mpr h))
        refine lv_aload_n hx hb dJx4a65c_clear_da8c8_32 rfl (lv_at hl 2 rfl) ?_
        refine lv_iload_n hx hb dJx4a65c_clear_da8c8_33 rfl (lv_at hl 0 rfl) ?_
        refine lv_null hx hb dJx4a65c_clear_da8c8_34 ?_
        refine asqN_ X hW 1 rfl (vp_in_nI (by omega) (by omega)) dJx4a65c_clear_da8c8_35 (ws' := [(b, .inr (11, [.int (mo + 1), .ref ae, .int 0])), (ae, .inl (Y.2.1 2, cap, .inr (.inr (.inr (.inr (va_up g k none))))))]) (by rw [nI_clamp (by omega)]; rfl) (fun H locs hW => ?_)
        refine lv_iinc (v := (nI k) + 1) (lv' := [(3, .int ((nI k) + 1)), (2, .int (nI n)), (1, .ref ae), (0, .ref b)]) hx hb dJx4a65c_clear_da8c8_36 hl (k := 0) rfl rfl (by decide) rfl (fun ls hl => ?_)
        rw [nI_1] at hl
        refine lv_goto (tgt := 27) hx hb dJx4a65c_clear_da8c8_39 (by decide) ?_
        exact ih (k + 1) (va_up g k none) _ _ _ (by omega) (fun j => clr_u hg j) (by omega) hl hW
  exact lp (n + 1) 0 f _ _ _ (Nat.zero_le _) (fun j => by rw [if_neg (Nat.not_lt_zero j)]) (by omega) hl hW
theorem kClr (l : Launch) (Dd : va_G) (Y : yT) (b ae cap : Nat) (mo : Int32) (xs : List Nat) (h : okL Y ae cap xs) : MR l yJx4a65c_clear_da8c8 wsJx4a65c_clear_da8c8 rmJx4a65c_clear_da8c8 Dd Y [.ref b] (WLs Y b mo ae cap xs) (fun rv w => rv = none ∧ ∃ mo' : Int32, okL Y ae cap [] ∧ w = WLs Y b mo' ae cap []) 0 0 := by
  obtain ⟨g1, g2, g3⟩ := h
  rcases Nat.eq_zero_or_pos cap with h0 | h0
  · subst h0
    obtain ⟨e, rfl⟩ := g1 rfl
    rw [WLs_0]
    refine (kJx4a65c_clear_da8c8 l Dd Y b ae mo).mono (fun rv w hp => ⟨hp.1, mo + 1, ⟨fun _ => ⟨e, rfl⟩, Nat.le_refl _, Nat.zero_le _⟩, ?_⟩)
    rw [WLs_0]; exact hp.2
  · rw [WLs_s _ _ _ h0]
    refine (kClrF l Dd Y b ae cap xs.length mo (fun k => xs[k]?) g2 (by omega)).to (fun rv w hp => ?_)
    obtain ⟨g, hg, rfl, rfl⟩ := hp
    refine ⟨WLs Y b (mo + 1) ae cap [], ⟨rfl, mo + 1, ⟨fun h => absurd h (by omega), Nat.zero_le _, g3⟩, rfl⟩, fun H hP => ?_, by rw [WLs_s _ _ _ h0]; rfl⟩
    rw [WLs_s _ _ _ h0]
    have := sw_P (pre := [(b, .inr (11, [.int (mo + 1), .ref ae, .int 0]))]) (post := []) (x' := (cap, .inr (.inr (.inr (.inr (fun k => ([] : List Nat)[k]?)))))) (rf_cg (fun j hj => by
      rw [hg j]
      by_cases q : j < xs.length
      · rw [if_pos q]; rfl
      · rw [if_neg q]
        show xs[j]? = none
        exact List.getElem?_eq_none (by omega))) hP
    exact this
