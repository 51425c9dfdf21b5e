theorem pmq1 {α : Type} (c0 c1 c2 : α) (t : List α) : (([c0, c1] ++ (c2 :: t)) ++ [] : List α).Perm ([c2, c1, c0] ++ t) := pmA _ _ (fun x => by simp only [List.count_append, List.count_cons, List.count_nil]; omega)
theorem pmq2 {α : Type} (c0 c1 c2 : α) (t : List α) : ([c0, c1, c2] ++ t : List α).Perm (([c0, c1] ++ t) ++ [c2]) := pmA _ _ (fun x => by simp only [List.count_append, List.count_cons, List.count_nil]; omega)
theorem pmq3 {α : Type} (c0 c1 : α) (t : List α) : ([c0, c1] ++ t : List α).Perm (([c0, c1] ++ t) ++ ([])) := pmA _ _ (fun x => by simp only [List.count_append, List.count_cons, List.count_nil]; omega)
theorem inx_cons {ex : va_W} {c : Addr × va_E} {y : Nat} (h : inx ex y) : inx (c :: ex) y := by
  obtain ⟨k, ci, fs, r, h1, h2, h3⟩ := h
  exact ⟨k + 1, ci, fs, r, h1, h2, h3⟩
abbrev rmJx4a65c_grow_92f84 : Room := { frames := 3, cells := 1, slots := 1000, locals := 70 }
set_option maxRecDepth 100000 in
set_option maxHeartbeats 4000000 in
theorem kJx4a65c_grow_92f84 (l : Launch) (Dd : va_G) (Y : yT) (b : Nat) (mo : Int32) : MR l yJx4a65c_grow_92f84 wsJx4a65c_grow_92f84 rmJx4a65c_grow_92f84 Dd Y [.ref b, .int (nI 1)] ([(b, .inr (11, [.int mo, .ref (Y.2.2.2.1 100), .int 0]))]) (fun rv w => ∃ q : Nat, rv = some (.ref q) ∧ w = [(b, .inr (11, [.int mo, .ref q, .int 0])), (q, .inl (Y.2.1 2, 10, .inr (.inr (.inr (.inr (fun _ => none))))))]) 1 1000 := by
  refine MRk (cc := cJx4a65c_grow_92f84) (maxL := 4) (ret := (some (.array (.object "java/lang/Object")))) (by decide) rfl (Nat.le_of_ble_eq_true rfl) (fun {p₀ e₀ s m args below meth c₀ A} ls Q X hin hW hl hI hV hA => ?_)
  have hx := X.x
  have hb := X.b
  have hl : lv_has ls 4 [(0, .ref b), (1, .int (nI 1))] := hl
  have hinJx4a65c : ∀ w ∈ wsJx4a65c0, w ∈ wsJx4a65c_grow_92f84 := fun w h => List.mem_cons_of_mem _ (List.mem_append_right _ h)
  refine lv_aload_n hx hb dJx4a65c_grow_92f84_0 rfl (lv_at hl 0 rfl) ?_
  refine g_ X hinJx4a65c hW 0 rfl rfl 1 (by decide) 1 rfl rfl rfl dJx4a65c_grow_92f84_1 ?_
  refine va_tlen (v := 0) hx hb X.2.2.2.2.2.2.2.2.2.2.1 hW.2.2 rfl dJx4a65c_grow_92f84_4 ?_
  refine lv_istore_n (lv' := [(2, .int 0), (0, .ref b), (1, .int (nI 1))]) hx hb dJx4a65c_grow_92f84_5 rfl hl (by decide) rfl (fun ls hl => ?_)
  refine lv_iload_n hx hb dJx4a65c_grow_92f84_6 rfl (lv_at hl 0 rfl) ?_
  refine lv_if_gt (tgt := 20) hx hb dJx4a65c_grow_92f84_7 (by decide) (fun h => absurd h (by decide)) (fun _ => ?_)
  refine lv_aload_n hx hb dJx4a65c_grow_92f84_10 rfl (lv_at hl 1 rfl) ?_
  refine g_ X hinJx4a65c hW 0 rfl rfl 1 (by decide) 1 rfl rfl rfl dJx4a65c_grow_92f84_11 ?_
  refine gz_ X hW X.2.2.2.2.2.2.2.2.2.1 2 rfl dJx4a65c_grow_92f84_14 ?_
  refine lv_acmp_eq (rx := some (Y.2.2.2.1 100)) (ry := some (Y.2.2.2.1 100)) (tgt := 45) hx hb dJx4a65c_grow_92f84_17 (by decide) (fun _ => ?_) (fun h => absurd rfl h)
  refine lv_aload_n hx hb dJx4a65c_grow_92f84_45 rfl (lv_at hl 1 rfl) ?_
  refine lv_bipush (v := 10) hx hb dJx4a65c_grow_92f84_46 (by decide) ?_
  refine lv_iload_n hx hb dJx4a65c_grow_92f84_48 rfl (lv_at hl 2 rfl) ?_
  refine max_ X hl.1 3 4 5 6 rfl rfl rfl rfl ⟨(Nat.le_of_ble_eq_true rfl), (Nat.le_of_ble_eq_true rfl)⟩ (Nat.le_of_ble_eq_true rfl) ⟨(Nat.le_of_ble_eq_true rfl), (Nat.le_of_ble_eq_true rfl)⟩ dJx4a65c_grow_92f84_49 ?_
  rw [show (if (10 : Int32) < nI 1 then nI 1 else 10) = 10 from by decide]
  refine nq_ (N' := 10) X 7 rfl hW (by decide) (by decide) (by omega) (Nat.le_of_ble_eq_true rfl) (Nat.le_of_ble_eq_true rfl) dJx4a65c_grow_92f84_52 (fun q H hW => ?_)
  have hW : Wd Dd A s.heap ([(b, .inr (11, [.int mo, .ref (Y.2.2.2.1 100), .int 0])), (q, .inl (Y.2.1 2, 10, .inr (.inr (.inr (.inr (fun _ => none))))))]) _ _ := hW
  refine lv_dup_x1 hx hb dJx4a65c_grow_92f84_55 rfl rfl ?_
  refine p_ (ty := (.array (.object "java/lang/Object"))) X hinJx4a65c tyJx4a65c tyJx4a65c_ok nmJx4a65c hW 0 rfl rfl 1 (by decide) 1 rfl rfl rfl (by decide +kernel) rfl rfl (Nat.le_of_ble_eq_true rfl) dJx4a65c_grow_92f84_56 (ws' := [(b, .inr (11, [.int mo, .ref q, .int 0])), (q, .inl (Y.2.1 2, 10, .inr (.inr (.inr (.inr (fun _ => none))))))]) rfl (fun H locs hW => ?_)
  exact hA _ _ _ _ _ _ (some q) _ _ ⟨q, rfl, rfl⟩ rfl (Or.inr ⟨_, rfl⟩) (Nat.le_of_ble_eq_true rfl) (Nat.le_of_ble_eq_true rfl) hW dJx4a65c_grow_92f84_59
set_option maxRecDepth 100000 in
set_option maxHeartbeats 4000000 in
theorem kGrowF (l : Launch) (Dd : va_G) (Y : yT) (b ae cap : Nat) (mo n : Int32) (f : Nat → Option Nat) (ex : va_W) (h0 : 0 < cap) (hc : cap ≤ 600) (hel : ∀ i : Nat, i < cap → ∀ y : Nat, f i = some y → inx ex y) : MR l yJx4a65c_grow_92f84 wsJx4a65c_grow_92f84 rmJx4a65c_grow_92f84 Dd Y [.ref b, .int (nI (cap + 1))] ([(b, .inr (11, [.int mo, .ref ae, .int n])), (ae, .inl (Y.2.1 2, cap, .inr (.inr (.inr (.inr f)))))] ++ ex) (fun rv w => ∃ q : Nat, rv = some (.ref q) ∧ w = [(b, .inr (11, [.int mo, .ref q, .int n])), (q, .inl (Y.2.1 2, (cap + max 1 (cap / 2)), .inr (.inr (.inr (.inr (va_cpy f (fun _ => none) 0 0 cap))))))] ++ ex) 1 1000 := by
  refine MRk (cc := cJx4a65c_grow_92f84) (maxL := 4) (ret := (some (.array (.object "java/lang/Object")))) (by decide) rfl (Nat.le_of_ble_eq_true rfl) (fun {p₀ e₀ s m args below meth c₀ A} ls Q X hin hW hl hI hV hA => ?_)
  have hx := X.x
  have hb := X.b
  have hl : lv_has ls 4 [(0, .ref b), (1, .int (nI (cap + 1)))] := hl
  have hinJx4a65c : ∀ w ∈ wsJx4a65c0, w ∈ wsJx4a65c_grow_92f84 := fun w h => List.mem_cons_of_mem _ (List.mem_append_right _ h)
  refine lv_aload_n hx hb dJx4a65c_grow_92f84_0 rfl (lv_at hl 0 rfl) ?_
  refine g_ X hinJx4a65c hW 0 rfl rfl 1 (by decide) 1 rfl rfl rfl dJx4a65c_grow_92f84_1 ?_
  refine len_ (v := nI cap) X hW 1 4 rfl rfl rfl dJx4a65c_grow_92f84_4 ?_
  refine lv_istore_n (lv' := [(2, .int (nI cap)), (0, .ref b), (1, .int (nI (cap + 1)))]) hx hb dJx4a65c_grow_92f84_5 rfl hl (by decide) rfl (fun ls hl => ?_)
  refine lv_iload_n hx hb dJx4a65c_grow_92f84_6 rfl (lv_at hl 0 rfl) ?_
  refine lv_if_gt (tgt := 20) hx hb dJx4a65c_grow_92f84_7 (by decide) (fun _ => ?_) (fun h => absurd (show (0 : Int32) < nI cap from nI_lt (a := 0) h0 (by omega)) h)
  refine lv_iload_n hx hb dJx4a65c_grow_92f84_20 rfl (lv_at hl 0 rfl) ?_
  refine lv_iload_n hx hb dJx4a65c_grow_92f84_21 rfl (lv_at hl 2 rfl) ?_
  refine lv_iload_n hx hb dJx4a65c_grow_92f84_22 rfl (lv_at hl 0 rfl) ?_
  refine lv_isub hx hb dJx4a65c_grow_92f84_23 ?_
  rw [show nI (cap + 1) - nI cap = nI 1 from by rw [pk_sub (by omega), Nat.add_sub_cancel_left]]
  refine lv_iload_n hx hb dJx4a65c_grow_92f84_24 rfl (lv_at hl 0 rfl) ?_
  refine lv_iconst (v := 1) hx hb dJx4a65c_grow_92f84_25 (by decide) ?_
  refine lv_ishr hx hb dJx4a65c_grow_92f84_26 ?_
  rw [show nI cap >>> ((1 : Int32) &&& 31) = nI (cap / 2) from by have k := pk_shrN (n := cap) (by omega) ((1 : Int32) &&& 31) 1 (by decide); rw [Nat.pow_one] at k; exact k]
  refine rS_ (As := [.int (nI cap), .int (nI 1), .int (nI (cap / 2))]) (rest := []) (wc := []) (w9 := [(b, .inr (11, [.int mo, .ref ae, .int n])), (ae, .inl (Y.2.1 2, cap, .inr (.inr (.inr (.inr f)))))] ++ ex) X (kJ8_newLength_cabcc l Dd Y cap 1 (cap / 2) h0 (by omega) (by omega) (by omega)) (va_cwS 3 X.1.2.2.2.2 gJx4a65c_grow_92f84_J8_newLength_cabcc rfl rfl rfl (by decide +kernel) ⟨(Nat.le_of_ble_eq_true rfl), (Nat.le_of_ble_eq_true rfl)⟩) hW (List.Perm.refl _) rfl hl.1 rfl (Nat.le_of_ble_eq_true rfl) dJx4a65c_grow_92f84_27 ⟨(Nat.le_of_ble_eq_true rfl), (Nat.le_of_ble_eq_true rfl)⟩ (fun rv wq H locs hp hW => ?_)
  obtain ⟨rfl, rfl⟩ := hp
  have hW : Wd Dd A s.heap ([(b, .inr (11, [.int mo, .ref ae, .int n])), (ae, .inl (Y.2.1 2, cap, .inr (.inr (.inr (.inr f)))))] ++ ex) H locs := hW
  refine W.eq (g2 := F0 m 30 ls [.int (nI (cap + max 1 (cap / 2)))]) rfl ?_
  refine lv_istore_n (lv' := [(3, .int (nI (cap + max 1 (cap / 2)))), (2, .int (nI cap)), (0, .ref b), (1, .int (nI (cap + 1)))]) hx hb dJx4a65c_grow_92f84_30 rfl hl (by decide) rfl (fun ls hl => ?_)
  refine lv_aload_n hx hb dJx4a65c_grow_92f84_31 rfl (lv_at hl 2 rfl) ?_
  refine lv_aload_n hx hb dJx4a65c_grow_92f84_32 rfl (lv_at hl 2 rfl) ?_
  refine g_ X hinJx4a65c hW 0 rfl rfl 1 (by decide) 1 rfl rfl rfl dJx4a65c_grow_92f84_33 ?_
  refine lv_iload_n hx hb dJx4a65c_grow_92f84_36 rfl (lv_at hl 0 rfl) ?_
  have hW : Wd Dd A s.heap ([(ae, .inl (Y.2.1 2, cap, .inr (.inr (.inr (.inr f)))))] ++ ((b, .inr (11, [.int mo, .ref ae, .int n])) :: ex)) H locs := hW.permA (List.Perm.swap _ _ _)
  refine rS_ (As := [.ref ae, .int (nI (cap + max 1 (cap / 2)))]) (rest := [.ref b]) (wc := [(ae, .inl (Y.2.1 2, cap, .inr (.inr (.inr (.inr f)))))] ++ ((b, .inr (11, [.int mo, .ref ae, .int n])) :: ex)) (w9 := []) X (kJ7_copyOf_1904c l Dd Y ae cap (cap + max 1 (cap / 2)) f ((b, .inr (11, [.int mo, .ref ae, .int n])) :: ex) (by omega) (by omega) (fun i hi y h => inx_cons (hel i hi y h))) (va_cwS 2 X.1.2.2.2.2 gJx4a65c_grow_92f84_J7_copyOf_1904c rfl rfl rfl (by decide +kernel) ⟨(Nat.le_of_ble_eq_true rfl), (Nat.le_of_ble_eq_true rfl)⟩) hW (by rw [List.append_nil]) rfl hl.1 rfl (Nat.le_of_ble_eq_true rfl) dJx4a65c_grow_92f84_37 ⟨(Nat.le_of_ble_eq_true rfl), (Nat.le_of_ble_eq_true rfl)⟩ (fun rv w H locs hp hW => ?_)
  obtain ⟨q, rfl, rfl⟩ := hp
  have hW : Wd Dd A s.heap ([(b, .inr (11, [.int mo, .ref ae, .int n])), (q, .inl (Y.2.1 2, (cap + max 1 (cap / 2)), .inr (.inr (.inr (.inr (va_cpy f (fun _ => none) 0 0 cap)))))), (ae, .inl (Y.2.1 2, cap, .inr (.inr (.inr (.inr f)))))] ++ ex) H locs := hW.permA (pmq1 _ _ _ _)
  refine W.eq (g2 := F0 m 40 ls [.ref q, .ref b]) rfl ?_
  refine lv_dup_x1 hx hb dJx4a65c_grow_92f84_40 rfl rfl ?_
  refine p_ (ty := (.array (.object "java/lang/Object"))) X hinJx4a65c tyJx4a65c tyJx4a65c_ok nmJx4a65c hW 0 rfl rfl 1 (by decide) 1 rfl rfl rfl (by decide +kernel) rfl rfl (Nat.le_of_ble_eq_true rfl) dJx4a65c_grow_92f84_41 (ws' := [(b, .inr (11, [.int mo, .ref q, .int n])), (q, .inl (Y.2.1 2, (cap + max 1 (cap / 2)), .inr (.inr (.inr (.inr (va_cpy f (fun _ => none) 0 0 cap)))))), (ae, .inl (Y.2.1 2, cap, .inr (.inr (.inr (.inr f)))))] ++ ex) rfl (fun H locs hW => ?_)
  have hW : Wd Dd A s.heap (([(b, .inr (11, [.int mo, .ref q, .int n])), (q, .inl (Y.2.1 2, (cap + max 1 (cap / 2)), .inr (.inr (.inr (.inr (va_cpy f (fun _ => none) 0 0 cap))))))] ++ ex) ++ [(ae, .inl (Y.2.1 2, cap, .inr (.inr (.inr (.inr f)))))]) H locs := hW.permA (pmq2 _ _ _ _)
  exact hA _ _ _ _ _ _ (some q) _ _ ⟨q, rfl, rfl⟩ rfl (Or.inr ⟨_, rfl⟩) (Nat.le_of_ble_eq_true rfl) (Nat.le_of_ble_eq_true rfl) hW.drop dJx4a65c_grow_92f84_44
abbrev rmJx4a65c_grow_d5877 : Room := { frames := 4, cells := 1, slots := 1000, locals := 93 }
set_option maxRecDepth 100000 in
set_option maxHeartbeats 4000000 in
theorem kJx4a65c_grow_d5877 (l : Launch) (Dd : va_G) (Y : yT) (b : Nat) (mo : Int32) : MR l yJx4a65c_grow_d5877 wsJx4a65c_grow_d5877 rmJx4a65c_grow_d5877 Dd Y [.ref b] ([(b, .inr (11, [.int mo, .ref (Y.2.2.2.1 100), .int 0]))]) (fun rv w => ∃ q : Nat, rv = some (.ref q) ∧ w = [(b, .inr (11, [.int mo, .ref q, .int 0])), (q, .inl (Y.2.1 2, 10, .inr (.inr (.inr (.inr (fun _ => none))))))]) 1 1000 := by
  refine MRk (cc := cJx4a65c_grow_d5877) (maxL := 1) (ret := (some (.array (.object "java/lang/Object")))) (by decide) rfl (Nat.le_of_ble_eq_true rfl) (fun {p₀ e₀ s m args below meth c₀ A} ls Q X hin hW hl hI hV hA => ?_)
  have hx := X.x
  have hb := X.b
  have hl : lv_has ls 1 [(0, .ref b)] := hl
  have hinJx4a65c : ∀ w ∈ wsJx4a65c0, w ∈ wsJx4a65c_grow_d5877 := fun w h => List.mem_cons_of_mem _ (List.mem_append_right _ h)
  refine lv_aload_n hx hb dJx4a65c_grow_d5877_0 rfl (lv_at hl 0 rfl) ?_
  refine lv_aload_n hx hb dJx4a65c_grow_d5877_1 rfl (lv_at hl 0 rfl) ?_
  refine g_ X hinJx4a65c hW 0 rfl rfl 2 (by decide) 1 rfl rfl rfl dJx4a65c_grow_d5877_2 ?_
  refine lv_iconst (v := 1) hx hb dJx4a65c_grow_d5877_5 (by decide) ?_
  refine lv_iadd hx hb dJx4a65c_grow_d5877_6 ?_
  rw [show ((0 : Int32) + 1) = nI 1 from by decide]
  refine rV_ (As := [.int (nI 1)]) (rest := []) (wc := [(b, .inr (11, [.int mo, .ref (Y.2.2.2.1 100), .int 0]))]) (w9 := []) X (kJx4a65c_grow_92f84 l Dd Y b mo) (cwV 1 X.1.2.2.2.2 gJx4a65c_grow_d5877_Jx4a65c_grow_92f84 rfl rfl rfl (by decide +kernel) ⟨(Nat.le_of_ble_eq_true rfl), (Nat.le_of_ble_eq_true rfl)⟩) hW (List.Perm.refl _) 0 11 rfl rfl rfl rfl hl.1 rfl (Nat.le_of_ble_eq_true rfl) dJx4a65c_grow_d5877_7 ⟨(Nat.le_of_ble_eq_true rfl), (Nat.le_of_ble_eq_true rfl)⟩ (fun rv wq H locs hp hW => ?_)
  obtain ⟨q, rfl, rfl⟩ := hp
  have hW : Wd Dd A s.heap ([(b, .inr (11, [.int mo, .ref q, .int 0])), (q, .inl (Y.2.1 2, 10, .inr (.inr (.inr (.inr (fun _ => none))))))]) H locs := hW
  refine W.eq (g2 := F0 m 10 ls [.ref q]) rfl ?_
  exact hA _ _ _ _ _ _ (some q) _ _ ⟨q, rfl, rfl⟩ rfl (Or.inr ⟨_, rfl⟩) (Nat.le_of_ble_eq_true rfl) (Nat.le_of_ble_eq_true rfl) hW dJx4a65c_grow_d5877_10
set_option maxRecDepth 100000 in
set_option maxHeartbeats 4000000 in
theorem kGrow0F (l : Launch) (Dd : va_G) (Y : yT) (b ae cap : Nat) (mo : Int32) (f : Nat → Option Nat) (ex : va_W) (h0 : 0 < cap) (hc : cap ≤ 600) (hel : ∀ i : Nat, i < cap → ∀ y : Nat, f i = some y → inx ex y) : MR l yJx4a65c_grow_d5877 wsJx4a65c_grow_d5877 rmJx4a65c_grow_d5877 Dd Y [.ref b] ([(b, .inr (11, [.int mo, .ref ae, .int (nI cap)])), (ae, .inl (Y.2.1 2, cap, .inr (.inr (.inr (.inr f)))))] ++ ex) (fun rv w => ∃ q : Nat, rv = some (.ref q) ∧ w = [(b, .inr (11, [.int mo, .ref q, .int (nI cap)])), (q, .inl (Y.2.1 2, (cap + max 1 (cap / 2)), .inr (.inr (.inr (.inr (va_cpy f (fun _ => none) 0 0 cap))))))] ++ ex) 1 1000 := by
  refine MRk (cc := cJx4a65c_grow_d5877) (maxL := 1) (ret := (some (.array (.object "java/lang/Object")))) (by decide) rfl (Nat.le_of_ble_eq_true rfl) (fun {p₀ e₀ s m args below meth c₀ A} ls Q X hin hW hl hI hV hA => ?_)
  have hx := X.x
  have hb := X.b
  have hl : lv_has ls 1 [(0, .ref b)] := hl
  have hinJx4a65c : ∀ w ∈ wsJx4a65c0, w ∈ wsJx4a65c_grow_d5877 := fun w h => List.mem_cons_of_mem _ (List.mem_append_right _ h)
  refine lv_aload_n hx hb dJx4a65c_grow_d5877_0 rfl (lv_at hl 0 rfl) ?_
  refine lv_aload_n hx hb dJx4a65c_grow_d5877_1 rfl (lv_at hl 0 rfl) ?_
  refine g_ X hinJx4a65c hW 0 rfl rfl 2 (by decide) 1 rfl rfl rfl dJx4a65c_grow_d5877_2 ?_
  refine lv_iconst (v := 1) hx hb dJx4a65c_grow_d5877_5 (by decide) ?_
  refine lv_iadd hx hb dJx4a65c_grow_d5877_6 ?_
  rw [nI_1]
  refine rV_ (As := [.int (nI (cap + 1))]) (rest := []) (wc := [(b, .inr (11, [.int mo, .ref ae, .int (nI cap)])), (ae, .inl (Y.2.1 2, cap, .inr (.inr (.inr (.inr f)))))] ++ ex) (w9 := []) X (kGrowF l Dd Y b ae cap mo (nI cap) f ex h0 hc hel) (cwV 1 X.1.2.2.2.2 gJx4a65c_grow_d5877_Jx4a65c_grow_92f84 rfl rfl rfl (by decide +kernel) ⟨(Nat.le_of_ble_eq_true rfl), (Nat.le_of_ble_eq_true rfl)⟩) hW (pmq3 _ _ _) 0 11 rfl rfl rfl rfl hl.1 rfl (Nat.le_of_ble_eq_true rfl) dJx4a65c_grow_d5877_7 ⟨(Nat.le_of_ble_eq_true rfl), (Nat.le_of_ble_eq_true rfl)⟩ (fun rv wq H locs hp hW => ?_)
  obtain ⟨q, rfl, rfl⟩ := hp
  have hW : Wd Dd A s.heap ([(b, .inr (11, [.int mo, .ref q, .int (nI cap)])), (q, .inl (Y.2.1 2, (cap + max 1 (cap / 2)), .inr (.inr (.inr (.inr (va_cpy f (fun _ => none) 0 0 cap))))))] ++ ex) H locs := by rw [List.append_nil] at hW; exact hW
  refine W.eq (g2 := F0 m 10 ls [.ref q]) rfl ?_
  exact hA _ _ _ _ _ _ (some q) _ _ ⟨q, rfl, rfl⟩ rfl (Or.inr ⟨_, rfl⟩) (Nat.le_of_ble_eq_true rfl) (Nat.le_of_ble_eq_true rfl) hW dJx4a65c_grow_d5877_10
abbrev rmJx4a65c_add_72be8 : Room := { frames := 5, cells := 1, slots := 1000, locals := 113 }
set_option maxRecDepth 100000 in
set_option maxHeartbeats 4000000 in
theorem kJx4a65c_add_72be8 (l : Launch) (Dd : va_G) (Y : yT) (b ae cap n v : Nat) (mo : Int32) (f : Nat → Option Nat) (ex : va_W) (hn : n < cap) (hc : cap ≤ 1000) (hv : inx ex v) : MR l yJx4a65c_add_72be8 wsJx4a65c_add_72be8 rmJx4a65c_add_72be8 Dd Y [.ref b, .ref v, .ref ae, .int (nI n)] ([(b, .inr (11, [.int mo, .ref ae, .int (nI n)])), (ae, .inl (Y.2.1 2, cap, .inr (.inr (.inr (.inr f)))))] ++ ex) (fun rv w => rv = none ∧ w = [(b, .inr (11, [.int mo, .ref ae, .int (nI (n + 1))])), (ae, .inl (Y.2.1 2, cap, .inr (.inr (.inr (.inr (va_up f n (some v)))))))] ++ ex) 1 1000 := by
  refine MRk (cc := cJx4a65c_add_72be8) (maxL := 4) (ret := none) (by decide) rfl (Nat.le_of_ble_eq_true rfl) (fun {p₀ e₀ s m args below meth c₀ A} ls Q X hin hW hl hI hV hA => ?_)
  have hx := X.x
  have hb := X.b
  have hl : lv_has ls 4 [(0, .ref b), (1, .ref v), (2, .ref ae), (3, .int (nI n))] := hl
  have hinJx4a65c : ∀ w ∈ wsJx4a65c0, w ∈ wsJx4a65c_add_72be8 := fun w h => List.mem_cons_of_mem _ (List.mem_append_right _ h)
  refine lv_iload_n hx hb dJx4a65c_add_72be8_0 rfl (lv_at hl 3 rfl) ?_
  refine lv_aload_n hx hb dJx4a65c_add_72be8_1 rfl (lv_at hl 2 rfl) ?_
  refine len_ (v := nI cap) X hW 1 4 rfl rfl rfl dJx4a65c_add_72be8_2 ?_
  refine lv_icmp_ne (tgt := 11) hx hb dJx4a65c_add_72be8_3 (by decide) (fun _ => ?_) (fun h => absurd ((nI_eq (by omega) (by omega)).mp h) (by omega))
  refine lv_aload_n hx hb dJx4a65c_add_72be8_11 rfl (lv_at hl 2 rfl) ?_
  refine lv_iload_n hx hb dJx4a65c_add_72be8_12 rfl (lv_at hl 3 rfl) ?_
  refine lv_aload_n hx hb dJx4a65c_add_72be8_13 rfl (lv_at hl 1 rfl) ?_
  refine asq_ X hW 1 rfl (anyx_ (w := [(b, .inr (11, [.int mo, .ref ae, .int (nI n)])), (ae, .inl (Y.2.1 2, cap, .inr (.inr (.inr (.inr f)))))]) X hW hv) (vp_in_nI (by omega) (by omega)) dJx4a65c_add_72be8_14 (ws' := [(b, .inr (11, [.int mo, .ref ae, .int (nI n)])), (ae, .inl (Y.2.1 2, cap, .inr (.inr (.inr (.inr (va_up f n (some v)))))))] ++ ex) (by rw [nI_clamp (by omega)]; rfl) (fun H locs hW => ?_)
  refine lv_aload_n hx hb dJx4a65c_add_72be8_15 rfl (lv_at hl 0 rfl) ?_
  refine lv_iload_n hx hb dJx4a65c_add_72be8_16 rfl (lv_at hl 3 rfl) ?_
  refine lv_iconst (v := 1) hx hb dJx4a65c_add_72be8_17 (by decide) ?_
  refine lv_iadd hx hb dJx4a65c_add_72be8_18 ?_
  rw [nI_1]
  refine p_ (ty := .int) X hinJx4a65c tyJx4a65c tyJx4a65c_ok nmJx4a65c hW 0 rfl rfl 2 (by decide) 1 rfl rfl rfl (by decide +kernel) rfl rfl (Nat.le_of_ble_eq_true rfl) dJx4a65c_add_72be8_19 (ws' := [(b, .inr (11, [.int mo, .ref ae, .int (nI (n + 1))])), (ae, .inl (Y.2.1 2, cap, .inr (.inr (.inr (.inr (va_up f n (some v)))))))] ++ ex) rfl (fun H locs hW => ?_)
  exact hV _ _ _ _ _ _ _ ⟨rfl, rfl⟩ rfl (Nat.le_of_ble_eq_true rfl) (Nat.le_of_ble_eq_true rfl) hW dJx4a65c_add_72be8_22
set_option maxRecDepth 100000 in
set_option maxHeartbeats 4000000 in
theorem kAddE (l : Launch) (Dd : va_G) (Y : yT) (b v : Nat) (mo : Int32) (ex : va_W) (hv : inx ex v) : MR l yJx4a65c_add_72be8 wsJx4a65c_add_72be8 rmJx4a65c_add_72be8 Dd Y [.ref b, .ref v, .ref (Y.2.2.2.1 100), .int 0] ([(b, .inr (11, [.int mo, .ref (Y.2.2.2.1 100), .int 0]))] ++ ex) (fun rv w => ∃ q : Nat, rv = none ∧ w = [(b, .inr (11, [.int mo, .ref q, .int (nI 1)])), (q, .inl (Y.2.1 2, 10, .inr (.inr (.inr (.inr (va_up (fun _ => none) 0 (some v)))))))] ++ ex) 1 1000 := by
  refine MRk (cc := cJx4a65c_add_72be8) (maxL := 4) (ret := none) (by decide) rfl (Nat.le_of_ble_eq_true rfl) (fun {p₀ e₀ s m args below meth c₀ A} ls Q X hin hW hl hI hV hA => ?_)
  have hx := X.x
  have hb := X.b
  have hl : lv_has ls 4 [(0, .ref b), (1, .ref v), (2, .ref (Y.2.2.2.1 100)), (3, .int 0)] := hl
  have hinJx4a65c : ∀ w ∈ wsJx4a65c0, w ∈ wsJx4a65c_add_72be8 := fun w h => List.mem_cons_of_mem _ (List.mem_append_right _ h)
  refine lv_iload_n hx hb dJx4a65c_add_72be8_0 rfl (lv_at hl 3 rfl) ?_
  refine lv_aload_n hx hb dJx4a65c_add_72be8_1 rfl (lv_at hl 2 rfl) ?_
  refine va_tlen (v := 0) hx hb X.2.2.2.2.2.2.2.2.2.2.1 hW.2.2 rfl dJx4a65c_add_72be8_2 ?_
  refine lv_icmp_ne (tgt := 11) hx hb dJx4a65c_add_72be8_3 (by decide) (fun h => absurd rfl h) (fun _ => ?_)
  refine lv_aload_n hx hb dJx4a65c_add_72be8_6 rfl (lv_at hl 0 rfl) ?_
  refine rV_ (As := []) (rest := []) (wc := [(b, .inr (11, [.int mo, .ref (Y.2.2.2.1 100), .int 0]))]) (w9 := [] ++ ex) X (kJx4a65c_grow_d5877 l Dd Y b mo) (cwV 0 X.1.2.2.2.2 gJx4a65c_add_72be8_Jx4a65c_grow_d5877 rfl rfl rfl (by decide +kernel) ⟨(Nat.le_of_ble_eq_true rfl), (Nat.le_of_ble_eq_true rfl)⟩) hW (List.Perm.refl _) 0 11 rfl rfl rfl rfl hl.1 rfl (Nat.le_of_ble_eq_true rfl) dJx4a65c_add_72be8_7 ⟨(Nat.le_of_ble_eq_true rfl), (Nat.le_of_ble_eq_true rfl)⟩ (fun rv wq H locs hp hW => ?_)
  obtain ⟨q, rfl, rfl⟩ := hp
  have hW : Wd Dd A s.heap ([(b, .inr (11, [.int mo, .ref q, .int 0])), (q, .inl (Y.2.1 2, 10, .inr (.inr (.inr (.inr (fun _ => none))))))] ++ ex) H locs := hW
  refine W.eq (g2 := F0 m 10 ls [.ref q]) rfl ?_
  refine lv_astore_n (lv' := [(2, .ref q), (0, .ref b), (1, .ref v), (3, .int 0)]) hx hb dJx4a65c_add_72be8_10 rfl hl (by decide) rfl (fun ls hl => ?_)
  refine lv_aload_n hx hb dJx4a65c_add_72be8_11 rfl (lv_at hl 0 rfl) ?_
  refine lv_iload_n hx hb dJx4a65c_add_72be8_12 rfl (lv_at hl 3 rfl) ?_
  refine lv_aload_n hx hb dJx4a65c_add_72be8_13 rfl (lv_at hl 2 rfl) ?_
  refine asq_ X hW 1 rfl (anyx_ (w := [(b, .inr (11, [.int mo, .ref q, .int 0])), (q, .inl (Y.2.1 2, 10, .inr (.inr (.inr (.inr (fun _ => none))))))]) X hW hv) (by unfold vp_in; decide) dJx4a65c_add_72be8_14 (ws' := [(b, .inr (11, [.int mo, .ref q, .int 0])), (q, .inl (Y.2.1 2, 10, .inr (.inr (.inr (.inr (va_up (fun _ => none) 0 (some v)))))))] ++ ex) rfl (fun H locs hW => ?_)
  refine lv_aload_n hx hb dJx4a65c_add_72be8_15 rfl (lv_at hl 1 rfl) ?_
  refine lv_iload_n hx hb dJx4a65c_add_72be8_16 rfl (lv_at hl 3 rfl) ?_
  refine lv_iconst (v := 1) hx hb dJx4a65c_add_72be8_17 (by decide) ?_
  refine lv_iadd hx hb dJx4a65c_add_72be8_18 ?_
  rw [show ((0 : Int32) + 1) = nI 1 from by decide]
  refine p_ (ty := .int) X hinJx4a65c tyJx4a65c tyJx4a65c_ok nmJx4a65c hW 0 rfl rfl 2 (by decide) 1 rfl rfl rfl (by decide +kernel) rfl rfl (Nat.le_of_ble_eq_true rfl) dJx4a65c_add_72be8_19 (ws' := [(b, .inr (11, [.int mo, .ref q, .int (nI 1)])), (q, .inl (Y.2.1 2, 10, .inr (.inr (.inr (.inr (va_up (fun _ => none) 0 (some v)))))))] ++ ex) rfl (fun H locs hW => ?_)
  exact hV _ _ _ _ _ _ _ ⟨q, rfl, rfl⟩ rfl (Nat.le_of_ble_eq_true rfl) (Nat.le_of_ble_eq_true rfl) hW dJx4a65c_add_72be8_22
set_option maxRecDepth 100000 in
set_option maxHeartbeats 4000000 in
theorem kAddF (l : Launch) (Dd : va_G) (Y : yT) (b ae cap v : Nat) (mo : Int32) (f : Nat → Option Nat) (ex : va_W) (hv : inx ex v) (h0 : 0 < cap) (hc : cap ≤ 600) (hel : ∀ i : Nat, i < cap → ∀ y : Nat, f i = some y → inx ex y) : MR l yJx4a65c_add_72be8 wsJx4a65c_add_72be8 rmJx4a65c_add_72be8 Dd Y [.ref b, .ref v, .ref ae, .int (nI cap)] ([(b, .inr (11, [.int mo, .ref ae, .int (nI cap)])), (ae, .inl (Y.2.1 2, cap, .inr (.inr (.inr (.inr f)))))] ++ ex) (fun rv w => ∃ q : Nat, rv = none ∧ w = [(b, .inr (11, [.int mo, .ref q, .int (nI (cap + 1))])), (q, .inl (Y.2.1 2, (cap + max 1 (cap / 2)), .inr (.inr (.inr (.inr (va_up (va_cpy f (fun _ => none) 0 0 cap) cap (some v)))))))] ++ ex) 1 1000 := by
  refine MRk (cc := cJx4a65c_add_72be8) (maxL := 4) (ret := none) (by decide) rfl (Nat.le_of_ble_eq_true rfl) (fun {p₀ e₀ s m args below meth c₀ A} ls Q X hin hW hl hI hV hA => ?_)
  have hx := X.x
  have hb := X.b
  have hl : lv_has ls 4 [(0, .ref b), (1, .ref v), (2, .ref ae), (3, .int (nI cap))] := hl
  have hinJx4a65c : ∀ w ∈ wsJx4a65c0, w ∈ wsJx4a65c_add_72be8 := fun w h => List.mem_cons_of_mem _ (List.mem_append_right _ h)
  refine lv_iload_n hx hb dJx4a65c_add_72be8_0 rfl (lv_at hl 3 rfl) ?_
  refine lv_aload_n hx hb dJx4a65c_add_72be8_1 rfl (lv_at hl 2 rfl) ?_
  refine len_ (v := nI cap) X hW 1 4 rfl rfl rfl dJx4a65c_add_72be8_2 ?_
  refine lv_icmp_ne (tgt := 11) hx hb dJx4a65c_add_72be8_3 (by decide) (fun h => absurd rfl h) (fun _ => ?_)
  refine lv_aload_n hx hb dJx4a65c_add_72be8_6 rfl (lv_at hl 0 rfl) ?_
  refine rV_ (As := []) (rest := []) (wc := [(b, .inr (11, [.int mo, .ref ae, .int (nI cap)])), (ae, .inl (Y.2.1 2, cap, .inr (.inr (.inr (.inr f)))))] ++ ex) (w9 := []) X (kGrow0F l Dd Y b ae cap mo f ex h0 hc hel) (cwV 0 X.1.2.2.2.2 gJx4a65c_add_72be8_Jx4a65c_grow_d5877 rfl rfl rfl (by decide +kernel) ⟨(Nat.le_of_ble_eq_true rfl), (Nat.le_of_ble_eq_true rfl)⟩) hW (pmq3 _ _ _) 0 11 rfl rfl rfl rfl hl.1 rfl (Nat.le_of_ble_eq_true rfl) dJx4a65c_add_72be8_7 ⟨(Nat.le_of_ble_eq_true rfl), (Nat.le_of_ble_eq_true rfl)⟩ (fun rv wq H locs hp hW => ?_)
  obtain ⟨q, rfl, rfl⟩ := hp
  have hW : Wd Dd A s.heap ([(b, .inr (11, [.int mo, .ref q, .int (nI cap)])), (q, .inl (Y.2.1 2, (cap + max 1 (cap / 2)), .inr (.inr (.inr (.inr (va_cpy f (fun _ => none) 0 0 cap))))))] ++ ex) H locs := by rw [List.append_nil] at hW; exact hW
  refine W.eq (g2 := F0 m 10 ls [.ref q]) rfl ?_
  refine lv_astore_n (lv' := [(2, .ref q), (0, .ref b), (1, .ref v), (3, .int (nI cap))]) hx hb dJx4a65c_add_72be8_10 rfl hl (by decide) rfl (fun ls hl => ?_)
  refine lv_aload_n hx hb dJx4a65c_add_72be8_11 rfl (lv_at hl 0 rfl) ?_
  refine lv_iload_n hx hb dJx4a65c_add_72be8_12 rfl (lv_at hl 3 rfl) ?_
  refine lv_aload_n hx hb dJx4a65c_add_72be8_13 rfl (lv_at hl 2 rfl) ?_
  refine asq_ X hW 1 rfl (anyx_ (w := [(b, .inr (11, [.int mo, .ref q, .int (nI cap)])), (q, .inl (Y.2.1 2, (cap + max 1 (cap / 2)), .inr (.inr (.inr (.inr (va_cpy f (fun _ => none) 0 0 cap))))))]) X hW hv) (vp_in_nI (by omega) (by omega)) dJx4a65c_add_72be8_14 (ws' := [(b, .inr (11, [.int mo, .ref q, .int (nI cap)])), (q, .inl (Y.2.1 2, (cap + max 1 (cap / 2)), .inr (.inr (.inr (.inr (va_up (va_cpy f (fun _ => none) 0 0 cap) cap (some v)))))))] ++ ex) (by rw [nI_clamp (by omega)]; rfl) (fun H locs hW => ?_)
  refine lv_aload_n hx hb dJx4a65c_add_72be8_15 rfl (lv_at hl 1 rfl) ?_
  refine lv_iload_n hx hb dJx4a65c_add_72be8_16 rfl (lv_at hl 3 rfl) ?_
  refine lv_iconst (v := 1) hx hb dJx4a65c_add_72be8_17 (by decide) ?_
  refine lv_iadd hx hb dJx4a65c_add_72be8_18 ?_
  rw [nI_1]
  refine p_ (ty := .int) X hinJx4a65c tyJx4a65c tyJx4a65c_ok nmJx4a65c hW 0 rfl rfl 2 (by decide) 1 rfl rfl rfl (by decide +kernel) rfl rfl (Nat.le_of_ble_eq_true rfl) dJx4a65c_add_72be8_19 (ws' := [(b, .inr (11, [.int mo, .ref q, .int (nI (cap + 1))])), (q, .inl (Y.2.1 2, (cap + max 1 (cap / 2)), .inr (.inr (.inr (.inr (va_up (va_cpy f (fun _ => none) 0 0 cap) cap (some v)))))))] ++ ex) rfl (fun H locs hW => ?_)
  exact hV _ _ _ _ _ _ _ ⟨q, rfl, rfl⟩ rfl (Nat.le_of_ble_eq_true rfl) (Nat.le_of_ble_eq_true rfl) hW dJx4a65c_add_72be8_22
