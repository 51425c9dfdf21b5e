theorem pmq71 {α : Type} (c0 c1 c2 : α) (t : List α) : ([c0, c1, c2] ++ t : List α).Perm (t ++ [c0, c1, c2]) := pmA _ _ (fun x => by simp only [List.count_append, List.count_cons, List.count_nil]; omega)
theorem pmq72 {α : Type} (c0 c1 c2 : α) (t : List α) : (t ++ [c0, c1, c2] : List α).Perm (([c0, c1] ++ t) ++ [c2]) := pmA _ _ (fun x => by simp only [List.count_append, List.count_cons, List.count_nil]; omega)
theorem pmq73 {α : Type} (c0 c1 : α) (t : List α) : ([c0, c1] ++ t : List α).Perm (t ++ [c0, c1]) := pmA _ _ (fun x => by simp only [List.count_append, List.count_cons, List.count_nil]; omega)
theorem pmq74 {α : Type} (c0 c1 : α) (t : List α) : (t ++ [c0, c1] : List α).Perm ([c0, c1] ++ t) := pmA _ _ (fun x => by simp only [List.count_append, List.count_cons, List.count_nil]; omega)
/-- the letters of a text, blanks behind it; the words of four -/
def ltr (S : List Nat) (k : Nat) : Int32 := if k < S.length then nI (S.getD k 0) else 32
def prt (S : List Nat) (i q : Nat) : Nat → Int32
  | 0 => 0
  | j + 1 => (prt S i q j <<< ((8 : Int32) &&& 31)) ||| ltr S (i + (4 * q + j))
def arw (S : List Nat) (i k : Nat) : Nat → Int32 := fun q => prt S i q (min 4 (k - 4 * q))
theorem arw_0 (S : List Nat) (i : Nat) : arw S i 0 = fun _ => 0 := by
  funext q
  unfold arw
  rw [Nat.zero_sub, Nat.min_zero]; rfl
theorem arw_s (S : List Nat) (i k : Nat) : upd (arw S i k) (k / 4) ((arw S i k (k / 4) <<< ((8 : Int32) &&& 31)) ||| ltr S (i + k)) = arw S i (k + 1) := by
  funext q
  by_cases e : q = k / 4
  · subst e
    rw [pk_us]
    unfold arw
    rw [show min 4 (k + 1 - 4 * (k / 4)) = min 4 (k - 4 * (k / 4)) + 1 by omega, prt, show 4 * (k / 4) + min 4 (k - 4 * (k / 4)) = k by omega]
  · rw [pk_un e]
    unfold arw
    rw [show min 4 (k + 1 - 4 * q) = min 4 (k - 4 * q) by omega]
theorem arw_4 (S : List Nat) (i q : Nat) (h : q < 5) : arw S i 20 q = prt S i q 4 := by
  unfold arw
  rw [show min 4 (20 - 4 * q) = 4 by omega]
abbrev rmL_feeds : Room := { frames := 4, cells := 8, slots := 40, locals := 85 }
set_option maxRecDepth 100000 in
set_option maxHeartbeats 4000000 in
theorem kL_feeds (l : Launch) (Dd : va_G) (Y : yT) (ad : Nat → Nat → Nat) (Vs : Nat → gX) (rs : Nat → Int32) (s0 av : Nat) (S : List Nat) (g : Nat → Int32) (hG : BT S g) (hS : S.length ≤ 140) (hr0 : rs 0 = 0) (hap : ∀ j : Nat, 20 * j < S.length → dnX4_append (Vs j) (prt S (20 * j) 0 4) (prt S (20 * j) 1 4) (prt S (20 * j) 2 4) (prt S (20 * j) 3 4) (prt S (20 * j) 4 4) = some (rs (j + 1), Vs (j + 1))) : MR l yL_feeds wsL_feeds rmL_feeds Dd Y [.ref (ad 0 0), .ref s0] ([(s0, .inr (8, [.ref av, .int 0, .int 0, .int 0])), (av, .inl (Y.2.1 0, S.length, .inl g))] ++ WX Y ad (Vs 0)) (fun rv w => ∃ j : Nat, S.length ≤ 20 * j ∧ 20 * j < S.length + 20 ∧ rv = some (.int (rs j)) ∧ w = [(s0, .inr (8, [.ref av, .int 0, .int 0, .int 0])), (av, .inl (Y.2.1 0, S.length, .inl g))] ++ WX Y ad (Vs j)) 8 40 := by
  refine MRk (cc := cL_feeds) (maxL := 6) (ret := (some .int)) (by decide) rfl (Nat.le_of_ble_eq_true rfl) (fun {p₀ e₀ s m args below meth c₀ A} ls Q X hin hW hl hI hV hA => ?_)
  have hx := X.x
  have hb := X.b
  have hl : lv_has ls 6 [(0, .ref (ad 0 0)), (1, .ref s0)] := hl
  refine lv_iconst (v := 0) hx hb dL_feeds_0 (by decide) ?_
  refine lv_istore_n (lv' := [(2, .int 0), (0, .ref (ad 0 0)), (1, .ref s0)]) hx hb dL_feeds_1 rfl hl (by decide) rfl (fun ls hl => ?_)
  refine lv_iconst (v := 0) hx hb dL_feeds_2 (by decide) ?_
  refine lv_istore_n (lv' := [(3, .int 0), (2, .int 0), (0, .ref (ad 0 0)), (1, .ref s0)]) hx hb dL_feeds_3 rfl hl (by decide) rfl (fun ls hl => ?_)
  have lpo : ∀ (d : Nat) (j : Nat) (H : Heap) (locs : List Loc) (ls : Array Slot), (hj : 20 * j < S.length + 20) → (S.length + 20 < d + 20 * j) → lv_has ls 6 [(3, .int (nI (20 * j))), (2, .int (rs j)), (0, .ref (ad 0 0)), (1, .ref s0)] → Wd Dd A s.heap ([(s0, .inr (8, [.ref av, .int 0, .int 0, .int 0])), (av, .inl (Y.2.1 0, S.length, .inl g))] ++ WX Y ad (Vs j)) H locs → W p₀ l e₀ rmL_feeds s m args below meth c₀ H locs (0 + j) (0 + 5 * j) Q (F0 m 4 ls []) := by
    intro d
    induction d with
    | zero => intro j H locs ls hj hfu; exact absurd hfu (by omega)
    | succ d ih =>
      intro j H locs ls hj hfu hl hW
      refine lv_iload_n hx hb dL_feeds_4 rfl (lv_at hl 0 rfl) ?_
      refine lv_aload_n hx hb dL_feeds_5 rfl (lv_at hl 3 rfl) ?_
      refine rV_ (As := []) (rest := [.int (nI (20 * j))]) (wc := [(s0, .inr (8, [.ref av, .int 0, .int 0, .int 0])), (av, .inl (Y.2.1 0, S.length, .inl g))]) (w9 := [] ++ WX Y ad (Vs j)) X (hJ0_length_8abf5 l Dd Y s0 av S.length g) (cwV 0 X.1.2.2.2.2 gL_feeds_J0_length_8abf5 rfl rfl rfl (by decide +kernel) ⟨(Nat.le_of_ble_eq_true rfl), (Nat.le_of_ble_eq_true rfl)⟩) hW (List.Perm.refl _) 0 8 rfl rfl rfl rfl hl.1 rfl (Nat.le_of_ble_eq_true rfl) dL_feeds_6 ⟨(by show (0 + j) + 0 ≤ 8; omega), (by show (0 + 5 * j) + 0 ≤ 40; omega)⟩ (fun rv wq H locs hp hW => ?_)
      obtain ⟨rfl, rfl⟩ := hp
      have hW : Wd Dd A s.heap ([(s0, .inr (8, [.ref av, .int 0, .int 0, .int 0])), (av, .inl (Y.2.1 0, S.length, .inl g))] ++ WX Y ad (Vs j)) H locs := hW
      refine W.eq (g2 := F0 m 9 ls [.int (nI S.length), .int (nI (20 * j))]) rfl ?_
      refine lv_icmp_ge (tgt := 106) hx hb dL_feeds_9 (by decide) (fun cq => ?_) (fun cq => ?_)
      · have hle : S.length ≤ 20 * j := (nI_leI (by omega) (by omega)).mp cq
        refine lv_iload_n hx hb dL_feeds_106 rfl (lv_at hl 1 rfl) ?_
        exact hI _ _ _ _ _ _ _ _ _ ⟨j, hle, hj, rfl, rfl⟩ rfl rfl (show 0 + j ≤ 8 from by omega) (show 0 + 5 * j ≤ 40 from by omega) hW dL_feeds_107
      · have hlt : 20 * j < S.length := Nat.lt_of_not_le (fun h => cq ((nI_leI (by omega) (by omega)).mpr h))
        refine lv_iconst (v := 5) hx hb dL_feeds_12 (by decide) ?_
        refine ni_ (N' := 5) X 1 rfl hW (by decide) (by decide) (by decide) (show 0 + j + 1 ≤ 8 from by omega) (show 0 + 5 * j + 5 ≤ 40 from by omega) dL_feeds_13 (fun q H hW => ?_)
        have hW : Wd Dd A s.heap ([(s0, .inr (8, [.ref av, .int 0, .int 0, .int 0])), (av, .inl (Y.2.1 0, S.length, .inl g)), (q, .inl (Y.1, 5, .inl (fun _ => 0)))] ++ WX Y ad (Vs j)) _ _ := hW.permA pm_new
        rw [← arw_0 S (20 * j)] at hW
        refine lv_astore (lv' := [(4, .ref q), (3, .int (nI (20 * j))), (2, .int (rs j)), (0, .ref (ad 0 0)), (1, .ref s0)]) hx hb dL_feeds_15 hl (by decide) rfl (fun ls hl => ?_)
        refine lv_iconst (v := 0) hx hb dL_feeds_17 (by decide) ?_
        refine lv_istore (lv' := [(5, .int 0), (4, .ref q), (3, .int (nI (20 * j))), (2, .int (rs j)), (0, .ref (ad 0 0)), (1, .ref s0)]) hx hb dL_feeds_18 hl (by decide) rfl (fun ls hl => ?_)
        have lpi : ∀ (d : Nat) (k : Nat) (H : Heap) (locs : List Loc) (ls : Array Slot), (hk : k ≤ 20) → (20 < d + k) → lv_has ls 6 [(5, .int (nI k)), (4, .ref q), (3, .int (nI (20 * j))), (2, .int (rs j)), (0, .ref (ad 0 0)), (1, .ref s0)] → Wd Dd A s.heap ([(s0, .inr (8, [.ref av, .int 0, .int 0, .int 0])), (av, .inl (Y.2.1 0, S.length, .inl g)), (q, .inl (Y.1, 5, .inl (arw S (20 * j) k)))] ++ WX Y ad (Vs j)) H locs → W p₀ l e₀ rmL_feeds s m args below meth c₀ H locs (0 + j + 1) (0 + 5 * j + 5) Q (F0 m 20 ls []) := by
          intro d
          induction d with
          | zero => intro k H locs ls hk hfu; exact absurd hfu (by omega)
          | succ d ihi =>
            intro k H locs ls hk hfu hl hW
            refine lv_iload hx hb dL_feeds_20 (lv_at hl 0 rfl) ?_
            refine lv_bipush (v := 20) hx hb dL_feeds_22 (by decide) ?_
            refine lv_icmp_ge (tgt := 75) hx hb dL_feeds_24 (by decide) (fun ck => ?_) (fun ck => ?_)
            · have e20 : k = 20 := by have := (nI_leI (a := 20) (by decide) (by omega)).mp ck; omega
              rw [e20] at hW
              refine lv_aload_n hx hb dL_feeds_75 rfl (lv_at hl 4 rfl) ?_
              refine lv_aload hx hb dL_feeds_76 (lv_at hl 1 rfl) ?_
              refine lv_iconst (v := 0) hx hb dL_feeds_78 (by decide) ?_
              refine a_ X hW 2 rfl rfl (by unfold vp_in; decide) dL_feeds_79 ?_
              rw [show arw S (20 * j) 20 (0 : Int32).toNatClampNeg = prt S (20 * j) 0 4 from arw_4 S (20 * j) 0 (by decide)]
              refine lv_aload hx hb dL_feeds_80 (lv_at hl 1 rfl) ?_
              refine lv_iconst (v := 1) hx hb dL_feeds_82 (by decide) ?_
              refine a_ X hW 2 rfl rfl (by unfold vp_in; decide) dL_feeds_83 ?_
              rw [show arw S (20 * j) 20 (1 : Int32).toNatClampNeg = prt S (20 * j) 1 4 from arw_4 S (20 * j) 1 (by decide)]
              refine lv_aload hx hb dL_feeds_84 (lv_at hl 1 rfl) ?_
              refine lv_iconst (v := 2) hx hb dL_feeds_86 (by decide) ?_
              refine a_ X hW 2 rfl rfl (by unfold vp_in; decide) dL_feeds_87 ?_
              rw [show arw S (20 * j) 20 (2 : Int32).toNatClampNeg = prt S (20 * j) 2 4 from arw_4 S (20 * j) 2 (by decide)]
              refine lv_aload hx hb dL_feeds_88 (lv_at hl 1 rfl) ?_
              refine lv_iconst (v := 3) hx hb dL_feeds_90 (by decide) ?_
              refine a_ X hW 2 rfl rfl (by unfold vp_in; decide) dL_feeds_91 ?_
              rw [show arw S (20 * j) 20 (3 : Int32).toNatClampNeg = prt S (20 * j) 3 4 from arw_4 S (20 * j) 3 (by decide)]
              refine lv_aload hx hb dL_feeds_92 (lv_at hl 1 rfl) ?_
              refine lv_iconst (v := 4) hx hb dL_feeds_94 (by decide) ?_
              refine a_ X hW 2 rfl rfl (by unfold vp_in; decide) dL_feeds_95 ?_
              rw [show arw S (20 * j) 20 (4 : Int32).toNatClampNeg = prt S (20 * j) 4 4 from arw_4 S (20 * j) 4 (by decide)]
              refine rV_ (As := [.int (prt S (20 * j) 0 4), .int (prt S (20 * j) 1 4), .int (prt S (20 * j) 2 4), .int (prt S (20 * j) 3 4), .int (prt S (20 * j) 4 4)]) (rest := []) (wc := WX Y ad (Vs j)) (w9 := [(s0, .inr (8, [.ref av, .int 0, .int 0, .int 0])), (av, .inl (Y.2.1 0, S.length, .inl g)), (q, .inl (Y.1, 5, .inl (arw S (20 * j) 20)))]) X ((kX4_append l Dd Y ad (Vs j) (prt S (20 * j) 0 4) (prt S (20 * j) 1 4) (prt S (20 * j) 2 4) (prt S (20 * j) 3 4) (prt S (20 * j) 4 4) _ _ (hap j hlt)).r) (cwV 5 X.1.2.2.2.2 gL_feeds_X4_append rfl rfl rfl (by decide +kernel) ⟨(Nat.le_of_ble_eq_true rfl), (Nat.le_of_ble_eq_true rfl)⟩) hW (pmq71 _ _ _ _) 0 4 rfl rfl rfl rfl hl.1 rfl (Nat.le_of_ble_eq_true rfl) dL_feeds_96 ⟨(by show (0 + j + 1) + 0 ≤ 8; omega), (by show (0 + 5 * j + 5) + 0 ≤ 40; omega)⟩ (fun rv wq H locs hp hW => ?_)
              obtain ⟨rfl, rfl⟩ := hp
              have hW : Wd Dd A s.heap ([(s0, .inr (8, [.ref av, .int 0, .int 0, .int 0])), (av, .inl (Y.2.1 0, S.length, .inl g))] ++ WX Y ad (Vs (j + 1))) H locs := (hW.permA (pmq72 _ _ _ _)).drop
              refine W.eq (g2 := F0 m 99 ls [.int (rs (j + 1))]) rfl ?_
              refine lv_istore_n (lv' := [(2, .int (rs (j + 1))), (5, .int (nI k)), (4, .ref q), (3, .int (nI (20 * j))), (0, .ref (ad 0 0)), (1, .ref s0)]) hx hb dL_feeds_99 rfl hl (by decide) rfl (fun ls hl => ?_)
              refine lv_iinc (v := (nI (20 * j)) + 20) (lv' := [(3, .int ((nI (20 * j)) + 20)), (2, .int (rs (j + 1))), (5, .int (nI k)), (4, .ref q), (0, .ref (ad 0 0)), (1, .ref s0)]) hx hb dL_feeds_100 hl (k := 3) rfl rfl (by decide) rfl (fun ls hl => ?_)
              rw [show nI (20 * j) + 20 = nI (20 * (j + 1)) from nI_add (20 * j) 20] at hl
              refine lv_goto (tgt := 4) hx hb dL_feeds_103 (by decide) ?_
              have hl : lv_has ls 6 [(3, .int (nI (20 * (j + 1)))), (2, .int (rs (j + 1))), (0, .ref (ad 0 0)), (1, .ref s0)] := lv_sub hl [0, 1, 4, 5] rfl
              exact W.widen (show 0 + j + 1 ≤ 0 + (j + 1) from by omega) (show 0 + 5 * j + 5 ≤ 0 + 5 * (j + 1) from by omega) (ih (j + 1) _ _ _ (by omega) (by omega) hl hW)
            · have hk2 : k < 20 := Nat.lt_of_not_le (fun h => ck ((nI_leI (a := 20) (by decide) (by omega)).mpr h))
              refine lv_aload hx hb dL_feeds_27 (lv_at hl 1 rfl) ?_
              refine lv_iload hx hb dL_feeds_29 (lv_at hl 0 rfl) ?_
              refine lv_iconst (v := 4) hx hb dL_feeds_31 (by decide) ?_
              refine lv_idiv hx hb dL_feeds_32 (by decide) ?_
              rw [show nI k / 4 = nI (k / 4) from nI_divN (n := 4) (by omega) (by decide) (by decide)]
              refine lv_aload hx hb dL_feeds_33 (lv_at hl 1 rfl) ?_
              refine lv_iload hx hb dL_feeds_35 (lv_at hl 0 rfl) ?_
              refine lv_iconst (v := 4) hx hb dL_feeds_37 (by decide) ?_
              refine lv_idiv hx hb dL_feeds_38 (by decide) ?_
              rw [show nI k / 4 = nI (k / 4) from nI_divN (n := 4) (by omega) (by decide) (by decide)]
              refine a_ X hW 2 rfl rfl (vp_in_nI (show k / 4 < 5 by omega) (by decide)) dL_feeds_39 ?_
              rw [nI_clamp (by omega)]
              refine lv_bipush (v := 8) hx hb dL_feeds_40 (by decide) ?_
              refine lv_ishl hx hb dL_feeds_42 ?_
              refine lv_iload_n hx hb dL_feeds_43 rfl (lv_at hl 2 rfl) ?_
              refine lv_iload hx hb dL_feeds_44 (lv_at hl 0 rfl) ?_
              refine lv_iadd hx hb dL_feeds_46 ?_
              rw [nI_add]
              refine lv_aload_n hx hb dL_feeds_47 rfl (lv_at hl 5 rfl) ?_
              refine rV_ (As := []) (rest := [.int (nI (20 * j + k)), .int ((arw S (20 * j) k (k / 4)) <<< ((8 : Int32) &&& 31)), .int (nI (k / 4)), .ref q]) (wc := [(s0, .inr (8, [.ref av, .int 0, .int 0, .int 0])), (av, .inl (Y.2.1 0, S.length, .inl g))]) (w9 := [(q, .inl (Y.1, 5, .inl (arw S (20 * j) k)))] ++ WX Y ad (Vs j)) X (hJ0_length_8abf5 l Dd Y s0 av S.length g) (cwV 0 X.1.2.2.2.2 gL_feeds_J0_length_8abf5 rfl rfl rfl (by decide +kernel) ⟨(Nat.le_of_ble_eq_true rfl), (Nat.le_of_ble_eq_true rfl)⟩) hW (List.Perm.refl _) 0 8 rfl rfl rfl rfl hl.1 rfl (Nat.le_of_ble_eq_true rfl) dL_feeds_48 ⟨(by show (0 + j + 1) + 0 ≤ 8; omega), (by show (0 + 5 * j + 5) + 0 ≤ 40; omega)⟩ (fun rv wq H locs hp hW => ?_)
              obtain ⟨rfl, rfl⟩ := hp
              have hW : Wd Dd A s.heap ([(s0, .inr (8, [.ref av, .int 0, .int 0, .int 0])), (av, .inl (Y.2.1 0, S.length, .inl g)), (q, .inl (Y.1, 5, .inl (arw S (20 * j) k)))] ++ WX Y ad (Vs j)) H locs := hW
              refine W.eq (g2 := F0 m 51 ls [.int (nI S.length), .int (nI (20 * j + k)), .int ((arw S (20 * j) k (k / 4)) <<< ((8 : Int32) &&& 31)), .int (nI (k / 4)), .ref q]) rfl ?_
              have c67 : ∀  (H : Heap) (locs : List Loc) (ls : Array Slot), lv_has ls 6 [(5, .int (nI k)), (4, .ref q), (3, .int (nI (20 * j))), (2, .int (rs j)), (0, .ref (ad 0 0)), (1, .ref s0)] → Wd Dd A s.heap ([(s0, .inr (8, [.ref av, .int 0, .int 0, .int 0])), (av, .inl (Y.2.1 0, S.length, .inl g)), (q, .inl (Y.1, 5, .inl (arw S (20 * j) k)))] ++ WX Y ad (Vs j)) H locs → W p₀ l e₀ rmL_feeds s m args below meth c₀ H locs (0 + j + 1) (0 + 5 * j + 5) Q (F0 m 67 ls [.int (ltr S (20 * j + k)), .int (arw S (20 * j) k (k / 4) <<< ((8 : Int32) &&& 31)), .int (nI (k / 4)), .ref q]) := by
                intro  H locs ls  hl hW
                refine lv_ior hx hb dL_feeds_67 ?_
                refine s_ X hW 2 rfl rfl (vp_in_nI (show k / 4 < 5 by omega) (by decide)) dL_feeds_68 (ws' := [(s0, .inr (8, [.ref av, .int 0, .int 0, .int 0])), (av, .inl (Y.2.1 0, S.length, .inl g)), (q, .inl (Y.1, 5, .inl (arw S (20 * j) (k + 1))))] ++ WX Y ad (Vs j)) (by rw [nI_clamp (by omega), arw_s]; rfl) (fun H locs hW => ?_)
                refine lv_iinc (v := (nI k) + 1) (lv' := [(5, .int ((nI k) + 1)), (4, .ref q), (3, .int (nI (20 * j))), (2, .int (rs j)), (0, .ref (ad 0 0)), (1, .ref s0)]) hx hb dL_feeds_69 hl (k := 0) rfl rfl (by decide) rfl (fun ls hl => ?_)
                rw [nI_1] at hl
                refine lv_goto (tgt := 20) hx hb dL_feeds_72 (by decide) ?_
                exact ihi (k + 1) _ _ _ (by omega) (by omega) hl hW
              refine lv_icmp_ge (tgt := 65) hx hb dL_feeds_51 (by decide) (fun cl9 => ?_) (fun cl9 => ?_)
              · have hge : ¬ 20 * j + k < S.length := fun h => absurd ((nI_leI (by omega) (by omega)).mp cl9) (by omega)
                refine lv_bipush (v := 32) hx hb dL_feeds_65 (by decide) ?_
                have el : ltr S (20 * j + k) = 32 := if_neg hge
                rw [← el]
                exact c67 _ _ _ hl hW
              · have hlt2 : 20 * j + k < S.length := Nat.lt_of_not_le (fun h => cl9 ((nI_leI (by omega) (by omega)).mpr h))
                refine lv_aload_n hx hb dL_feeds_54 rfl (lv_at hl 5 rfl) ?_
                refine lv_iload_n hx hb dL_feeds_55 rfl (lv_at hl 2 rfl) ?_
                refine lv_iload hx hb dL_feeds_56 (lv_at hl 0 rfl) ?_
                refine lv_iadd hx hb dL_feeds_58 ?_
                rw [nI_add]
                have hch : S.getD (20 * j + k) 0 < 128 := hG.2.2 _ (by rw [gD_i hlt2]; exact List.getElem_mem hlt2)
                refine rV_ (As := [.int (nI (20 * j + k))]) (rest := [.int ((arw S (20 * j) k (k / 4)) <<< ((8 : Int32) &&& 31)), .int (nI (k / 4)), .ref q]) (wc := [(s0, .inr (8, [.ref av, .int 0, .int 0, .int 0])), (av, .inl (Y.2.1 0, S.length, .inl g))]) (w9 := [(q, .inl (Y.1, 5, .inl (arw S (20 * j) k)))] ++ WX Y ad (Vs j)) X (hJ0_charAt_5068e l Dd Y s0 av S.length (20 * j + k) (S.getD (20 * j + k) 0) g hlt2 (by omega) (hG.2.1 _ hlt2) hch) (cwV 1 X.1.2.2.2.2 gL_feeds_J0_charAt_5068e rfl rfl rfl (by decide +kernel) ⟨(Nat.le_of_ble_eq_true rfl), (Nat.le_of_ble_eq_true rfl)⟩) hW (List.Perm.refl _) 0 8 rfl rfl rfl rfl hl.1 rfl (Nat.le_of_ble_eq_true rfl) dL_feeds_59 ⟨(by show (0 + j + 1) + 0 ≤ 8; omega), (by show (0 + 5 * j + 5) + 0 ≤ 40; omega)⟩ (fun rv wq H locs hp hW => ?_)
                obtain ⟨rfl, rfl⟩ := hp
                have hW : Wd Dd A s.heap ([(s0, .inr (8, [.ref av, .int 0, .int 0, .int 0])), (av, .inl (Y.2.1 0, S.length, .inl g)), (q, .inl (Y.1, 5, .inl (arw S (20 * j) k)))] ++ WX Y ad (Vs j)) H locs := hW
                refine W.eq (g2 := F0 m 62 ls [.int (nI (S.getD (20 * j + k) 0)), .int ((arw S (20 * j) k (k / 4)) <<< ((8 : Int32) &&& 31)), .int (nI (k / 4)), .ref q]) rfl ?_
                refine lv_goto (tgt := 67) hx hb dL_feeds_62 (by decide) ?_
                have el : ltr S (20 * j + k) = nI (S.getD (20 * j + k) 0) := if_pos hlt2
                rw [← el]
                exact c67 _ _ _ hl hW
        exact lpi 21 0 _ _ _ (by decide) (by decide) hl hW
  exact lpo (S.length + 21) 0 _ _ _ (by omega) (by omega) (by rw [hr0]; exact hl) hW
abbrev rmL_read : Room := { frames := 8, cells := 9, slots := 46, locals := 179 }
set_option maxRecDepth 100000 in
set_option maxHeartbeats 4000000 in
theorem kL_read (l : Launch) (Dd : va_G) (Y : yT) (ad : Nat → Nat → Nat) (Vs : Nat → gX) (rs : Nat → Int32) (s0 av : Nat) (S : List Nat) (g : Nat → Int32) (hG : BT S g) (hS : S.length ≤ 140) (hr0 : rs 0 = 0) (hap : ∀ j : Nat, 20 * j < S.length → dnX4_append (Vs j) (prt S (20 * j) 0 4) (prt S (20 * j) 1 4) (prt S (20 * j) 2 4) (prt S (20 * j) 3 4) (prt S (20 * j) 4 4) = some (rs (j + 1), Vs (j + 1))) (J : Nat) (r2 : Int32) (V2 : gX) (hls : l.stackTraces = false) (hJ1 : S.length ≤ 20 * J) (hJ2 : 20 * J < S.length + 20) (hpos : (0 : Int32) ≤ rs J) (hld : dnX4_load (Vs J) (nI S.length) = some (.inr (r2, V2))) : MR l yL_read wsL_read rmL_read Dd Y [.ref (ad 0 0), .ref s0] ([(s0, .inr (8, [.ref av, .int 0, .int 0, .int 0])), (av, .inl (Y.2.1 0, S.length, .inl g))] ++ WX Y ad (Vs 0)) (fun rv w => rv = some (.int r2) ∧ w = [(s0, .inr (8, [.ref av, .int 0, .int 0, .int 0])), (av, .inl (Y.2.1 0, S.length, .inl g))] ++ WX Y ad V2) 9 46 := by
  refine MRk (cc := cL_read) (maxL := 2) (ret := (some .int)) (by decide) rfl (Nat.le_of_ble_eq_true rfl) (fun {p₀ e₀ s m args below meth c₀ A} ls Q X hin hW hl hI hV hA => ?_)
  have hx := X.x
  have hb := X.b
  have hl : lv_has ls 2 [(0, .ref (ad 0 0)), (1, .ref s0)] := hl
  refine lv_aload_n hx hb dL_read_0 rfl (lv_at hl 0 rfl) ?_
  refine lv_aload_n hx hb dL_read_1 rfl (lv_at hl 1 rfl) ?_
  refine rS_ (As := [.ref (ad 0 0), .ref s0]) (rest := []) (wc := [(s0, .inr (8, [.ref av, .int 0, .int 0, .int 0])), (av, .inl (Y.2.1 0, S.length, .inl g))] ++ WX Y ad (Vs 0)) (w9 := []) X (kL_feeds l Dd Y ad Vs rs s0 av S g hG hS hr0 hap) (va_cwS 2 X.1.2.2.2.2 gL_read_L_feeds rfl rfl rfl (by decide +kernel) ⟨(Nat.le_of_ble_eq_true rfl), (Nat.le_of_ble_eq_true rfl)⟩) hW (by rw [List.append_nil]) rfl hl.1 rfl (Nat.le_of_ble_eq_true rfl) dL_read_2 ⟨(Nat.le_of_ble_eq_true rfl), (Nat.le_of_ble_eq_true rfl)⟩ (fun rv wq H locs hp hW => ?_)
  obtain ⟨j, hj1, hj2, rfl, rfl⟩ := hp
  obtain rfl : j = J := by omega
  have hW : Wd Dd A s.heap ([(s0, .inr (8, [.ref av, .int 0, .int 0, .int 0])), (av, .inl (Y.2.1 0, S.length, .inl g))] ++ WX Y ad (Vs j)) H locs := by rw [List.append_nil] at hW; exact hW
  refine W.eq (g2 := F0 m 5 ls [.int (rs j)]) rfl ?_
  refine lv_if_ge (tgt := 13) hx hb dL_read_5 (by decide) (fun _ => ?_) (fun h => absurd hpos h)
  refine lv_aload_n hx hb dL_read_13 rfl (lv_at hl 0 rfl) ?_
  refine lv_aload_n hx hb dL_read_14 rfl (lv_at hl 1 rfl) ?_
  refine rV_ (As := []) (rest := [.ref (ad 0 0)]) (wc := [(s0, .inr (8, [.ref av, .int 0, .int 0, .int 0])), (av, .inl (Y.2.1 0, S.length, .inl g))]) (w9 := [] ++ WX Y ad (Vs j)) X (hJ0_length_8abf5 l Dd Y s0 av S.length g) (cwV 0 X.1.2.2.2.2 gL_read_J0_length_8abf5 rfl rfl rfl (by decide +kernel) ⟨(Nat.le_of_ble_eq_true rfl), (Nat.le_of_ble_eq_true rfl)⟩) hW (List.Perm.refl _) 0 8 rfl rfl rfl rfl hl.1 rfl (Nat.le_of_ble_eq_true rfl) dL_read_15 ⟨(Nat.le_of_ble_eq_true rfl), (Nat.le_of_ble_eq_true rfl)⟩ (fun rv wq H locs hp hW => ?_)
  obtain ⟨rfl, rfl⟩ := hp
  have hW : Wd Dd A s.heap ([(s0, .inr (8, [.ref av, .int 0, .int 0, .int 0])), (av, .inl (Y.2.1 0, S.length, .inl g))] ++ WX Y ad (Vs j)) H locs := hW
  refine W.eq (g2 := F0 m 18 ls [.int (nI S.length), .ref (ad 0 0)]) rfl ?_
  refine rV_ (As := [.int (nI S.length)]) (rest := []) (wc := WX Y ad (Vs j)) (w9 := [(s0, .inr (8, [.ref av, .int 0, .int 0, .int 0])), (av, .inl (Y.2.1 0, S.length, .inl g))]) X ((kX4_load l hls Dd Y ad (Vs j) (nI S.length) _ hld).r) (cwV 1 X.1.2.2.2.2 gL_read_X4_load rfl rfl rfl (by decide +kernel) ⟨(Nat.le_of_ble_eq_true rfl), (Nat.le_of_ble_eq_true rfl)⟩) hW (pmq73 _ _ _) 0 4 rfl rfl rfl rfl hl.1 rfl (Nat.le_of_ble_eq_true rfl) dL_read_18 ⟨(Nat.le_of_ble_eq_true rfl), (Nat.le_of_ble_eq_true rfl)⟩ (fun rv wq H locs hp hW => ?_)
  obtain ⟨rfl, rfl⟩ := hp
  have hW : Wd Dd A s.heap ([(s0, .inr (8, [.ref av, .int 0, .int 0, .int 0])), (av, .inl (Y.2.1 0, S.length, .inl g))] ++ WX Y ad V2) H locs := hW.permA (pmq74 _ _ _)
  refine W.eq (g2 := F0 m 21 ls [.int r2]) rfl ?_
  exact hI _ _ _ _ _ _ _ _ _ ⟨rfl, rfl⟩ rfl rfl (Nat.le_of_ble_eq_true rfl) (Nat.le_of_ble_eq_true rfl) hW dL_read_21
