theorem VO.u {L vs : List Nat} {f : Nat → va_E} {v : Nat} {e : va_E} (h : VO L vs f) (he : isV e) : VO L vs (va_up f v e) := by
  refine ⟨h.1, fun a ha => ⟨(h.2 a ha).1, ?_⟩⟩
  unfold va_up
  by_cases q : a = v
  · rw [if_pos q]; exact he
  · rw [if_neg q]; exact (h.2 a ha).2
theorem CO.u {Y : yT} {L : List Nat} {ca : Nat → Nat} {f : Nat → va_E} {v : Nat} {e : va_E} (h : CO Y L ca f) (hn : ∀ l, l < 6 → v ≠ ca l) : CO Y L ca (va_up f v e) := by
  refine ⟨fun l hl => ⟨(h.1 l hl).1, ?_⟩, h.2⟩
  unfold va_up
  rw [if_neg (fun q => hn l hl q.symm)]
  exact (h.1 l hl).2
theorem NG.u {L vs : List Nat} {f : Nat → va_E} {g : Nat → Int32} {x v : Nat} {y w : Int32} (h : NG vs f g) (hv : VO L vs f) (hx : vs[x]? = some v) : NG vs (va_up f v (vE y w)) (upd g (12 + x) y) := by
  intro p a hp
  by_cases q : a = v
  · subst q
    have e : p = x := vs_inj hv.1 hp hx
    subst e
    rw [pk_us]; unfold va_up; rw [if_pos rfl]; rfl
  · have e : p ≠ x := fun e => q (by rw [e] at hp; exact Option.some.inj (hp.symm.trans hx))
    rw [pk_un (by omega)]; unfold va_up; rw [if_neg q]; exact h p a hp
theorem NW.u {L vs : List Nat} {f : Nat → va_E} {g : Nat → Int32} {x v : Nat} {y w : Int32} (h : NW vs f g) (hv : VO L vs f) (hx : vs[x]? = some v) : NW vs (va_up f v (vE y w)) (upd g (52 + x) w) := by
  intro p a hp
  by_cases q : a = v
  · subst q
    have e : p = x := vs_inj hv.1 hp hx
    subst e
    rw [pk_us]; unfold va_up; rw [if_pos rfl]; rfl
  · have e : p ≠ x := fun e => q (by rw [e] at hp; exact Option.some.inj (hp.symm.trans hx))
    rw [pk_un (by omega)]; unfold va_up; rw [if_neg q]; exact h p a hp
theorem NG.o {vs : List Nat} {f : Nat → va_E} {g : Nat → Int32} {j : Nat} {y : Int32} (h : NG vs f g) (hj : 12 + vs.length ≤ j) : NG vs f (upd g j y) := fun p a hp => by
  have := (List.getElem?_eq_some_iff.mp hp).1
  rw [pk_un (by omega)]; exact h p a hp
theorem NW.o {vs : List Nat} {f : Nat → va_E} {g : Nat → Int32} {j : Nat} {y : Int32} (h : NW vs f g) (hj : j < 52) : NW vs f (upd g j y) := fun p a hp => by
  rw [pk_un (by omega)]; exact h p a hp
theorem up_up (f : Nat → va_E) (v : Nat) (a b : va_E) : va_up (va_up f v a) v b = va_up f v b := by
  funext x
  unfold va_up
  by_cases q : x = v
  · rw [if_pos q, if_pos q]
  · rw [if_neg q, if_neg q, if_neg q]
theorem up_at (f : Nat → va_E) (v : Nat) (a : va_E) : va_up f v a v = a := if_pos rfl
theorem mx_l {a b : Nat} (ha : a < 1000) (hb : b < 1000) : (if (0 : Int32) < nI a - nI b + 1 then nI a - nI b + 1 else 0) = nI (a + 1 - b) := by
  have e : nI a - nI b + 1 = nI (a + 1) - nI b := by
    rw [← nI_1, Int32.sub_eq_add_neg, Int32.sub_eq_add_neg, Int32.add_assoc, Int32.add_assoc, Int32.add_comm (-nI b) 1]
  have t : (nI (a + 1) - nI b).toInt = ((a + 1 : Nat) : Int) - b := pk_sub_toInt (by omega) (by omega)
  rw [e]
  rcases Nat.lt_or_ge b (a + 1) with q | q
  · rw [if_pos (by rw [Int32.lt_iff_toInt_lt, t, Int32.toInt_zero]; omega)]; exact pk_sub (by omega)
  · rw [if_neg (by rw [Int32.lt_iff_toInt_lt, t, Int32.toInt_zero]; omega), show a + 1 - b = 0 by omega]; rfl
theorem cs_z2 {F : Nat → Nat} {l : Nat} (h1 : 1 ≤ l) (h : ∀ l' : Nat, l ≤ l' → l' ≤ 5 → F l' = 0) : ∀ k : Nat, k + l ≤ 6 → cs F k = 0 := by
  intro k
  induction k with
  | zero => intro _; rfl
  | succ k ih =>
    intro hk
    rw [cs, ih (by omega), h (5 - k) (by omega) (by omega)]
abbrev rmX5_set : Room := { frames := 6, cells := 2, slots := 8, locals := 135 }
set_option maxRecDepth 100000 in
set_option maxHeartbeats 4000000 in
theorem kX5_set (l : Launch) (Dd : va_G) (Y : yT) (rb vl kl co av cv ak ck : Nat) (ca : Nat → Nat) (vs ks L : List Nat) (f : Nat → va_E) (ru mo lk wn qu bu mv mk : Int32) (x v : Nat) (y : Int32) (g : Nat → Int32) (hg : NG vs f g) (hw : NW vs f g) (hC : vs.length ≤ cv ∧ cv ≤ 600) (hvo : VO L vs f) (hO : CO Y L ca f) (h3 : vs.length ≤ 40) (hx0 : vs[x]? = some v) (hru : ru = 1) : MR l yX5_set wsX5_set rmX5_set Dd Y [.ref rb, .int (nI x), .int y] ([(rb, .inr (5, [.ref vl, .ref kl, .ref co, .int ru, .int mo, .int lk, .int wn, .int qu, .int bu])), (vl, .inr (11, [.int mv, .ref av, .int (nI vs.length)])), (av, .inl (Y.2.1 2, cv, .inr (.inr (.inr (.inr (fun k => vs[k]?)))))), (kl, .inr (11, [.int mk, .ref ak, .int (nI ks.length)])), (co, .inl (Y.2.1 4, 6, .inr (.inr (.inr (.inr (fun l => some (ca l)))))))] ++ (KT Y ak ck ks ++ va_pl L f)) (fun rv w => rv = some (.int (nuA (f v))) ∧ ∃ f' : Nat → va_E, BF Y vs L ca (upd g (12 + x) y) (va_up f v (vE y (wtA (f v)))) f' (fun l p => p ≤ x ∧ x < p + 2 ^ l) ∧ w = [(rb, .inr (5, [.ref vl, .ref kl, .ref co, .int ru, .int mo, .int lk, .int (wn + nI (cs (ov vs.length x x) 5)), .int qu, .int bu])), (vl, .inr (11, [.int mv, .ref av, .int (nI vs.length)])), (av, .inl (Y.2.1 2, cv, .inr (.inr (.inr (.inr (fun k => vs[k]?)))))), (kl, .inr (11, [.int mk, .ref ak, .int (nI ks.length)])), (co, .inl (Y.2.1 4, 6, .inr (.inr (.inr (.inr (fun l => some (ca l)))))))] ++ (KT Y ak ck ks ++ va_pl L f')) 2 8 := by
  refine MRk (cc := cX5_set) (maxL := 7) (ret := (some .int)) (by decide) rfl (Nat.le_of_ble_eq_true rfl) (fun {p₀ e₀ s m args below meth c₀ A} ls Q X hin hW hl hI hV hA => ?_)
  have hx := X.x
  have hb := X.b
  have hl : lv_has ls 7 [(0, .ref rb), (1, .int (nI x)), (2, .int y)] := hl
  have hinX5 : ∀ w ∈ wsX50, w ∈ wsX5_set := fun w h => List.mem_cons_of_mem _ (List.mem_append_left _ (List.mem_append_left _ (List.mem_append_left _ (List.mem_append_right _ h))))
  have hinX7 : ∀ w ∈ wsX70, w ∈ wsX5_set := fun w h => List.mem_cons_of_mem _ (List.mem_append_left _ (List.mem_append_left _ (List.mem_append_right _ h)))
  have hx2 := (List.getElem?_eq_some_iff.mp hx0).1
  refine lv_aload_n hx hb dX5_set_0 rfl (lv_at hl 0 rfl) ?_
  refine g_ X hinX5 hW 0 rfl rfl 0 (by decide) 1 rfl rfl rfl dX5_set_1 ?_
  refine lv_iload_n hx hb dX5_set_4 rfl (lv_at hl 1 rfl) ?_
  refine rF_ (As := [.int (nI x)]) (rest := []) (wc := [(vl, .inr (11, [.int mv, .ref av, .int (nI vs.length)])), (av, .inl (Y.2.1 2, cv, .inr (.inr (.inr (.inr (fun k => vs[k]?))))))]) (w9 := [(rb, .inr (5, [.ref vl, .ref kl, .ref co, .int ru, .int mo, .int lk, .int wn, .int qu, .int bu])), (kl, .inr (11, [.int mk, .ref ak, .int (nI ks.length)])), (co, .inl (Y.2.1 4, 6, .inr (.inr (.inr (.inr (fun l => some (ca l)))))))] ++ (KT Y ak ck ks ++ va_pl L f)) X 1 (kJx4a65c_get_915e3 l Dd Y vl av cv vs.length x mv (fun k => vs[k]?) (by omega) hC.1 (by omega)) gX5_set_Jx4a65c_get_915e3_f30Jx4a65c rfl rfl rfl (by decide +kernel) (by decide +kernel) ⟨(Nat.le_of_ble_eq_true rfl), (Nat.le_of_ble_eq_true rfl)⟩ hW (pmq27 _ _ _ _ _ _) 0 11 rfl rfl rfl rfl hl.1 rfl (Nat.le_of_ble_eq_true rfl) dX5_set_5 ⟨(Nat.le_of_ble_eq_true rfl), (Nat.le_of_ble_eq_true rfl)⟩ (fun rv wq H locs hp hW => ?_)
  obtain ⟨rfl, rfl⟩ := hp
  have hW : Wd Dd A s.heap ([(vl, .inr (11, [.int mv, .ref av, .int (nI vs.length)])), (av, .inl (Y.2.1 2, cv, .inr (.inr (.inr (.inr (fun k => vs[k]?)))))), (rb, .inr (5, [.ref vl, .ref kl, .ref co, .int ru, .int mo, .int lk, .int wn, .int qu, .int bu])), (kl, .inr (11, [.int mk, .ref ak, .int (nI ks.length)])), (co, .inl (Y.2.1 4, 6, .inr (.inr (.inr (.inr (fun l => some (ca l)))))))] ++ (KT Y ak ck ks ++ va_pl L f)) H locs := hW
  have hW : Wd Dd A s.heap ([(rb, .inr (5, [.ref vl, .ref kl, .ref co, .int ru, .int mo, .int lk, .int wn, .int qu, .int bu])), (vl, .inr (11, [.int mv, .ref av, .int (nI vs.length)])), (av, .inl (Y.2.1 2, cv, .inr (.inr (.inr (.inr (fun k => vs[k]?)))))), (kl, .inr (11, [.int mk, .ref ak, .int (nI ks.length)])), (co, .inl (Y.2.1 4, 6, .inr (.inr (.inr (.inr (fun l => some (ca l)))))))] ++ (KT Y ak ck ks ++ va_pl L f)) H locs := hW.permA (pmq28 _ _ _ _ _ _)
  refine W.eq (g2 := F0 m 10 ls [va_rf vs[x]?]) rfl ?_
  rw [hx0]
  refine W.eq (g2 := F0 m 10 ls [.ref v]) rfl ?_
  refine vCa_ X hW (hvo.at hx0) (i := 2) rfl dX5_set_10 ?_
  refine gVn_ X hinX7 hW (hvo.at hx0) dX5_set_13 ?_
  refine lv_istore_n (lv' := [(3, .int (nuA (f v))), (0, .ref rb), (1, .int (nI x)), (2, .int y)]) hx hb dX5_set_16 rfl hl (by decide) rfl (fun ls hl => ?_)
  refine lv_aload_n hx hb dX5_set_17 rfl (lv_at hl 1 rfl) ?_
  refine g_ X hinX5 hW 0 rfl rfl 0 (by decide) 1 rfl rfl rfl dX5_set_18 ?_
  refine lv_iload_n hx hb dX5_set_21 rfl (lv_at hl 2 rfl) ?_
  refine rF_ (As := [.int (nI x)]) (rest := []) (wc := [(vl, .inr (11, [.int mv, .ref av, .int (nI vs.length)])), (av, .inl (Y.2.1 2, cv, .inr (.inr (.inr (.inr (fun k => vs[k]?))))))]) (w9 := [(rb, .inr (5, [.ref vl, .ref kl, .ref co, .int ru, .int mo, .int lk, .int wn, .int qu, .int bu])), (kl, .inr (11, [.int mk, .ref ak, .int (nI ks.length)])), (co, .inl (Y.2.1 4, 6, .inr (.inr (.inr (.inr (fun l => some (ca l)))))))] ++ (KT Y ak ck ks ++ va_pl L f)) X 1 (kJx4a65c_get_915e3 l Dd Y vl av cv vs.length x mv (fun k => vs[k]?) (by omega) hC.1 (by omega)) gX5_set_Jx4a65c_get_915e3_f30Jx4a65c rfl rfl rfl (by decide +kernel) (by decide +kernel) ⟨(Nat.le_of_ble_eq_true rfl), (Nat.le_of_ble_eq_true rfl)⟩ hW (pmq27 _ _ _ _ _ _) 0 11 rfl rfl rfl rfl hl.1 rfl (Nat.le_of_ble_eq_true rfl) dX5_set_22 ⟨(Nat.le_of_ble_eq_true rfl), (Nat.le_of_ble_eq_true rfl)⟩ (fun rv wq H locs hp hW => ?_)
  obtain ⟨rfl, rfl⟩ := hp
  have hW : Wd Dd A s.heap ([(vl, .inr (11, [.int mv, .ref av, .int (nI vs.length)])), (av, .inl (Y.2.1 2, cv, .inr (.inr (.inr (.inr (fun k => vs[k]?)))))), (rb, .inr (5, [.ref vl, .ref kl, .ref co, .int ru, .int mo, .int lk, .int wn, .int qu, .int bu])), (kl, .inr (11, [.int mk, .ref ak, .int (nI ks.length)])), (co, .inl (Y.2.1 4, 6, .inr (.inr (.inr (.inr (fun l => some (ca l)))))))] ++ (KT Y ak ck ks ++ va_pl L f)) H locs := hW
  have hW : Wd Dd A s.heap ([(rb, .inr (5, [.ref vl, .ref kl, .ref co, .int ru, .int mo, .int lk, .int wn, .int qu, .int bu])), (vl, .inr (11, [.int mv, .ref av, .int (nI vs.length)])), (av, .inl (Y.2.1 2, cv, .inr (.inr (.inr (.inr (fun k => vs[k]?)))))), (kl, .inr (11, [.int mk, .ref ak, .int (nI ks.length)])), (co, .inl (Y.2.1 4, 6, .inr (.inr (.inr (.inr (fun l => some (ca l)))))))] ++ (KT Y ak ck ks ++ va_pl L f)) H locs := hW.permA (pmq28 _ _ _ _ _ _)
  refine W.eq (g2 := F0 m 27 ls [va_rf vs[x]?]) rfl ?_
  rw [hx0]
  refine W.eq (g2 := F0 m 27 ls [.ref v]) rfl ?_
  refine vCa_ X hW (hvo.at hx0) (i := 2) rfl dX5_set_27 ?_
  refine lv_iload_n hx hb dX5_set_30 rfl (lv_at hl 3 rfl) ?_
  refine pVn_ X hinX7 hW (hvo.at hx0) dX5_set_31 (fun H locs hW => ?_)
  have hW : Wd Dd A s.heap ([(rb, .inr (5, [.ref vl, .ref kl, .ref co, .int ru, .int mo, .int lk, .int wn, .int qu, .int bu])), (vl, .inr (11, [.int mv, .ref av, .int (nI vs.length)])), (av, .inl (Y.2.1 2, cv, .inr (.inr (.inr (.inr (fun k => vs[k]?)))))), (kl, .inr (11, [.int mk, .ref ak, .int (nI ks.length)])), (co, .inl (Y.2.1 4, 6, .inr (.inr (.inr (.inr (fun l => some (ca l)))))))] ++ (KT Y ak ck ks ++ va_pl L (va_up f v (vE y (wtA (f v)))))) H locs := hW
  have hv1 : VO L vs (va_up f v (vE y (wtA (f v)))) := hvo.u (isV_vE (hvo.at hx0).2.2)
  have hO1 : CO Y L ca (va_up f v (vE y (wtA (f v)))) := hO.u (hvo.ne hO (List.mem_of_getElem? hx0))
  have hg1 : NG vs (va_up f v (vE y (wtA (f v)))) (upd g (12 + x) y) := hg.u hvo hx0
  refine lv_aload_n hx hb dX5_set_34 rfl (lv_at hl 1 rfl) ?_
  refine g_ X hinX5 hW 0 rfl rfl 3 (by decide) 3 rfl rfl rfl dX5_set_35 ?_
  refine lv_iconst (v := 1) hx hb dX5_set_38 (by decide) ?_
  refine lv_icmp_ne (tgt := 125) hx hb dX5_set_39 (by decide) (fun h => absurd hru h) (fun _ => ?_)
  refine lv_iconst (v := 2) hx hb dX5_set_42 (by decide) ?_
  refine lv_istore (lv' := [(4, .int 2), (3, .int (nuA (f v))), (0, .ref rb), (1, .int (nI x)), (2, .int y)]) hx hb dX5_set_43 hl (by decide) rfl (fun ls hl => ?_)
  refine lv_iconst (v := 1) hx hb dX5_set_45 (by decide) ?_
  refine lv_istore (lv' := [(5, .int 1), (4, .int 2), (3, .int (nuA (f v))), (0, .ref rb), (1, .int (nI x)), (2, .int y)]) hx hb dX5_set_46 hl (by decide) rfl (fun ls hl => ?_)
  have lpo : ∀ (d : Nat) (lv : Nat) (cn : Nat) (f1 : Nat → va_E) (H : Heap) (locs : List Loc) (ls : Array Slot), (hlv : 1 ≤ lv ∧ lv ≤ 6) → (hcn : cn + cs (ov vs.length x x) (6 - lv) = cs (ov vs.length x x) 5) → (hB : BF Y vs L ca (upd g (12 + x) y) (va_up f v (vE y (wtA (f v)))) f1 (fun l p => l < lv ∧ p ≤ x ∧ x < p + 2 ^ l)) → (6 < d + lv) → lv_has ls 7 [(5, .int (nI lv)), (4, .int (nI (2 ^ lv))), (3, .int (nuA (f v))), (0, .ref rb), (1, .int (nI x)), (2, .int y)] → Wd Dd A s.heap ([(rb, .inr (5, [.ref vl, .ref kl, .ref co, .int ru, .int mo, .int lk, .int (wn + nI cn), .int qu, .int bu])), (vl, .inr (11, [.int mv, .ref av, .int (nI vs.length)])), (av, .inl (Y.2.1 2, cv, .inr (.inr (.inr (.inr (fun k => vs[k]?)))))), (kl, .inr (11, [.int mk, .ref ak, .int (nI ks.length)])), (co, .inl (Y.2.1 4, 6, .inr (.inr (.inr (.inr (fun l => some (ca l)))))))] ++ (KT Y ak ck ks ++ va_pl L f1)) H locs → W p₀ l e₀ rmX5_set s m args below meth c₀ H locs (0) (0) Q (F0 m 48 ls []) := by
    intro d
    induction d with
    | zero => intro lv cn f1 H locs ls hlv hcn hB hfu; exact absurd hfu (by omega)
    | succ d ih =>
      intro lv cn f1 H locs ls hlv hcn hB hfu hl hW
      have hp64 : 2 ^ lv ≤ 2 ^ 6 := Nat.pow_le_pow_right (by decide) hlv.2
      have hp0 : 0 < 2 ^ lv := Nat.two_pow_pos lv
      refine lv_iload hx hb dX5_set_48 (lv_at hl 1 rfl) ?_
      refine lv_aload_n hx hb dX5_set_50 rfl (lv_at hl 3 rfl) ?_
      refine g_ X hinX5 hW 0 rfl rfl 0 (by decide) 1 rfl rfl rfl dX5_set_51 ?_
      refine rF_ (As := []) (rest := [.int (nI (2 ^ lv))]) (wc := [(vl, .inr (11, [.int mv, .ref av, .int (nI vs.length)]))]) (w9 := [(rb, .inr (5, [.ref vl, .ref kl, .ref co, .int ru, .int mo, .int lk, .int (wn + nI cn), .int qu, .int bu])), (av, .inl (Y.2.1 2, cv, .inr (.inr (.inr (.inr (fun k => vs[k]?)))))), (kl, .inr (11, [.int mk, .ref ak, .int (nI ks.length)])), (co, .inl (Y.2.1 4, 6, .inr (.inr (.inr (.inr (fun l => some (ca l)))))))] ++ (KT Y ak ck ks ++ va_pl L f1)) X 0 (kJx4a65c_size_8abf5 l Dd Y vl mv (nI vs.length) (.ref av)) gX5_set_Jx4a65c_size_8abf5_f24Jx4a65c rfl rfl rfl (by decide +kernel) (by decide +kernel) ⟨(Nat.le_of_ble_eq_true rfl), (Nat.le_of_ble_eq_true rfl)⟩ hW (pmq25 _ _ _ _ _ _) 0 11 rfl rfl rfl rfl hl.1 rfl (Nat.le_of_ble_eq_true rfl) dX5_set_54 ⟨(Nat.le_of_ble_eq_true rfl), (Nat.le_of_ble_eq_true rfl)⟩ (fun rv wq H locs hp hW => ?_)
      obtain ⟨rfl, rfl⟩ := hp
      have hW : Wd Dd A s.heap ([(vl, .inr (11, [.int mv, .ref av, .int (nI vs.length)])), (rb, .inr (5, [.ref vl, .ref kl, .ref co, .int ru, .int mo, .int lk, .int (wn + nI cn), .int qu, .int bu])), (av, .inl (Y.2.1 2, cv, .inr (.inr (.inr (.inr (fun k => vs[k]?)))))), (kl, .inr (11, [.int mk, .ref ak, .int (nI ks.length)])), (co, .inl (Y.2.1 4, 6, .inr (.inr (.inr (.inr (fun l => some (ca l)))))))] ++ (KT Y ak ck ks ++ va_pl L f1)) H locs := hW
      have hW : Wd Dd A s.heap ([(rb, .inr (5, [.ref vl, .ref kl, .ref co, .int ru, .int mo, .int lk, .int (wn + nI cn), .int qu, .int bu])), (vl, .inr (11, [.int mv, .ref av, .int (nI vs.length)])), (av, .inl (Y.2.1 2, cv, .inr (.inr (.inr (.inr (fun k => vs[k]?)))))), (kl, .inr (11, [.int mk, .ref ak, .int (nI ks.length)])), (co, .inl (Y.2.1 4, 6, .inr (.inr (.inr (.inr (fun l => some (ca l)))))))] ++ (KT Y ak ck ks ++ va_pl L f1)) H locs := hW.permA (pmq26 _ _ _ _ _ _)
      refine W.eq (g2 := F0 m 59 ls [.int (nI vs.length), .int (nI (2 ^ lv))]) rfl ?_
      refine lv_icmp_gt (tgt := 123) hx hb dX5_set_59 (by decide) (fun cq => ?_) (fun cq => ?_)
      · have hgt : vs.length < 2 ^ lv := (nI_ltI (by omega) (by omega)).mp cq
        have e : cn = cs (ov vs.length x x) 5 := by rw [← hcn, cs_z2 hlv.1 (fun l q _ => by have : 2 ^ lv ≤ 2 ^ l := Nat.pow_le_pow_right (by decide) q; unfold ov; omega) (6 - lv) (by omega), Nat.add_zero]
        refine lv_iload_n hx hb dX5_set_123 rfl (lv_at hl 2 rfl) ?_
        exact hI _ _ _ _ _ _ _ _ _ ⟨rfl, f1, hB.mono (fun l p q1 q5 q2 q3 => ⟨by rcases Nat.lt_or_ge l lv with q | q; exact q; have : 2 ^ lv ≤ 2 ^ l := Nat.pow_le_pow_right (by decide) q; exact absurd q2 (by omega), q3⟩) (fun l p q => q.2), by rw [e]⟩ rfl rfl (Nat.le_of_ble_eq_true rfl) (Nat.le_of_ble_eq_true rfl) hW dX5_set_124
      · have hle : 2 ^ lv ≤ vs.length := Nat.le_of_not_lt (fun h => cq ((nI_ltI (by omega) (by omega)).mpr h))
        have h5 : lv ≤ 5 := pw_5 hle h3
        refine lv_iconst (v := 0) hx hb dX5_set_62 (by decide) ?_
        refine lv_iload_n hx hb dX5_set_63 rfl (lv_at hl 4 rfl) ?_
        refine lv_iload hx hb dX5_set_64 (lv_at hl 1 rfl) ?_
        refine lv_isub hx hb dX5_set_66 ?_
        refine lv_iconst (v := 1) hx hb dX5_set_67 (by decide) ?_
        refine lv_iadd hx hb dX5_set_68 ?_
        refine max_ X hl.1 4 5 6 7 rfl rfl rfl rfl ⟨(Nat.le_of_ble_eq_true rfl), (Nat.le_of_ble_eq_true rfl)⟩ (Nat.le_of_ble_eq_true rfl) ⟨(Nat.le_of_ble_eq_true rfl), (Nat.le_of_ble_eq_true rfl)⟩ dX5_set_69 ?_
        rw [mx_l (by omega) (by omega)]
        refine lv_istore (lv' := [(6, .int (nI (x + 1 - 2 ^ lv))), (5, .int (nI lv)), (4, .int (nI (2 ^ lv))), (3, .int (nuA (f v))), (0, .ref rb), (1, .int (nI x)), (2, .int y)]) hx hb dX5_set_72 hl (by decide) rfl (fun ls hl => ?_)
        have lpi : ∀ (d : Nat) (pl : Nat) (ci : Nat) (f2 : Nat → va_E) (H : Heap) (locs : List Loc) (ls : Array Slot), (hpl : x + 1 - 2 ^ lv ≤ pl ∧ pl ≤ (min (x + 1) (vs.length + 1 - 2 ^ lv))) → (hci : ci + ((min (x + 1) (vs.length + 1 - 2 ^ lv)) - pl) + cs (ov vs.length x x) (5 - lv) = cs (ov vs.length x x) 5) → (hB2 : BF Y vs L ca (upd g (12 + x) y) (va_up f v (vE y (wtA (f v)))) f2 (fun l p => (l < lv ∧ p ≤ x ∧ x < p + 2 ^ l) ∨ (l = lv ∧ p < pl ∧ p ≤ x ∧ x < p + 2 ^ l))) → (x + 1 < d + pl) → lv_has ls 7 [(6, .int (nI pl)), (5, .int (nI lv)), (4, .int (nI (2 ^ lv))), (3, .int (nuA (f v))), (0, .ref rb), (1, .int (nI x)), (2, .int y)] → Wd Dd A s.heap ([(rb, .inr (5, [.ref vl, .ref kl, .ref co, .int ru, .int mo, .int lk, .int (wn + nI ci), .int qu, .int bu])), (vl, .inr (11, [.int mv, .ref av, .int (nI vs.length)])), (av, .inl (Y.2.1 2, cv, .inr (.inr (.inr (.inr (fun k => vs[k]?)))))), (kl, .inr (11, [.int mk, .ref ak, .int (nI ks.length)])), (co, .inl (Y.2.1 4, 6, .inr (.inr (.inr (.inr (fun l => some (ca l)))))))] ++ (KT Y ak ck ks ++ va_pl L f2)) H locs → W p₀ l e₀ rmX5_set s m args below meth c₀ H locs (0) (0) Q (F0 m 74 ls []) := by
          intro d
          induction d with
          | zero => intro pl ci f2 H locs ls hpl hci hB2 hfu; exact absurd hfu (by omega)
          | succ d ihi =>
            intro pl ci f2 H locs ls hpl hci hB2 hfu hl hW
            refine lv_iload hx hb dX5_set_74 (lv_at hl 0 rfl) ?_
            refine lv_iload_n hx hb dX5_set_76 rfl (lv_at hl 5 rfl) ?_
            refine lv_icmp_gt (tgt := 111) hx hb dX5_set_77 (by decide) (fun cr => ?_) (fun cr => ?_)
            · have hend : pl = (min (x + 1) (vs.length + 1 - 2 ^ lv)) := by have := (nI_ltI (by omega) (by omega)).mp cr; omega
              refine lv_iload hx hb dX5_set_111 (lv_at hl 2 rfl) ?_
              refine lv_iconst (v := 2) hx hb dX5_set_113 (by decide) ?_
              refine lv_imul hx hb dX5_set_114 ?_
              rw [nI_dbl, ← Nat.pow_succ]
              refine lv_istore (lv' := [(4, .int (nI (2 ^ (lv + 1)))), (6, .int (nI pl)), (5, .int (nI lv)), (3, .int (nuA (f v))), (0, .ref rb), (1, .int (nI x)), (2, .int y)]) hx hb dX5_set_115 hl (by decide) rfl (fun ls hl => ?_)
              refine lv_iinc (v := (nI lv) + 1) (lv' := [(5, .int ((nI lv) + 1)), (4, .int (nI (2 ^ (lv + 1)))), (6, .int (nI pl)), (3, .int (nuA (f v))), (0, .ref rb), (1, .int (nI x)), (2, .int y)]) hx hb dX5_set_117 hl (k := 2) rfl rfl (by decide) rfl (fun ls hl => ?_)
              rw [nI_1] at hl
              refine lv_goto (tgt := 48) hx hb dX5_set_120 (by decide) ?_
              have hl : lv_has ls 7 [(5, .int (nI (lv + 1))), (4, .int (nI (2 ^ (lv + 1)))), (3, .int (nuA (f v))), (0, .ref rb), (1, .int (nI x)), (2, .int y)] := lv_sub hl [0, 1, 3, 4, 5, 6] rfl
              exact ih (lv + 1) ci f2 _ _ _ ⟨by omega, by omega⟩ (by rw [← hci, show 6 - (lv + 1) = 5 - lv by omega]; omega) (hB2.mono (fun l p q1 q5 q2 q3 => by have q3 : l < lv + 1 ∧ p ≤ x ∧ x < p + 2 ^ l := q3; rcases Nat.lt_or_ge l lv with q | q; exact Or.inl ⟨q, q3.2⟩; have e : l = lv := (by omega); rw [e] at q2; exact Or.inr ⟨e, (by omega), q3.2⟩) (fun l p q => by rcases q with ⟨q, r⟩ | ⟨q, r, t⟩; exact ⟨Nat.lt_succ_of_lt q, r⟩; exact ⟨by omega, t⟩)) (by omega) hl hW
            · have hpx : pl ≤ x := Nat.le_of_not_lt (fun h => cr ((nI_ltI (by omega) (by omega)).mpr h))
              refine lv_iload hx hb dX5_set_80 (lv_at hl 0 rfl) ?_
              refine lv_iload hx hb dX5_set_82 (lv_at hl 2 rfl) ?_
              refine lv_iadd hx hb dX5_set_84 ?_
              rw [nI_add]
              refine lv_aload_n hx hb dX5_set_85 rfl (lv_at hl 4 rfl) ?_
              refine g_ X hinX5 hW 0 rfl rfl 0 (by decide) 1 rfl rfl rfl dX5_set_86 ?_
              refine rF_ (As := []) (rest := [.int (nI (pl + 2 ^ lv))]) (wc := [(vl, .inr (11, [.int mv, .ref av, .int (nI vs.length)]))]) (w9 := [(rb, .inr (5, [.ref vl, .ref kl, .ref co, .int ru, .int mo, .int lk, .int (wn + nI ci), .int qu, .int bu])), (av, .inl (Y.2.1 2, cv, .inr (.inr (.inr (.inr (fun k => vs[k]?)))))), (kl, .inr (11, [.int mk, .ref ak, .int (nI ks.length)])), (co, .inl (Y.2.1 4, 6, .inr (.inr (.inr (.inr (fun l => some (ca l)))))))] ++ (KT Y ak ck ks ++ va_pl L f2)) X 0 (kJx4a65c_size_8abf5 l Dd Y vl mv (nI vs.length) (.ref av)) gX5_set_Jx4a65c_size_8abf5_f24Jx4a65c rfl rfl rfl (by decide +kernel) (by decide +kernel) ⟨(Nat.le_of_ble_eq_true rfl), (Nat.le_of_ble_eq_true rfl)⟩ hW (pmq25 _ _ _ _ _ _) 0 11 rfl rfl rfl rfl hl.1 rfl (Nat.le_of_ble_eq_true rfl) dX5_set_89 ⟨(Nat.le_of_ble_eq_true rfl), (Nat.le_of_ble_eq_true rfl)⟩ (fun rv wq H locs hp hW => ?_)
              obtain ⟨rfl, rfl⟩ := hp
              have hW : Wd Dd A s.heap ([(vl, .inr (11, [.int mv, .ref av, .int (nI vs.length)])), (rb, .inr (5, [.ref vl, .ref kl, .ref co, .int ru, .int mo, .int lk, .int (wn + nI ci), .int qu, .int bu])), (av, .inl (Y.2.1 2, cv, .inr (.inr (.inr (.inr (fun k => vs[k]?)))))), (kl, .inr (11, [.int mk, .ref ak, .int (nI ks.length)])), (co, .inl (Y.2.1 4, 6, .inr (.inr (.inr (.inr (fun l => some (ca l)))))))] ++ (KT Y ak ck ks ++ va_pl L f2)) H locs := hW
              have hW : Wd Dd A s.heap ([(rb, .inr (5, [.ref vl, .ref kl, .ref co, .int ru, .int mo, .int lk, .int (wn + nI ci), .int qu, .int bu])), (vl, .inr (11, [.int mv, .ref av, .int (nI vs.length)])), (av, .inl (Y.2.1 2, cv, .inr (.inr (.inr (.inr (fun k => vs[k]?)))))), (kl, .inr (11, [.int mk, .ref ak, .int (nI ks.length)])), (co, .inl (Y.2.1 4, 6, .inr (.inr (.inr (.inr (fun l => some (ca l)))))))] ++ (KT Y ak ck ks ++ va_pl L f2)) H locs := hW.permA (pmq26 _ _ _ _ _ _)
              refine W.eq (g2 := F0 m 94 ls [.int (nI vs.length), .int (nI (pl + 2 ^ lv))]) rfl ?_
              refine lv_icmp_gt (tgt := 111) hx hb dX5_set_94 (by decide) (fun cs_ => ?_) (fun cs_ => ?_)
              · have hend : pl = (min (x + 1) (vs.length + 1 - 2 ^ lv)) := by have := (nI_ltI (by omega) (by omega)).mp cs_; omega
                refine lv_iload hx hb dX5_set_111 (lv_at hl 2 rfl) ?_
                refine lv_iconst (v := 2) hx hb dX5_set_113 (by decide) ?_
                refine lv_imul hx hb dX5_set_114 ?_
                rw [nI_dbl, ← Nat.pow_succ]
                refine lv_istore (lv' := [(4, .int (nI (2 ^ (lv + 1)))), (6, .int (nI pl)), (5, .int (nI lv)), (3, .int (nuA (f v))), (0, .ref rb), (1, .int (nI x)), (2, .int y)]) hx hb dX5_set_115 hl (by decide) rfl (fun ls hl => ?_)
                refine lv_iinc (v := (nI lv) + 1) (lv' := [(5, .int ((nI lv) + 1)), (4, .int (nI (2 ^ (lv + 1)))), (6, .int (nI pl)), (3, .int (nuA (f v))), (0, .ref rb), (1, .int (nI x)), (2, .int y)]) hx hb dX5_set_117 hl (k := 2) rfl rfl (by decide) rfl (fun ls hl => ?_)
                rw [nI_1] at hl
                refine lv_goto (tgt := 48) hx hb dX5_set_120 (by decide) ?_
                have hl : lv_has ls 7 [(5, .int (nI (lv + 1))), (4, .int (nI (2 ^ (lv + 1)))), (3, .int (nuA (f v))), (0, .ref rb), (1, .int (nI x)), (2, .int y)] := lv_sub hl [0, 1, 3, 4, 5, 6] rfl
                exact ih (lv + 1) ci f2 _ _ _ ⟨by omega, by omega⟩ (by rw [← hci, show 6 - (lv + 1) = 5 - lv by omega]; omega) (hB2.mono (fun l p q1 q5 q2 q3 => by have q3 : l < lv + 1 ∧ p ≤ x ∧ x < p + 2 ^ l := q3; rcases Nat.lt_or_ge l lv with q | q; exact Or.inl ⟨q, q3.2⟩; have e : l = lv := (by omega); rw [e] at q2; exact Or.inr ⟨e, (by omega), q3.2⟩) (fun l p q => by rcases q with ⟨q, r⟩ | ⟨q, r, t⟩; exact ⟨Nat.lt_succ_of_lt q, r⟩; exact ⟨by omega, t⟩)) (by omega) hl hW
              · have hin : pl + 2 ^ lv ≤ vs.length := Nat.le_of_not_lt (fun h => cs_ ((nI_ltI (by omega) (by omega)).mpr h))
                refine lv_aload_n hx hb dX5_set_97 rfl (lv_at hl 4 rfl) ?_
                refine lv_iload hx hb dX5_set_98 (lv_at hl 1 rfl) ?_
                refine lv_iload hx hb dX5_set_100 (lv_at hl 0 rfl) ?_
                refine rV_ (As := [.int (nI lv), .int (nI pl)]) (rest := []) (wc := [(rb, .inr (5, [.ref vl, .ref kl, .ref co, .int ru, .int mo, .int lk, .int (wn + nI ci), .int qu, .int bu])), (vl, .inr (11, [.int mv, .ref av, .int (nI vs.length)])), (av, .inl (Y.2.1 2, cv, .inr (.inr (.inr (.inr (fun k => vs[k]?)))))), (kl, .inr (11, [.int mk, .ref ak, .int (nI ks.length)])), (co, .inl (Y.2.1 4, 6, .inr (.inr (.inr (.inr (fun l => some (ca l)))))))] ++ (KT Y ak ck ks ++ va_pl L f2)) (w9 := []) X (kX5_write l Dd Y rb vl kl co av cv ak ck ca vs ks L f2 ru mo lk (wn + nI ci) qu bu mv mk lv pl (upd g (12 + x) y) (hB2.ng hv1 hO1 hg1) hC (hB2.vo hv1 hO1) hB2.2.1 ⟨hlv.1, h5⟩ hin h3) (cwV 2 X.1.2.2.2.2 gX5_set_X5_write rfl rfl rfl (by decide +kernel) ⟨(Nat.le_of_ble_eq_true rfl), (Nat.le_of_ble_eq_true rfl)⟩) hW (by rw [List.append_nil]) 0 5 rfl rfl rfl rfl hl.1 rfl (Nat.le_of_ble_eq_true rfl) dX5_set_102 ⟨(Nat.le_of_ble_eq_true rfl), (Nat.le_of_ble_eq_true rfl)⟩ (fun rv wq H locs hp hW => ?_)
                obtain ⟨w9, hw9, rfl, rfl⟩ := hp
                have hW : Wd Dd A s.heap ([(rb, .inr (5, [.ref vl, .ref kl, .ref co, .int ru, .int mo, .int lk, .int (wn + nI ci + 1), .int qu, .int bu])), (vl, .inr (11, [.int mv, .ref av, .int (nI vs.length)])), (av, .inl (Y.2.1 2, cv, .inr (.inr (.inr (.inr (fun k => vs[k]?)))))), (kl, .inr (11, [.int mk, .ref ak, .int (nI ks.length)])), (co, .inl (Y.2.1 4, 6, .inr (.inr (.inr (.inr (fun l => some (ca l)))))))] ++ (KT Y ak ck ks ++ va_pl L (va_up f2 (ca lv) (cE Y (va_up (clA (f2 (ca lv))) pl (some w9)))))) H locs := by rw [List.append_nil] at hW; exact hW
                refine W.eq (g2 := F0 m 105 ls []) rfl ?_
                rw [wn_1] at hW
                refine lv_iinc (v := (nI pl) + 1) (lv' := [(6, .int ((nI pl) + 1)), (5, .int (nI lv)), (4, .int (nI (2 ^ lv))), (3, .int (nuA (f v))), (0, .ref rb), (1, .int (nI x)), (2, .int y)]) hx hb dX5_set_105 hl (k := 0) rfl rfl (by decide) rfl (fun ls hl => ?_)
                rw [nI_1] at hl
                refine lv_goto (tgt := 74) hx hb dX5_set_108 (by decide) ?_
                exact ihi (pl + 1) (ci + 1) _ _ _ _ ⟨by omega, by omega⟩ (by omega) ((hB2.w (by omega) hw9).mono (fun l p q1 q5 q2 q3 => by rcases q3 with q | ⟨q, r, z⟩; exact Or.inr (Or.inl q); rcases Nat.lt_or_ge p pl with z2 | z2; exact Or.inr (Or.inr ⟨q, z2, z⟩); exact Or.inl ⟨q, (by omega)⟩) (fun l p q => by rcases q with ⟨q, r⟩ | q | ⟨q, r, z⟩; exact Or.inr ⟨q, (by omega), (by rw [q, r]; omega)⟩; exact Or.inl q; exact Or.inr ⟨q, (by omega), z⟩)) (by omega) hl hW
        exact lpi (x + 2) (x + 1 - 2 ^ lv) cn f1 _ _ _ ⟨Nat.le_refl _, by omega⟩ (by rw [← hcn, cs_s _ hlv.1 h5]; unfold ov; omega) (hB.mono (fun l p q1 q5 q2 q3 => by rcases q3 with q | ⟨q, r, z⟩; exact q; rw [q] at z; exact absurd r (by omega)) (fun l p q => Or.inl q)) (by omega) hl hW
  exact lpo 7 1 0 (va_up f v (vE y (wtA (f v)))) _ _ _ ⟨Nat.le_refl _, by decide⟩ (by rw [Nat.zero_add]) (BF.rfl_ hO1 (fun l p q h => by have h : l < 1 ∧ p ≤ x ∧ x < p + 2 ^ l := h; omega)) (by omega) hl (by rw [show wn + nI 0 = wn from Int32.add_zero wn]; exact hW)
set_option maxRecDepth 100000 in
set_option maxHeartbeats 4000000 in
theorem kSet0 (l : Launch) (Dd : va_G) (Y : yT) (rb vl kl co av cv ak ck : Nat) (ca : Nat → Nat) (vs ks L : List Nat) (f : Nat → va_E) (ru mo lk wn qu bu mv mk : Int32) (x v : Nat) (y : Int32) (g : Nat → Int32) (hg : NG vs f g) (hw : NW vs f g) (hC : vs.length ≤ cv ∧ cv ≤ 600) (hvo : VO L vs f) (hO : CO Y L ca f) (h3 : vs.length ≤ 40) (hx0 : vs[x]? = some v) (hru : ¬ ru = 1) (h2 : ¬ ru = 2) : MR l yX5_set wsX5_set rmX5_set Dd Y [.ref rb, .int (nI x), .int y] ([(rb, .inr (5, [.ref vl, .ref kl, .ref co, .int ru, .int mo, .int lk, .int wn, .int qu, .int bu])), (vl, .inr (11, [.int mv, .ref av, .int (nI vs.length)])), (av, .inl (Y.2.1 2, cv, .inr (.inr (.inr (.inr (fun k => vs[k]?)))))), (kl, .inr (11, [.int mk, .ref ak, .int (nI ks.length)])), (co, .inl (Y.2.1 4, 6, .inr (.inr (.inr (.inr (fun l => some (ca l)))))))] ++ (KT Y ak ck ks ++ va_pl L f)) (fun rv w => rv = some (.int (nuA (f v))) ∧ w = [(rb, .inr (5, [.ref vl, .ref kl, .ref co, .int ru, .int mo, .int lk, .int wn, .int qu, .int bu])), (vl, .inr (11, [.int mv, .ref av, .int (nI vs.length)])), (av, .inl (Y.2.1 2, cv, .inr (.inr (.inr (.inr (fun k => vs[k]?)))))), (kl, .inr (11, [.int mk, .ref ak, .int (nI ks.length)])), (co, .inl (Y.2.1 4, 6, .inr (.inr (.inr (.inr (fun l => some (ca l)))))))] ++ (KT Y ak ck ks ++ va_pl L (va_up f v (vE y 1)))) 2 8 := by
  refine MRk (cc := cX5_set) (maxL := 7) (ret := (some .int)) (by decide) rfl (Nat.le_of_ble_eq_true rfl) (fun {p₀ e₀ s m args below meth c₀ A} ls Q X hin hW hl hI hV hA => ?_)
  have hx := X.x
  have hb := X.b
  have hl : lv_has ls 7 [(0, .ref rb), (1, .int (nI x)), (2, .int y)] := hl
  have hinX5 : ∀ w ∈ wsX50, w ∈ wsX5_set := fun w h => List.mem_cons_of_mem _ (List.mem_append_left _ (List.mem_append_left _ (List.mem_append_left _ (List.mem_append_right _ h))))
  have hinX7 : ∀ w ∈ wsX70, w ∈ wsX5_set := fun w h => List.mem_cons_of_mem _ (List.mem_append_left _ (List.mem_append_left _ (List.mem_append_right _ h)))
  have hx2 := (List.getElem?_eq_some_iff.mp hx0).1
  refine lv_aload_n hx hb dX5_set_0 rfl (lv_at hl 0 rfl) ?_
  refine g_ X hinX5 hW 0 rfl rfl 0 (by decide) 1 rfl rfl rfl dX5_set_1 ?_
  refine lv_iload_n hx hb dX5_set_4 rfl (lv_at hl 1 rfl) ?_
  refine rF_ (As := [.int (nI x)]) (rest := []) (wc := [(vl, .inr (11, [.int mv, .ref av, .int (nI vs.length)])), (av, .inl (Y.2.1 2, cv, .inr (.inr (.inr (.inr (fun k => vs[k]?))))))]) (w9 := [(rb, .inr (5, [.ref vl, .ref kl, .ref co, .int ru, .int mo, .int lk, .int wn, .int qu, .int bu])), (kl, .inr (11, [.int mk, .ref ak, .int (nI ks.length)])), (co, .inl (Y.2.1 4, 6, .inr (.inr (.inr (.inr (fun l => some (ca l)))))))] ++ (KT Y ak ck ks ++ va_pl L f)) X 1 (kJx4a65c_get_915e3 l Dd Y vl av cv vs.length x mv (fun k => vs[k]?) (by omega) hC.1 (by omega)) gX5_set_Jx4a65c_get_915e3_f30Jx4a65c rfl rfl rfl (by decide +kernel) (by decide +kernel) ⟨(Nat.le_of_ble_eq_true rfl), (Nat.le_of_ble_eq_true rfl)⟩ hW (pmq27 _ _ _ _ _ _) 0 11 rfl rfl rfl rfl hl.1 rfl (Nat.le_of_ble_eq_true rfl) dX5_set_5 ⟨(Nat.le_of_ble_eq_true rfl), (Nat.le_of_ble_eq_true rfl)⟩ (fun rv wq H locs hp hW => ?_)
  obtain ⟨rfl, rfl⟩ := hp
  have hW : Wd Dd A s.heap ([(vl, .inr (11, [.int mv, .ref av, .int (nI vs.length)])), (av, .inl (Y.2.1 2, cv, .inr (.inr (.inr (.inr (fun k => vs[k]?)))))), (rb, .inr (5, [.ref vl, .ref kl, .ref co, .int ru, .int mo, .int lk, .int wn, .int qu, .int bu])), (kl, .inr (11, [.int mk, .ref ak, .int (nI ks.length)])), (co, .inl (Y.2.1 4, 6, .inr (.inr (.inr (.inr (fun l => some (ca l)))))))] ++ (KT Y ak ck ks ++ va_pl L f)) H locs := hW
  have hW : Wd Dd A s.heap ([(rb, .inr (5, [.ref vl, .ref kl, .ref co, .int ru, .int mo, .int lk, .int wn, .int qu, .int bu])), (vl, .inr (11, [.int mv, .ref av, .int (nI vs.length)])), (av, .inl (Y.2.1 2, cv, .inr (.inr (.inr (.inr (fun k => vs[k]?)))))), (kl, .inr (11, [.int mk, .ref ak, .int (nI ks.length)])), (co, .inl (Y.2.1 4, 6, .inr (.inr (.inr (.inr (fun l => some (ca l)))))))] ++ (KT Y ak ck ks ++ va_pl L f)) H locs := hW.permA (pmq28 _ _ _ _ _ _)
  refine W.eq (g2 := F0 m 10 ls [va_rf vs[x]?]) rfl ?_
  rw [hx0]
  refine W.eq (g2 := F0 m 10 ls [.ref v]) rfl ?_
  refine vCa_ X hW (hvo.at hx0) (i := 2) rfl dX5_set_10 ?_
  refine gVn_ X hinX7 hW (hvo.at hx0) dX5_set_13 ?_
  refine lv_istore_n (lv' := [(3, .int (nuA (f v))), (0, .ref rb), (1, .int (nI x)), (2, .int y)]) hx hb dX5_set_16 rfl hl (by decide) rfl (fun ls hl => ?_)
  refine lv_aload_n hx hb dX5_set_17 rfl (lv_at hl 1 rfl) ?_
  refine g_ X hinX5 hW 0 rfl rfl 0 (by decide) 1 rfl rfl rfl dX5_set_18 ?_
  refine lv_iload_n hx hb dX5_set_21 rfl (lv_at hl 2 rfl) ?_
  refine rF_ (As := [.int (nI x)]) (rest := []) (wc := [(vl, .inr (11, [.int mv, .ref av, .int (nI vs.length)])), (av, .inl (Y.2.1 2, cv, .inr (.inr (.inr (.inr (fun k => vs[k]?))))))]) (w9 := [(rb, .inr (5, [.ref vl, .ref kl, .ref co, .int ru, .int mo, .int lk, .int wn, .int qu, .int bu])), (kl, .inr (11, [.int mk, .ref ak, .int (nI ks.length)])), (co, .inl (Y.2.1 4, 6, .inr (.inr (.inr (.inr (fun l => some (ca l)))))))] ++ (KT Y ak ck ks ++ va_pl L f)) X 1 (kJx4a65c_get_915e3 l Dd Y vl av cv vs.length x mv (fun k => vs[k]?) (by omega) hC.1 (by omega)) gX5_set_Jx4a65c_get_915e3_f30Jx4a65c rfl rfl rfl (by decide +kernel) (by decide +kernel) ⟨(Nat.le_of_ble_eq_true rfl), (Nat.le_of_ble_eq_true rfl)⟩ hW (pmq27 _ _ _ _ _ _) 0 11 rfl rfl rfl rfl hl.1 rfl (Nat.le_of_ble_eq_true rfl) dX5_set_22 ⟨(Nat.le_of_ble_eq_true rfl), (Nat.le_of_ble_eq_true rfl)⟩ (fun rv wq H locs hp hW => ?_)
  obtain ⟨rfl, rfl⟩ := hp
  have hW : Wd Dd A s.heap ([(vl, .inr (11, [.int mv, .ref av, .int (nI vs.length)])), (av, .inl (Y.2.1 2, cv, .inr (.inr (.inr (.inr (fun k => vs[k]?)))))), (rb, .inr (5, [.ref vl, .ref kl, .ref co, .int ru, .int mo, .int lk, .int wn, .int qu, .int bu])), (kl, .inr (11, [.int mk, .ref ak, .int (nI ks.length)])), (co, .inl (Y.2.1 4, 6, .inr (.inr (.inr (.inr (fun l => some (ca l)))))))] ++ (KT Y ak ck ks ++ va_pl L f)) H locs := hW
  have hW : Wd Dd A s.heap ([(rb, .inr (5, [.ref vl, .ref kl, .ref co, .int ru, .int mo, .int lk, .int wn, .int qu, .int bu])), (vl, .inr (11, [.int mv, .ref av, .int (nI vs.length)])), (av, .inl (Y.2.1 2, cv, .inr (.inr (.inr (.inr (fun k => vs[k]?)))))), (kl, .inr (11, [.int mk, .ref ak, .int (nI ks.length)])), (co, .inl (Y.2.1 4, 6, .inr (.inr (.inr (.inr (fun l => some (ca l)))))))] ++ (KT Y ak ck ks ++ va_pl L f)) H locs := hW.permA (pmq28 _ _ _ _ _ _)
  refine W.eq (g2 := F0 m 27 ls [va_rf vs[x]?]) rfl ?_
  rw [hx0]
  refine W.eq (g2 := F0 m 27 ls [.ref v]) rfl ?_
  refine vCa_ X hW (hvo.at hx0) (i := 2) rfl dX5_set_27 ?_
  refine lv_iload_n hx hb dX5_set_30 rfl (lv_at hl 3 rfl) ?_
  refine pVn_ X hinX7 hW (hvo.at hx0) dX5_set_31 (fun H locs hW => ?_)
  have hW : Wd Dd A s.heap ([(rb, .inr (5, [.ref vl, .ref kl, .ref co, .int ru, .int mo, .int lk, .int wn, .int qu, .int bu])), (vl, .inr (11, [.int mv, .ref av, .int (nI vs.length)])), (av, .inl (Y.2.1 2, cv, .inr (.inr (.inr (.inr (fun k => vs[k]?)))))), (kl, .inr (11, [.int mk, .ref ak, .int (nI ks.length)])), (co, .inl (Y.2.1 4, 6, .inr (.inr (.inr (.inr (fun l => some (ca l)))))))] ++ (KT Y ak ck ks ++ va_pl L (va_up f v (vE y (wtA (f v)))))) H locs := hW
  have hv1 : VO L vs (va_up f v (vE y (wtA (f v)))) := hvo.u (isV_vE (hvo.at hx0).2.2)
  have hO1 : CO Y L ca (va_up f v (vE y (wtA (f v)))) := hO.u (hvo.ne hO (List.mem_of_getElem? hx0))
  have hg1 : NG vs (va_up f v (vE y (wtA (f v)))) (upd g (12 + x) y) := hg.u hvo hx0
  refine lv_aload_n hx hb dX5_set_34 rfl (lv_at hl 1 rfl) ?_
  refine g_ X hinX5 hW 0 rfl rfl 3 (by decide) 3 rfl rfl rfl dX5_set_35 ?_
  refine lv_iconst (v := 1) hx hb dX5_set_38 (by decide) ?_
  refine lv_icmp_ne (tgt := 125) hx hb dX5_set_39 (by decide) (fun _ => ?_) (fun h => absurd h hru)
  refine lv_aload_n hx hb dX5_set_125 rfl (lv_at hl 1 rfl) ?_
  refine g_ X hinX5 hW 0 rfl rfl 0 (by decide) 1 rfl rfl rfl dX5_set_126 ?_
  refine lv_iload_n hx hb dX5_set_129 rfl (lv_at hl 2 rfl) ?_
  refine rF_ (As := [.int (nI x)]) (rest := []) (wc := [(vl, .inr (11, [.int mv, .ref av, .int (nI vs.length)])), (av, .inl (Y.2.1 2, cv, .inr (.inr (.inr (.inr (fun k => vs[k]?))))))]) (w9 := [(rb, .inr (5, [.ref vl, .ref kl, .ref co, .int ru, .int mo, .int lk, .int wn, .int qu, .int bu])), (kl, .inr (11, [.int mk, .ref ak, .int (nI ks.length)])), (co, .inl (Y.2.1 4, 6, .inr (.inr (.inr (.inr (fun l => some (ca l)))))))] ++ (KT Y ak ck ks ++ va_pl L (va_up f v (vE y (wtA (f v)))))) X 1 (kJx4a65c_get_915e3 l Dd Y vl av cv vs.length x mv (fun k => vs[k]?) (by omega) hC.1 (by omega)) gX5_set_Jx4a65c_get_915e3_f30Jx4a65c rfl rfl rfl (by decide +kernel) (by decide +kernel) ⟨(Nat.le_of_ble_eq_true rfl), (Nat.le_of_ble_eq_true rfl)⟩ hW (pmq27 _ _ _ _ _ _) 0 11 rfl rfl rfl rfl hl.1 rfl (Nat.le_of_ble_eq_true rfl) dX5_set_130 ⟨(Nat.le_of_ble_eq_true rfl), (Nat.le_of_ble_eq_true rfl)⟩ (fun rv wq H locs hp hW => ?_)
  obtain ⟨rfl, rfl⟩ := hp
  have hW : Wd Dd A s.heap ([(vl, .inr (11, [.int mv, .ref av, .int (nI vs.length)])), (av, .inl (Y.2.1 2, cv, .inr (.inr (.inr (.inr (fun k => vs[k]?)))))), (rb, .inr (5, [.ref vl, .ref kl, .ref co, .int ru, .int mo, .int lk, .int wn, .int qu, .int bu])), (kl, .inr (11, [.int mk, .ref ak, .int (nI ks.length)])), (co, .inl (Y.2.1 4, 6, .inr (.inr (.inr (.inr (fun l => some (ca l)))))))] ++ (KT Y ak ck ks ++ va_pl L (va_up f v (vE y (wtA (f v)))))) H locs := hW
  have hW : Wd Dd A s.heap ([(rb, .inr (5, [.ref vl, .ref kl, .ref co, .int ru, .int mo, .int lk, .int wn, .int qu, .int bu])), (vl, .inr (11, [.int mv, .ref av, .int (nI vs.length)])), (av, .inl (Y.2.1 2, cv, .inr (.inr (.inr (.inr (fun k => vs[k]?)))))), (kl, .inr (11, [.int mk, .ref ak, .int (nI ks.length)])), (co, .inl (Y.2.1 4, 6, .inr (.inr (.inr (.inr (fun l => some (ca l)))))))] ++ (KT Y ak ck ks ++ va_pl L (va_up f v (vE y (wtA (f v)))))) H locs := hW.permA (pmq28 _ _ _ _ _ _)
  refine W.eq (g2 := F0 m 135 ls [va_rf vs[x]?]) rfl ?_
  rw [hx0]
  refine W.eq (g2 := F0 m 135 ls [.ref v]) rfl ?_
  refine vCa_ X hW (hv1.at hx0) (i := 2) rfl dX5_set_135 ?_
  refine lv_iconst (v := 1) hx hb dX5_set_138 (by decide) ?_
  refine pVw_ X hinX7 hW (hv1.at hx0) (Or.inr rfl) dX5_set_139 (fun H locs hW => ?_)
  have hW : Wd Dd A s.heap ([(rb, .inr (5, [.ref vl, .ref kl, .ref co, .int ru, .int mo, .int lk, .int wn, .int qu, .int bu])), (vl, .inr (11, [.int mv, .ref av, .int (nI vs.length)])), (av, .inl (Y.2.1 2, cv, .inr (.inr (.inr (.inr (fun k => vs[k]?)))))), (kl, .inr (11, [.int mk, .ref ak, .int (nI ks.length)])), (co, .inl (Y.2.1 4, 6, .inr (.inr (.inr (.inr (fun l => some (ca l)))))))] ++ (KT Y ak ck ks ++ va_pl L (va_up (va_up f v (vE y (wtA (f v)))) v (vE (nuA ((va_up f v (vE y (wtA (f v)))) v)) 1)))) H locs := hW
  have hW : Wd Dd A s.heap ([(rb, .inr (5, [.ref vl, .ref kl, .ref co, .int ru, .int mo, .int lk, .int wn, .int qu, .int bu])), (vl, .inr (11, [.int mv, .ref av, .int (nI vs.length)])), (av, .inl (Y.2.1 2, cv, .inr (.inr (.inr (.inr (fun k => vs[k]?)))))), (kl, .inr (11, [.int mk, .ref ak, .int (nI ks.length)])), (co, .inl (Y.2.1 4, 6, .inr (.inr (.inr (.inr (fun l => some (ca l)))))))] ++ (KT Y ak ck ks ++ va_pl L (va_up f v (vE y 1)))) H locs := by rw [up_up, up_at] at hW; exact hW
  have hv2 : VO L vs (va_up f v (vE y 1)) := hvo.u (isV_vE (Or.inr rfl))
  have hO2 : CO Y L ca (va_up f v (vE y 1)) := hO.u (hvo.ne hO (List.mem_of_getElem? hx0))
  have hx2 := (List.getElem?_eq_some_iff.mp hx0).1
  have hg2 : NG vs (va_up f v (vE y 1)) (upd (upd g (12 + x) y) (52 + x) 1) := (hg.u hvo hx0).o (by omega)
  have hw2 : NW vs (va_up f v (vE y 1)) (upd (upd g (12 + x) y) (52 + x) 1) := (hw.o (by omega)).u hvo hx0
  refine lv_aload_n hx hb dX5_set_142 rfl (lv_at hl 1 rfl) ?_
  refine g_ X hinX5 hW 0 rfl rfl 3 (by decide) 3 rfl rfl rfl dX5_set_143 ?_
  refine lv_iconst (v := 2) hx hb dX5_set_146 (by decide) ?_
  refine lv_icmp_ne (tgt := 165) hx hb dX5_set_147 (by decide) (fun _ => ?_) (fun h => absurd h h2)
  refine lv_iload_n hx hb dX5_set_165 rfl (lv_at hl 0 rfl) ?_
  exact hI _ _ _ _ _ _ _ _ _ ⟨rfl, rfl⟩ rfl rfl (Nat.le_of_ble_eq_true rfl) (Nat.le_of_ble_eq_true rfl) hW dX5_set_166
set_option maxRecDepth 100000 in
set_option maxHeartbeats 4000000 in
theorem kSet3 (l : Launch) (Dd : va_G) (Y : yT) (rb vl kl co av cv ak ck : Nat) (ca : Nat → Nat) (vs ks L : List Nat) (f : Nat → va_E) (ru mo lk wn qu bu mv mk : Int32) (x v : Nat) (y : Int32) (g : Nat → Int32) (hg : NG vs f g) (hw : NW vs f g) (hC : vs.length ≤ cv ∧ cv ≤ 600) (hvo : VO L vs f) (hO : CO Y L ca f) (h3 : vs.length ≤ 40) (hx0 : vs[x]? = some v) (hru : ¬ ru = 1) (h2 : ru = 2) (hb2 : nI (wc (upd (upd g (12 + x) y) (52 + x) 1) vs.length) ≤ mo) : MR l yX5_set wsX5_set rmX5_set Dd Y [.ref rb, .int (nI x), .int y] ([(rb, .inr (5, [.ref vl, .ref kl, .ref co, .int ru, .int mo, .int lk, .int wn, .int qu, .int bu])), (vl, .inr (11, [.int mv, .ref av, .int (nI vs.length)])), (av, .inl (Y.2.1 2, cv, .inr (.inr (.inr (.inr (fun k => vs[k]?)))))), (kl, .inr (11, [.int mk, .ref ak, .int (nI ks.length)])), (co, .inl (Y.2.1 4, 6, .inr (.inr (.inr (.inr (fun l => some (ca l)))))))] ++ (KT Y ak ck ks ++ va_pl L f)) (fun rv w => rv = some (.int (nuA (f v))) ∧ w = [(rb, .inr (5, [.ref vl, .ref kl, .ref co, .int ru, .int mo, .int lk, .int wn, .int qu, .int bu])), (vl, .inr (11, [.int mv, .ref av, .int (nI vs.length)])), (av, .inl (Y.2.1 2, cv, .inr (.inr (.inr (.inr (fun k => vs[k]?)))))), (kl, .inr (11, [.int mk, .ref ak, .int (nI ks.length)])), (co, .inl (Y.2.1 4, 6, .inr (.inr (.inr (.inr (fun l => some (ca l)))))))] ++ (KT Y ak ck ks ++ va_pl L (va_up f v (vE y 1)))) 2 8 := by
  refine MRk (cc := cX5_set) (maxL := 7) (ret := (some .int)) (by decide) rfl (Nat.le_of_ble_eq_true rfl) (fun {p₀ e₀ s m args below meth c₀ A} ls Q X hin hW hl hI hV hA => ?_)
  have hx := X.x
  have hb := X.b
  have hl : lv_has ls 7 [(0, .ref rb), (1, .int (nI x)), (2, .int y)] := hl
  have hinX5 : ∀ w ∈ wsX50, w ∈ wsX5_set := fun w h => List.mem_cons_of_mem _ (List.mem_append_left _ (List.mem_append_left _ (List.mem_append_left _ (List.mem_append_right _ h))))
  have hinX7 : ∀ w ∈ wsX70, w ∈ wsX5_set := fun w h => List.mem_cons_of_mem _ (List.mem_append_left _ (List.mem_append_left _ (List.mem_append_right _ h)))
  have hx2 := (List.getElem?_eq_some_iff.mp hx0).1
  refine lv_aload_n hx hb dX5_set_0 rfl (lv_at hl 0 rfl) ?_
  refine g_ X hinX5 hW 0 rfl rfl 0 (by decide) 1 rfl rfl rfl dX5_set_1 ?_
  refine lv_iload_n hx hb dX5_set_4 rfl (lv_at hl 1 rfl) ?_
  refine rF_ (As := [.int (nI x)]) (rest := []) (wc := [(vl, .inr (11, [.int mv, .ref av, .int (nI vs.length)])), (av, .inl (Y.2.1 2, cv, .inr (.inr (.inr (.inr (fun k => vs[k]?))))))]) (w9 := [(rb, .inr (5, [.ref vl, .ref kl, .ref co, .int ru, .int mo, .int lk, .int wn, .int qu, .int bu])), (kl, .inr (11, [.int mk, .ref ak, .int (nI ks.length)])), (co, .inl (Y.2.1 4, 6, .inr (.inr (.inr (.inr (fun l => some (ca l)))))))] ++ (KT Y ak ck ks ++ va_pl L f)) X 1 (kJx4a65c_get_915e3 l Dd Y vl av cv vs.length x mv (fun k => vs[k]?) (by omega) hC.1 (by omega)) gX5_set_Jx4a65c_get_915e3_f30Jx4a65c rfl rfl rfl (by decide +kernel) (by decide +kernel) ⟨(Nat.le_of_ble_eq_true rfl), (Nat.le_of_ble_eq_true rfl)⟩ hW (pmq27 _ _ _ _ _ _) 0 11 rfl rfl rfl rfl hl.1 rfl (Nat.le_of_ble_eq_true rfl) dX5_set_5 ⟨(Nat.le_of_ble_eq_true rfl), (Nat.le_of_ble_eq_true rfl)⟩ (fun rv wq H locs hp hW => ?_)
  obtain ⟨rfl, rfl⟩ := hp
  have hW : Wd Dd A s.heap ([(vl, .inr (11, [.int mv, .ref av, .int (nI vs.length)])), (av, .inl (Y.2.1 2, cv, .inr (.inr (.inr (.inr (fun k => vs[k]?)))))), (rb, .inr (5, [.ref vl, .ref kl, .ref co, .int ru, .int mo, .int lk, .int wn, .int qu, .int bu])), (kl, .inr (11, [.int mk, .ref ak, .int (nI ks.length)])), (co, .inl (Y.2.1 4, 6, .inr (.inr (.inr (.inr (fun l => some (ca l)))))))] ++ (KT Y ak ck ks ++ va_pl L f)) H locs := hW
  have hW : Wd Dd A s.heap ([(rb, .inr (5, [.ref vl, .ref kl, .ref co, .int ru, .int mo, .int lk, .int wn, .int qu, .int bu])), (vl, .inr (11, [.int mv, .ref av, .int (nI vs.length)])), (av, .inl (Y.2.1 2, cv, .inr (.inr (.inr (.inr (fun k => vs[k]?)))))), (kl, .inr (11, [.int mk, .ref ak, .int (nI ks.length)])), (co, .inl (Y.2.1 4, 6, .inr (.inr (.inr (.inr (fun l => some (ca l)))))))] ++ (KT Y ak ck ks ++ va_pl L f)) H locs := hW.permA (pmq28 _ _ _ _ _ _)
  refine W.eq (g2 := F0 m 10 ls [va_rf vs[x]?]) rfl ?_
  rw [hx0]
  refine W.eq (g2 := F0 m 10 ls [.ref v]) rfl ?_
  refine vCa_ X hW (hvo.at hx0) (i := 2) rfl dX5_set_10 ?_
  refine gVn_ X hinX7 hW (hvo.at hx0) dX5_set_13 ?_
  refine lv_istore_n (lv' := [(3, .int (nuA (f v))), (0, .ref rb), (1, .int (nI x)), (2, .int y)]) hx hb dX5_set_16 rfl hl (by decide) rfl (fun ls hl => ?_)
  refine lv_aload_n hx hb dX5_set_17 rfl (lv_at hl 1 rfl) ?_
  refine g_ X hinX5 hW 0 rfl rfl 0 (by decide) 1 rfl rfl rfl dX5_set_18 ?_
  refine lv_iload_n hx hb dX5_set_21 rfl (lv_at hl 2 rfl) ?_
  refine rF_ (As := [.int (nI x)]) (rest := []) (wc := [(vl, .inr (11, [.int mv, .ref av, .int (nI vs.length)])), (av, .inl (Y.2.1 2, cv, .inr (.inr (.inr (.inr (fun k => vs[k]?))))))]) (w9 := [(rb, .inr (5, [.ref vl, .ref kl, .ref co, .int ru, .int mo, .int lk, .int wn, .int qu, .int bu])), (kl, .inr (11, [.int mk, .ref ak, .int (nI ks.length)])), (co, .inl (Y.2.1 4, 6, .inr (.inr (.inr (.inr (fun l => some (ca l)))))))] ++ (KT Y ak ck ks ++ va_pl L f)) X 1 (kJx4a65c_get_915e3 l Dd Y vl av cv vs.length x mv (fun k => vs[k]?) (by omega) hC.1 (by omega)) gX5_set_Jx4a65c_get_915e3_f30Jx4a65c rfl rfl rfl (by decide +kernel) (by decide +kernel) ⟨(Nat.le_of_ble_eq_true rfl), (Nat.le_of_ble_eq_true rfl)⟩ hW (pmq27 _ _ _ _ _ _) 0 11 rfl rfl rfl rfl hl.1 rfl (Nat.le_of_ble_eq_true rfl) dX5_set_22 ⟨(Nat.le_of_ble_eq_true rfl), (Nat.le_of_ble_eq_true rfl)⟩ (fun rv wq H locs hp hW => ?_)
  obtain ⟨rfl, rfl⟩ := hp
  have hW : Wd Dd A s.heap ([(vl, .inr (11, [.int mv, .ref av, .int (nI vs.length)])), (av, .inl (Y.2.1 2, cv, .inr (.inr (.inr (.inr (fun k => vs[k]?)))))), (rb, .inr (5, [.ref vl, .ref kl, .ref co, .int ru, .int mo, .int lk, .int wn, .int qu, .int bu])), (kl, .inr (11, [.int mk, .ref ak, .int (nI ks.length)])), (co, .inl (Y.2.1 4, 6, .inr (.inr (.inr (.inr (fun l => some (ca l)))))))] ++ (KT Y ak ck ks ++ va_pl L f)) H locs := hW
  have hW : Wd Dd A s.heap ([(rb, .inr (5, [.ref vl, .ref kl, .ref co, .int ru, .int mo, .int lk, .int wn, .int qu, .int bu])), (vl, .inr (11, [.int mv, .ref av, .int (nI vs.length)])), (av, .inl (Y.2.1 2, cv, .inr (.inr (.inr (.inr (fun k => vs[k]?)))))), (kl, .inr (11, [.int mk, .ref ak, .int (nI ks.length)])), (co, .inl (Y.2.1 4, 6, .inr (.inr (.inr (.inr (fun l => some (ca l)))))))] ++ (KT Y ak ck ks ++ va_pl L f)) H locs := hW.permA (pmq28 _ _ _ _ _ _)
  refine W.eq (g2 := F0 m 27 ls [va_rf vs[x]?]) rfl ?_
  rw [hx0]
  refine W.eq (g2 := F0 m 27 ls [.ref v]) rfl ?_
  refine vCa_ X hW (hvo.at hx0) (i := 2) rfl dX5_set_27 ?_
  refine lv_iload_n hx hb dX5_set_30 rfl (lv_at hl 3 rfl) ?_
  refine pVn_ X hinX7 hW (hvo.at hx0) dX5_set_31 (fun H locs hW => ?_)
  have hW : Wd Dd A s.heap ([(rb, .inr (5, [.ref vl, .ref kl, .ref co, .int ru, .int mo, .int lk, .int wn, .int qu, .int bu])), (vl, .inr (11, [.int mv, .ref av, .int (nI vs.length)])), (av, .inl (Y.2.1 2, cv, .inr (.inr (.inr (.inr (fun k => vs[k]?)))))), (kl, .inr (11, [.int mk, .ref ak, .int (nI ks.length)])), (co, .inl (Y.2.1 4, 6, .inr (.inr (.inr (.inr (fun l => some (ca l)))))))] ++ (KT Y ak ck ks ++ va_pl L (va_up f v (vE y (wtA (f v)))))) H locs := hW
  have hv1 : VO L vs (va_up f v (vE y (wtA (f v)))) := hvo.u (isV_vE (hvo.at hx0).2.2)
  have hO1 : CO Y L ca (va_up f v (vE y (wtA (f v)))) := hO.u (hvo.ne hO (List.mem_of_getElem? hx0))
  have hg1 : NG vs (va_up f v (vE y (wtA (f v)))) (upd g (12 + x) y) := hg.u hvo hx0
  refine lv_aload_n hx hb dX5_set_34 rfl (lv_at hl 1 rfl) ?_
  refine g_ X hinX5 hW 0 rfl rfl 3 (by decide) 3 rfl rfl rfl dX5_set_35 ?_
  refine lv_iconst (v := 1) hx hb dX5_set_38 (by decide) ?_
  refine lv_icmp_ne (tgt := 125) hx hb dX5_set_39 (by decide) (fun _ => ?_) (fun h => absurd h hru)
  refine lv_aload_n hx hb dX5_set_125 rfl (lv_at hl 1 rfl) ?_
  refine g_ X hinX5 hW 0 rfl rfl 0 (by decide) 1 rfl rfl rfl dX5_set_126 ?_
  refine lv_iload_n hx hb dX5_set_129 rfl (lv_at hl 2 rfl) ?_
  refine rF_ (As := [.int (nI x)]) (rest := []) (wc := [(vl, .inr (11, [.int mv, .ref av, .int (nI vs.length)])), (av, .inl (Y.2.1 2, cv, .inr (.inr (.inr (.inr (fun k => vs[k]?))))))]) (w9 := [(rb, .inr (5, [.ref vl, .ref kl, .ref co, .int ru, .int mo, .int lk, .int wn, .int qu, .int bu])), (kl, .inr (11, [.int mk, .ref ak, .int (nI ks.length)])), (co, .inl (Y.2.1 4, 6, .inr (.inr (.inr (.inr (fun l => some (ca l)))))))] ++ (KT Y ak ck ks ++ va_pl L (va_up f v (vE y (wtA (f v)))))) X 1 (kJx4a65c_get_915e3 l Dd Y vl av cv vs.length x mv (fun k => vs[k]?) (by omega) hC.1 (by omega)) gX5_set_Jx4a65c_get_915e3_f30Jx4a65c rfl rfl rfl (by decide +kernel) (by decide +kernel) ⟨(Nat.le_of_ble_eq_true rfl), (Nat.le_of_ble_eq_true rfl)⟩ hW (pmq27 _ _ _ _ _ _) 0 11 rfl rfl rfl rfl hl.1 rfl (Nat.le_of_ble_eq_true rfl) dX5_set_130 ⟨(Nat.le_of_ble_eq_true rfl), (Nat.le_of_ble_eq_true rfl)⟩ (fun rv wq H locs hp hW => ?_)
  obtain ⟨rfl, rfl⟩ := hp
  have hW : Wd Dd A s.heap ([(vl, .inr (11, [.int mv, .ref av, .int (nI vs.length)])), (av, .inl (Y.2.1 2, cv, .inr (.inr (.inr (.inr (fun k => vs[k]?)))))), (rb, .inr (5, [.ref vl, .ref kl, .ref co, .int ru, .int mo, .int lk, .int wn, .int qu, .int bu])), (kl, .inr (11, [.int mk, .ref ak, .int (nI ks.length)])), (co, .inl (Y.2.1 4, 6, .inr (.inr (.inr (.inr (fun l => some (ca l)))))))] ++ (KT Y ak ck ks ++ va_pl L (va_up f v (vE y (wtA (f v)))))) H locs := hW
  have hW : Wd Dd A s.heap ([(rb, .inr (5, [.ref vl, .ref kl, .ref co, .int ru, .int mo, .int lk, .int wn, .int qu, .int bu])), (vl, .inr (11, [.int mv, .ref av, .int (nI vs.length)])), (av, .inl (Y.2.1 2, cv, .inr (.inr (.inr (.inr (fun k => vs[k]?)))))), (kl, .inr (11, [.int mk, .ref ak, .int (nI ks.length)])), (co, .inl (Y.2.1 4, 6, .inr (.inr (.inr (.inr (fun l => some (ca l)))))))] ++ (KT Y ak ck ks ++ va_pl L (va_up f v (vE y (wtA (f v)))))) H locs := hW.permA (pmq28 _ _ _ _ _ _)
  refine W.eq (g2 := F0 m 135 ls [va_rf vs[x]?]) rfl ?_
  rw [hx0]
  refine W.eq (g2 := F0 m 135 ls [.ref v]) rfl ?_
  refine vCa_ X hW (hv1.at hx0) (i := 2) rfl dX5_set_135 ?_
  refine lv_iconst (v := 1) hx hb dX5_set_138 (by decide) ?_
  refine pVw_ X hinX7 hW (hv1.at hx0) (Or.inr rfl) dX5_set_139 (fun H locs hW => ?_)
  have hW : Wd Dd A s.heap ([(rb, .inr (5, [.ref vl, .ref kl, .ref co, .int ru, .int mo, .int lk, .int wn, .int qu, .int bu])), (vl, .inr (11, [.int mv, .ref av, .int (nI vs.length)])), (av, .inl (Y.2.1 2, cv, .inr (.inr (.inr (.inr (fun k => vs[k]?)))))), (kl, .inr (11, [.int mk, .ref ak, .int (nI ks.length)])), (co, .inl (Y.2.1 4, 6, .inr (.inr (.inr (.inr (fun l => some (ca l)))))))] ++ (KT Y ak ck ks ++ va_pl L (va_up (va_up f v (vE y (wtA (f v)))) v (vE (nuA ((va_up f v (vE y (wtA (f v)))) v)) 1)))) H locs := hW
  have hW : Wd Dd A s.heap ([(rb, .inr (5, [.ref vl, .ref kl, .ref co, .int ru, .int mo, .int lk, .int wn, .int qu, .int bu])), (vl, .inr (11, [.int mv, .ref av, .int (nI vs.length)])), (av, .inl (Y.2.1 2, cv, .inr (.inr (.inr (.inr (fun k => vs[k]?)))))), (kl, .inr (11, [.int mk, .ref ak, .int (nI ks.length)])), (co, .inl (Y.2.1 4, 6, .inr (.inr (.inr (.inr (fun l => some (ca l)))))))] ++ (KT Y ak ck ks ++ va_pl L (va_up f v (vE y 1)))) H locs := by rw [up_up, up_at] at hW; exact hW
  have hv2 : VO L vs (va_up f v (vE y 1)) := hvo.u (isV_vE (Or.inr rfl))
  have hO2 : CO Y L ca (va_up f v (vE y 1)) := hO.u (hvo.ne hO (List.mem_of_getElem? hx0))
  have hx2 := (List.getElem?_eq_some_iff.mp hx0).1
  have hg2 : NG vs (va_up f v (vE y 1)) (upd (upd g (12 + x) y) (52 + x) 1) := (hg.u hvo hx0).o (by omega)
  have hw2 : NW vs (va_up f v (vE y 1)) (upd (upd g (12 + x) y) (52 + x) 1) := (hw.o (by omega)).u hvo hx0
  refine lv_aload_n hx hb dX5_set_142 rfl (lv_at hl 1 rfl) ?_
  refine g_ X hinX5 hW 0 rfl rfl 3 (by decide) 3 rfl rfl rfl dX5_set_143 ?_
  refine lv_iconst (v := 2) hx hb dX5_set_146 (by decide) ?_
  refine lv_icmp_ne (tgt := 165) hx hb dX5_set_147 (by decide) (fun h => absurd h2 h) (fun _ => ?_)
  refine lv_aload_n hx hb dX5_set_150 rfl (lv_at hl 1 rfl) ?_
  refine rV_ (As := []) (rest := []) (wc := [(rb, .inr (5, [.ref vl, .ref kl, .ref co, .int ru, .int mo, .int lk, .int wn, .int qu, .int bu])), (vl, .inr (11, [.int mv, .ref av, .int (nI vs.length)])), (av, .inl (Y.2.1 2, cv, .inr (.inr (.inr (.inr (fun k => vs[k]?)))))), (kl, .inr (11, [.int mk, .ref ak, .int (nI ks.length)])), (co, .inl (Y.2.1 4, 6, .inr (.inr (.inr (.inr (fun l => some (ca l)))))))] ++ (KT Y ak ck ks ++ va_pl L (va_up f v (vE y 1)))) (w9 := []) X (kX5_waiting l Dd Y rb vl kl co av cv ak ck ca vs ks L (va_up f v (vE y 1)) ru mo lk wn qu bu mv mk (upd (upd g (12 + x) y) (52 + x) 1) hw2 hC hv2) (cwV 0 X.1.2.2.2.2 gX5_set_X5_waiting rfl rfl rfl (by decide +kernel) ⟨(Nat.le_of_ble_eq_true rfl), (Nat.le_of_ble_eq_true rfl)⟩) hW (by rw [List.append_nil]) 0 5 rfl rfl rfl rfl hl.1 rfl (Nat.le_of_ble_eq_true rfl) dX5_set_151 ⟨(Nat.le_of_ble_eq_true rfl), (Nat.le_of_ble_eq_true rfl)⟩ (fun rv wq H locs hp hW => ?_)
  obtain ⟨rfl, rfl⟩ := hp
  have hW : Wd Dd A s.heap ([(rb, .inr (5, [.ref vl, .ref kl, .ref co, .int ru, .int mo, .int lk, .int wn, .int qu, .int bu])), (vl, .inr (11, [.int mv, .ref av, .int (nI vs.length)])), (av, .inl (Y.2.1 2, cv, .inr (.inr (.inr (.inr (fun k => vs[k]?)))))), (kl, .inr (11, [.int mk, .ref ak, .int (nI ks.length)])), (co, .inl (Y.2.1 4, 6, .inr (.inr (.inr (.inr (fun l => some (ca l)))))))] ++ (KT Y ak ck ks ++ va_pl L (va_up f v (vE y 1)))) H locs := by rw [List.append_nil] at hW; exact hW
  refine W.eq (g2 := F0 m 154 ls [.int (nI (wc (upd (upd g (12 + x) y) (52 + x) 1) vs.length))]) rfl ?_
  refine lv_aload_n hx hb dX5_set_154 rfl (lv_at hl 1 rfl) ?_
  refine g_ X hinX5 hW 0 rfl rfl 4 (by decide) 8 rfl rfl rfl dX5_set_155 ?_
  refine lv_icmp_le (tgt := 165) hx hb dX5_set_158 (by decide) (fun _ => ?_) (fun h => absurd hb2 h)
  refine lv_iload_n hx hb dX5_set_165 rfl (lv_at hl 0 rfl) ?_
  exact hI _ _ _ _ _ _ _ _ _ ⟨rfl, rfl⟩ rfl rfl (Nat.le_of_ble_eq_true rfl) (Nat.le_of_ble_eq_true rfl) hW dX5_set_166
set_option maxRecDepth 100000 in
set_option maxHeartbeats 4000000 in
theorem kSet2 (l : Launch) (Dd : va_G) (Y : yT) (rb vl kl co av cv ak ck : Nat) (ca : Nat → Nat) (vs ks L : List Nat) (f : Nat → va_E) (ru mo lk wn qu bu mv mk : Int32) (x v : Nat) (y : Int32) (g : Nat → Int32) (hg : NG vs f g) (hw : NW vs f g) (hC : vs.length ≤ cv ∧ cv ≤ 600) (hvo : VO L vs f) (hO : CO Y L ca f) (h3 : vs.length ≤ 40) (hx0 : vs[x]? = some v) (hru : ¬ ru = 1) (h2 : ru = 2) (hb2 : ¬ nI (wc (upd (upd g (12 + x) y) (52 + x) 1) vs.length) ≤ mo) : MR l yX5_set wsX5_set rmX5_set Dd Y [.ref rb, .int (nI x), .int y] ([(rb, .inr (5, [.ref vl, .ref kl, .ref co, .int ru, .int mo, .int lk, .int wn, .int qu, .int bu])), (vl, .inr (11, [.int mv, .ref av, .int (nI vs.length)])), (av, .inl (Y.2.1 2, cv, .inr (.inr (.inr (.inr (fun k => vs[k]?)))))), (kl, .inr (11, [.int mk, .ref ak, .int (nI ks.length)])), (co, .inl (Y.2.1 4, 6, .inr (.inr (.inr (.inr (fun l => some (ca l)))))))] ++ (KT Y ak ck ks ++ va_pl L f)) (fun rv w => rv = some (.int (nuA (f v))) ∧ ∃ f' : Nat → va_E, BLD Y vs L ca (upd (upd g (12 + x) y) (52 + x) 1) (va_up f v (vE y 1)) f' ∧ w = [(rb, .inr (5, [.ref vl, .ref kl, .ref co, .int ru, .int mo, .int lk, .int (wn + nI (cs (fun l => vs.length + 1 - 2 ^ l) 5)), .int qu, .int (bu + 1)])), (vl, .inr (11, [.int mv, .ref av, .int (nI vs.length)])), (av, .inl (Y.2.1 2, cv, .inr (.inr (.inr (.inr (fun k => vs[k]?)))))), (kl, .inr (11, [.int mk, .ref ak, .int (nI ks.length)])), (co, .inl (Y.2.1 4, 6, .inr (.inr (.inr (.inr (fun l => some (ca l)))))))] ++ (KT Y ak ck ks ++ va_pl L f')) 2 8 := by
  refine MRk (cc := cX5_set) (maxL := 7) (ret := (some .int)) (by decide) rfl (Nat.le_of_ble_eq_true rfl) (fun {p₀ e₀ s m args below meth c₀ A} ls Q X hin hW hl hI hV hA => ?_)
  have hx := X.x
  have hb := X.b
  have hl : lv_has ls 7 [(0, .ref rb), (1, .int (nI x)), (2, .int y)] := hl
  have hinX5 : ∀ w ∈ wsX50, w ∈ wsX5_set := fun w h => List.mem_cons_of_mem _ (List.mem_append_left _ (List.mem_append_left _ (List.mem_append_left _ (List.mem_append_right _ h))))
  have hinX7 : ∀ w ∈ wsX70, w ∈ wsX5_set := fun w h => List.mem_cons_of_mem _ (List.mem_append_left _ (List.mem_append_left _ (List.mem_append_right _ h)))
  have hx2 := (List.getElem?_eq_some_iff.mp hx0).1
  refine lv_aload_n hx hb dX5_set_0 rfl (lv_at hl 0 rfl) ?_
  refine g_ X hinX5 hW 0 rfl rfl 0 (by decide) 1 rfl rfl rfl dX5_set_1 ?_
  refine lv_iload_n hx hb dX5_set_4 rfl (lv_at hl 1 rfl) ?_
  refine rF_ (As := [.int (nI x)]) (rest := []) (wc := [(vl, .inr (11, [.int mv, .ref av, .int (nI vs.length)])), (av, .inl (Y.2.1 2, cv, .inr (.inr (.inr (.inr (fun k => vs[k]?))))))]) (w9 := [(rb, .inr (5, [.ref vl, .ref kl, .ref co, .int ru, .int mo, .int lk, .int wn, .int qu, .int bu])), (kl, .inr (11, [.int mk, .ref ak, .int (nI ks.length)])), (co, .inl (Y.2.1 4, 6, .inr (.inr (.inr (.inr (fun l => some (ca l)))))))] ++ (KT Y ak ck ks ++ va_pl L f)) X 1 (kJx4a65c_get_915e3 l Dd Y vl av cv vs.length x mv (fun k => vs[k]?) (by omega) hC.1 (by omega)) gX5_set_Jx4a65c_get_915e3_f30Jx4a65c rfl rfl rfl (by decide +kernel) (by decide +kernel) ⟨(Nat.le_of_ble_eq_true rfl), (Nat.le_of_ble_eq_true rfl)⟩ hW (pmq27 _ _ _ _ _ _) 0 11 rfl rfl rfl rfl hl.1 rfl (Nat.le_of_ble_eq_true rfl) dX5_set_5 ⟨(Nat.le_of_ble_eq_true rfl), (Nat.le_of_ble_eq_true rfl)⟩ (fun rv wq H locs hp hW => ?_)
  obtain ⟨rfl, rfl⟩ := hp
  have hW : Wd Dd A s.heap ([(vl, .inr (11, [.int mv, .ref av, .int (nI vs.length)])), (av, .inl (Y.2.1 2, cv, .inr (.inr (.inr (.inr (fun k => vs[k]?)))))), (rb, .inr (5, [.ref vl, .ref kl, .ref co, .int ru, .int mo, .int lk, .int wn, .int qu, .int bu])), (kl, .inr (11, [.int mk, .ref ak, .int (nI ks.length)])), (co, .inl (Y.2.1 4, 6, .inr (.inr (.inr (.inr (fun l => some (ca l)))))))] ++ (KT Y ak ck ks ++ va_pl L f)) H locs := hW
  have hW : Wd Dd A s.heap ([(rb, .inr (5, [.ref vl, .ref kl, .ref co, .int ru, .int mo, .int lk, .int wn, .int qu, .int bu])), (vl, .inr (11, [.int mv, .ref av, .int (nI vs.length)])), (av, .inl (Y.2.1 2, cv, .inr (.inr (.inr (.inr (fun k => vs[k]?)))))), (kl, .inr (11, [.int mk, .ref ak, .int (nI ks.length)])), (co, .inl (Y.2.1 4, 6, .inr (.inr (.inr (.inr (fun l => some (ca l)))))))] ++ (KT Y ak ck ks ++ va_pl L f)) H locs := hW.permA (pmq28 _ _ _ _ _ _)
  refine W.eq (g2 := F0 m 10 ls [va_rf vs[x]?]) rfl ?_
  rw [hx0]
  refine W.eq (g2 := F0 m 10 ls [.ref v]) rfl ?_
  refine vCa_ X hW (hvo.at hx0) (i := 2) rfl dX5_set_10 ?_
  refine gVn_ X hinX7 hW (hvo.at hx0) dX5_set_13 ?_
  refine lv_istore_n (lv' := [(3, .int (nuA (f v))), (0, .ref rb), (1, .int (nI x)), (2, .int y)]) hx hb dX5_set_16 rfl hl (by decide) rfl (fun ls hl => ?_)
  refine lv_aload_n hx hb dX5_set_17 rfl (lv_at hl 1 rfl) ?_
  refine g_ X hinX5 hW 0 rfl rfl 0 (by decide) 1 rfl rfl rfl dX5_set_18 ?_
  refine lv_iload_n hx hb dX5_set_21 rfl (lv_at hl 2 rfl) ?_
  refine rF_ (As := [.int (nI x)]) (rest := []) (wc := [(vl, .inr (11, [.int mv, .ref av, .int (nI vs.length)])), (av, .inl (Y.2.1 2, cv, .inr (.inr (.inr (.inr (fun k => vs[k]?))))))]) (w9 := [(rb, .inr (5, [.ref vl, .ref kl, .ref co, .int ru, .int mo, .int lk, .int wn, .int qu, .int bu])), (kl, .inr (11, [.int mk, .ref ak, .int (nI ks.length)])), (co, .inl (Y.2.1 4, 6, .inr (.inr (.inr (.inr (fun l => some (ca l)))))))] ++ (KT Y ak ck ks ++ va_pl L f)) X 1 (kJx4a65c_get_915e3 l Dd Y vl av cv vs.length x mv (fun k => vs[k]?) (by omega) hC.1 (by omega)) gX5_set_Jx4a65c_get_915e3_f30Jx4a65c rfl rfl rfl (by decide +kernel) (by decide +kernel) ⟨(Nat.le_of_ble_eq_true rfl), (Nat.le_of_ble_eq_true rfl)⟩ hW (pmq27 _ _ _ _ _ _) 0 11 rfl rfl rfl rfl hl.1 rfl (Nat.le_of_ble_eq_true rfl) dX5_set_22 ⟨(Nat.le_of_ble_eq_true rfl), (Nat.le_of_ble_eq_true rfl)⟩ (fun rv wq H locs hp hW => ?_)
  obtain ⟨rfl, rfl⟩ := hp
  have hW : Wd Dd A s.heap ([(vl, .inr (11, [.int mv, .ref av, .int (nI vs.length)])), (av, .inl (Y.2.1 2, cv, .inr (.inr (.inr (.inr (fun k => vs[k]?)))))), (rb, .inr (5, [.ref vl, .ref kl, .ref co, .int ru, .int mo, .int lk, .int wn, .int qu, .int bu])), (kl, .inr (11, [.int mk, .ref ak, .int (nI ks.length)])), (co, .inl (Y.2.1 4, 6, .inr (.inr (.inr (.inr (fun l => some (ca l)))))))] ++ (KT Y ak ck ks ++ va_pl L f)) H locs := hW
  have hW : Wd Dd A s.heap ([(rb, .inr (5, [.ref vl, .ref kl, .ref co, .int ru, .int mo, .int lk, .int wn, .int qu, .int bu])), (vl, .inr (11, [.int mv, .ref av, .int (nI vs.length)])), (av, .inl (Y.2.1 2, cv, .inr (.inr (.inr (.inr (fun k => vs[k]?)))))), (kl, .inr (11, [.int mk, .ref ak, .int (nI ks.length)])), (co, .inl (Y.2.1 4, 6, .inr (.inr (.inr (.inr (fun l => some (ca l)))))))] ++ (KT Y ak ck ks ++ va_pl L f)) H locs := hW.permA (pmq28 _ _ _ _ _ _)
  refine W.eq (g2 := F0 m 27 ls [va_rf vs[x]?]) rfl ?_
  rw [hx0]
  refine W.eq (g2 := F0 m 27 ls [.ref v]) rfl ?_
  refine vCa_ X hW (hvo.at hx0) (i := 2) rfl dX5_set_27 ?_
  refine lv_iload_n hx hb dX5_set_30 rfl (lv_at hl 3 rfl) ?_
  refine pVn_ X hinX7 hW (hvo.at hx0) dX5_set_31 (fun H locs hW => ?_)
  have hW : Wd Dd A s.heap ([(rb, .inr (5, [.ref vl, .ref kl, .ref co, .int ru, .int mo, .int lk, .int wn, .int qu, .int bu])), (vl, .inr (11, [.int mv, .ref av, .int (nI vs.length)])), (av, .inl (Y.2.1 2, cv, .inr (.inr (.inr (.inr (fun k => vs[k]?)))))), (kl, .inr (11, [.int mk, .ref ak, .int (nI ks.length)])), (co, .inl (Y.2.1 4, 6, .inr (.inr (.inr (.inr (fun l => some (ca l)))))))] ++ (KT Y ak ck ks ++ va_pl L (va_up f v (vE y (wtA (f v)))))) H locs := hW
  have hv1 : VO L vs (va_up f v (vE y (wtA (f v)))) := hvo.u (isV_vE (hvo.at hx0).2.2)
  have hO1 : CO Y L ca (va_up f v (vE y (wtA (f v)))) := hO.u (hvo.ne hO (List.mem_of_getElem? hx0))
  have hg1 : NG vs (va_up f v (vE y (wtA (f v)))) (upd g (12 + x) y) := hg.u hvo hx0
  refine lv_aload_n hx hb dX5_set_34 rfl (lv_at hl 1 rfl) ?_
  refine g_ X hinX5 hW 0 rfl rfl 3 (by decide) 3 rfl rfl rfl dX5_set_35 ?_
  refine lv_iconst (v := 1) hx hb dX5_set_38 (by decide) ?_
  refine lv_icmp_ne (tgt := 125) hx hb dX5_set_39 (by decide) (fun _ => ?_) (fun h => absurd h hru)
  refine lv_aload_n hx hb dX5_set_125 rfl (lv_at hl 1 rfl) ?_
  refine g_ X hinX5 hW 0 rfl rfl 0 (by decide) 1 rfl rfl rfl dX5_set_126 ?_
  refine lv_iload_n hx hb dX5_set_129 rfl (lv_at hl 2 rfl) ?_
  refine rF_ (As := [.int (nI x)]) (rest := []) (wc := [(vl, .inr (11, [.int mv, .ref av, .int (nI vs.length)])), (av, .inl (Y.2.1 2, cv, .inr (.inr (.inr (.inr (fun k => vs[k]?))))))]) (w9 := [(rb, .inr (5, [.ref vl, .ref kl, .ref co, .int ru, .int mo, .int lk, .int wn, .int qu, .int bu])), (kl, .inr (11, [.int mk, .ref ak, .int (nI ks.length)])), (co, .inl (Y.2.1 4, 6, .inr (.inr (.inr (.inr (fun l => some (ca l)))))))] ++ (KT Y ak ck ks ++ va_pl L (va_up f v (vE y (wtA (f v)))))) X 1 (kJx4a65c_get_915e3 l Dd Y vl av cv vs.length x mv (fun k => vs[k]?) (by omega) hC.1 (by omega)) gX5_set_Jx4a65c_get_915e3_f30Jx4a65c rfl rfl rfl (by decide +kernel) (by decide +kernel) ⟨(Nat.le_of_ble_eq_true rfl), (Nat.le_of_ble_eq_true rfl)⟩ hW (pmq27 _ _ _ _ _ _) 0 11 rfl rfl rfl rfl hl.1 rfl (Nat.le_of_ble_eq_true rfl) dX5_set_130 ⟨(Nat.le_of_ble_eq_true rfl), (Nat.le_of_ble_eq_true rfl)⟩ (fun rv wq H locs hp hW => ?_)
  obtain ⟨rfl, rfl⟩ := hp
  have hW : Wd Dd A s.heap ([(vl, .inr (11, [.int mv, .ref av, .int (nI vs.length)])), (av, .inl (Y.2.1 2, cv, .inr (.inr (.inr (.inr (fun k => vs[k]?)))))), (rb, .inr (5, [.ref vl, .ref kl, .ref co, .int ru, .int mo, .int lk, .int wn, .int qu, .int bu])), (kl, .inr (11, [.int mk, .ref ak, .int (nI ks.length)])), (co, .inl (Y.2.1 4, 6, .inr (.inr (.inr (.inr (fun l => some (ca l)))))))] ++ (KT Y ak ck ks ++ va_pl L (va_up f v (vE y (wtA (f v)))))) H locs := hW
  have hW : Wd Dd A s.heap ([(rb, .inr (5, [.ref vl, .ref kl, .ref co, .int ru, .int mo, .int lk, .int wn, .int qu, .int bu])), (vl, .inr (11, [.int mv, .ref av, .int (nI vs.length)])), (av, .inl (Y.2.1 2, cv, .inr (.inr (.inr (.inr (fun k => vs[k]?)))))), (kl, .inr (11, [.int mk, .ref ak, .int (nI ks.length)])), (co, .inl (Y.2.1 4, 6, .inr (.inr (.inr (.inr (fun l => some (ca l)))))))] ++ (KT Y ak ck ks ++ va_pl L (va_up f v (vE y (wtA (f v)))))) H locs := hW.permA (pmq28 _ _ _ _ _ _)
  refine W.eq (g2 := F0 m 135 ls [va_rf vs[x]?]) rfl ?_
  rw [hx0]
  refine W.eq (g2 := F0 m 135 ls [.ref v]) rfl ?_
  refine vCa_ X hW (hv1.at hx0) (i := 2) rfl dX5_set_135 ?_
  refine lv_iconst (v := 1) hx hb dX5_set_138 (by decide) ?_
  refine pVw_ X hinX7 hW (hv1.at hx0) (Or.inr rfl) dX5_set_139 (fun H locs hW => ?_)
  have hW : Wd Dd A s.heap ([(rb, .inr (5, [.ref vl, .ref kl, .ref co, .int ru, .int mo, .int lk, .int wn, .int qu, .int bu])), (vl, .inr (11, [.int mv, .ref av, .int (nI vs.length)])), (av, .inl (Y.2.1 2, cv, .inr (.inr (.inr (.inr (fun k => vs[k]?)))))), (kl, .inr (11, [.int mk, .ref ak, .int (nI ks.length)])), (co, .inl (Y.2.1 4, 6, .inr (.inr (.inr (.inr (fun l => some (ca l)))))))] ++ (KT Y ak ck ks ++ va_pl L (va_up (va_up f v (vE y (wtA (f v)))) v (vE (nuA ((va_up f v (vE y (wtA (f v)))) v)) 1)))) H locs := hW
  have hW : Wd Dd A s.heap ([(rb, .inr (5, [.ref vl, .ref kl, .ref co, .int ru, .int mo, .int lk, .int wn, .int qu, .int bu])), (vl, .inr (11, [.int mv, .ref av, .int (nI vs.length)])), (av, .inl (Y.2.1 2, cv, .inr (.inr (.inr (.inr (fun k => vs[k]?)))))), (kl, .inr (11, [.int mk, .ref ak, .int (nI ks.length)])), (co, .inl (Y.2.1 4, 6, .inr (.inr (.inr (.inr (fun l => some (ca l)))))))] ++ (KT Y ak ck ks ++ va_pl L (va_up f v (vE y 1)))) H locs := by rw [up_up, up_at] at hW; exact hW
  have hv2 : VO L vs (va_up f v (vE y 1)) := hvo.u (isV_vE (Or.inr rfl))
  have hO2 : CO Y L ca (va_up f v (vE y 1)) := hO.u (hvo.ne hO (List.mem_of_getElem? hx0))
  have hx2 := (List.getElem?_eq_some_iff.mp hx0).1
  have hg2 : NG vs (va_up f v (vE y 1)) (upd (upd g (12 + x) y) (52 + x) 1) := (hg.u hvo hx0).o (by omega)
  have hw2 : NW vs (va_up f v (vE y 1)) (upd (upd g (12 + x) y) (52 + x) 1) := (hw.o (by omega)).u hvo hx0
  refine lv_aload_n hx hb dX5_set_142 rfl (lv_at hl 1 rfl) ?_
  refine g_ X hinX5 hW 0 rfl rfl 3 (by decide) 3 rfl rfl rfl dX5_set_143 ?_
  refine lv_iconst (v := 2) hx hb dX5_set_146 (by decide) ?_
  refine lv_icmp_ne (tgt := 165) hx hb dX5_set_147 (by decide) (fun h => absurd h2 h) (fun _ => ?_)
  refine lv_aload_n hx hb dX5_set_150 rfl (lv_at hl 1 rfl) ?_
  refine rV_ (As := []) (rest := []) (wc := [(rb, .inr (5, [.ref vl, .ref kl, .ref co, .int ru, .int mo, .int lk, .int wn, .int qu, .int bu])), (vl, .inr (11, [.int mv, .ref av, .int (nI vs.length)])), (av, .inl (Y.2.1 2, cv, .inr (.inr (.inr (.inr (fun k => vs[k]?)))))), (kl, .inr (11, [.int mk, .ref ak, .int (nI ks.length)])), (co, .inl (Y.2.1 4, 6, .inr (.inr (.inr (.inr (fun l => some (ca l)))))))] ++ (KT Y ak ck ks ++ va_pl L (va_up f v (vE y 1)))) (w9 := []) X (kX5_waiting l Dd Y rb vl kl co av cv ak ck ca vs ks L (va_up f v (vE y 1)) ru mo lk wn qu bu mv mk (upd (upd g (12 + x) y) (52 + x) 1) hw2 hC hv2) (cwV 0 X.1.2.2.2.2 gX5_set_X5_waiting rfl rfl rfl (by decide +kernel) ⟨(Nat.le_of_ble_eq_true rfl), (Nat.le_of_ble_eq_true rfl)⟩) hW (by rw [List.append_nil]) 0 5 rfl rfl rfl rfl hl.1 rfl (Nat.le_of_ble_eq_true rfl) dX5_set_151 ⟨(Nat.le_of_ble_eq_true rfl), (Nat.le_of_ble_eq_true rfl)⟩ (fun rv wq H locs hp hW => ?_)
  obtain ⟨rfl, rfl⟩ := hp
  have hW : Wd Dd A s.heap ([(rb, .inr (5, [.ref vl, .ref kl, .ref co, .int ru, .int mo, .int lk, .int wn, .int qu, .int bu])), (vl, .inr (11, [.int mv, .ref av, .int (nI vs.length)])), (av, .inl (Y.2.1 2, cv, .inr (.inr (.inr (.inr (fun k => vs[k]?)))))), (kl, .inr (11, [.int mk, .ref ak, .int (nI ks.length)])), (co, .inl (Y.2.1 4, 6, .inr (.inr (.inr (.inr (fun l => some (ca l)))))))] ++ (KT Y ak ck ks ++ va_pl L (va_up f v (vE y 1)))) H locs := by rw [List.append_nil] at hW; exact hW
  refine W.eq (g2 := F0 m 154 ls [.int (nI (wc (upd (upd g (12 + x) y) (52 + x) 1) vs.length))]) rfl ?_
  refine lv_aload_n hx hb dX5_set_154 rfl (lv_at hl 1 rfl) ?_
  refine g_ X hinX5 hW 0 rfl rfl 4 (by decide) 8 rfl rfl rfl dX5_set_155 ?_
  refine lv_icmp_le (tgt := 165) hx hb dX5_set_158 (by decide) (fun h => absurd h hb2) (fun _ => ?_)
  refine lv_aload_n hx hb dX5_set_161 rfl (lv_at hl 1 rfl) ?_
  refine rV_ (As := []) (rest := []) (wc := [(rb, .inr (5, [.ref vl, .ref kl, .ref co, .int ru, .int mo, .int lk, .int wn, .int qu, .int bu])), (vl, .inr (11, [.int mv, .ref av, .int (nI vs.length)])), (av, .inl (Y.2.1 2, cv, .inr (.inr (.inr (.inr (fun k => vs[k]?)))))), (kl, .inr (11, [.int mk, .ref ak, .int (nI ks.length)])), (co, .inl (Y.2.1 4, 6, .inr (.inr (.inr (.inr (fun l => some (ca l)))))))] ++ (KT Y ak ck ks ++ va_pl L (va_up f v (vE y 1)))) (w9 := []) X (kX5_build l Dd Y rb vl kl co av cv ak ck ca vs ks L (va_up f v (vE y 1)) ru mo lk wn qu bu mv mk (upd (upd g (12 + x) y) (52 + x) 1) hg2 hC hv2 hO2 h3) (cwV 0 X.1.2.2.2.2 gX5_set_X5_build rfl rfl rfl (by decide +kernel) ⟨(Nat.le_of_ble_eq_true rfl), (Nat.le_of_ble_eq_true rfl)⟩) hW (by rw [List.append_nil]) 0 5 rfl rfl rfl rfl hl.1 rfl (Nat.le_of_ble_eq_true rfl) dX5_set_162 ⟨(Nat.le_of_ble_eq_true rfl), (Nat.le_of_ble_eq_true rfl)⟩ (fun rv wq H locs hp hW => ?_)
  obtain ⟨f', hf', rfl, rfl⟩ := hp
  have hW : Wd Dd A s.heap ([(rb, .inr (5, [.ref vl, .ref kl, .ref co, .int ru, .int mo, .int lk, .int (wn + nI (cs (fun l => vs.length + 1 - 2 ^ l) 5)), .int qu, .int (bu + 1)])), (vl, .inr (11, [.int mv, .ref av, .int (nI vs.length)])), (av, .inl (Y.2.1 2, cv, .inr (.inr (.inr (.inr (fun k => vs[k]?)))))), (kl, .inr (11, [.int mk, .ref ak, .int (nI ks.length)])), (co, .inl (Y.2.1 4, 6, .inr (.inr (.inr (.inr (fun l => some (ca l)))))))] ++ (KT Y ak ck ks ++ va_pl L f')) H locs := by rw [List.append_nil] at hW; exact hW
  refine W.eq (g2 := F0 m 165 ls []) rfl ?_
  refine lv_iload_n hx hb dX5_set_165 rfl (lv_at hl 0 rfl) ?_
  exact hI _ _ _ _ _ _ _ _ _ ⟨rfl, f', hf', rfl⟩ rfl rfl (Nat.le_of_ble_eq_true rfl) (Nat.le_of_ble_eq_true rfl) hW dX5_set_166
