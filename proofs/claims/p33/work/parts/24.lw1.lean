theorem pmq30 {α : Type} (c0 c1 c2 c3 c4 c5 : α) (t : List α) : ([c0, c1, c2, c3, c4, c5] ++ t : List α).Perm ([c2, c1, c3, c4, c5, c0] ++ t) := pmA _ _ (fun x => by simp only [List.count_append, List.count_cons, List.count_nil]; omega)
theorem pmq31 {α : Type} (c0 c1 c2 c3 c4 c5 : α) (t : List α) : ([c0, c1, c2, c3, c4, c5] ++ t : List α).Perm (([c5, c1]) ++ ([c0, c2, c3, c4] ++ t)) := pmA _ _ (fun x => by simp only [List.count_append, List.count_cons, List.count_nil]; omega)
theorem pmq32 {α : Type} (c0 c1 c2 c3 c4 c5 : α) (t : List α) : ([c0, c1, c2, c3, c4, c5] ++ t : List α).Perm (([c0, c1, c2, c3, c4] ++ t) ++ [c5]) := pmA _ _ (fun x => by simp only [List.count_append, List.count_cons, List.count_nil]; omega)
theorem pmq33 {α : Type} (c0 c1 c2 c3 c4 c5 : α) (t : List α) : ([c0, c1, c2, c3, c4, c5] ++ t : List α).Perm (([c5, c1, c2]) ++ ([c0, c3, c4] ++ t)) := pmA _ _ (fun x => by simp only [List.count_append, List.count_cons, List.count_nil]; omega)
theorem pmq34 {α : Type} (c0 c1 c2 c3 c4 c5 : α) (t : List α) : ([c0, c1, c2, c3, c4, c5] ++ t : List α).Perm ([c3, c1, c2, c4, c5, c0] ++ t) := pmA _ _ (fun x => by simp only [List.count_append, List.count_cons, List.count_nil]; omega)
theorem hn_0 {a b : Nat} (h : (if a < b then (1 : Int32) else 0) = 0) : b ≤ a := by
  rcases Nat.lt_or_ge a b with q | q
  · rw [if_pos q] at h; exact absurd h (by decide)
  · exact q
theorem hn_1 {a b : Nat} (h : ¬ (if a < b then (1 : Int32) else 0) = 0) : a < b := by
  rcases Nat.lt_or_ge a b with q | q
  · exact q
  · rw [if_neg (by omega)] at h; exact absurd rfl h
def NW (vs : List Nat) (f : Nat → va_E) (g : Nat → Int32) : Prop := ∀ p v : Nat, vs[p]? = some v → g (52 + p) = wtA (f v)
theorem wcz_0 {g : Nat → Int32} {k : Nat} (h : g (52 + k) = 0) : nI (wc g k) + 0 = nI (wc g (k + 1)) := by
  rw [Int32.add_zero, wc, if_neg (by rw [h]; decide), Nat.add_zero]
theorem wcz_1 {g : Nat → Int32} {k : Nat} (h : g (52 + k) = 1) : nI (wc g k) + 1 = nI (wc g (k + 1)) := by
  rw [nI_1, wc, if_pos h]
abbrev rmX5_waiting : Room := { frames := 3, cells := 1, slots := 4, locals := 53 }
set_option maxRecDepth 100000 in
set_option maxHeartbeats 4000000 in
theorem kX5_waiting (l : Launch) (Dd : va_G) (Y : yT) (rb vl kl co av cv ak ck : Nat) (ca : Nat → Nat) (vs ks L : List Nat) (f : Nat → va_E) (ru mo lk wn qu bu mv mk : Int32) (g : Nat → Int32) (hw : NW vs f g) (hC : vs.length ≤ cv ∧ cv ≤ 600) (hvo : VO L vs f) : MR l yX5_waiting wsX5_waiting rmX5_waiting Dd Y [.ref rb] ([(rb, .inr (5, [.ref vl, .ref kl, .ref co, .int ru, .int mo, .int lk, .int wn, .int qu, .int bu])), (vl, .inr (11, [.int mv, .ref av, .int (nI vs.length)])), (av, .inl (Y.2.1 2, cv, .inr (.inr (.inr (.inr (fun k => vs[k]?)))))), (kl, .inr (11, [.int mk, .ref ak, .int (nI ks.length)])), (co, .inl (Y.2.1 4, 6, .inr (.inr (.inr (.inr (fun l => some (ca l)))))))] ++ (KT Y ak ck ks ++ va_pl L f)) (fun rv w => rv = some (.int (nI (wc g vs.length))) ∧ w = [(rb, .inr (5, [.ref vl, .ref kl, .ref co, .int ru, .int mo, .int lk, .int wn, .int qu, .int bu])), (vl, .inr (11, [.int mv, .ref av, .int (nI vs.length)])), (av, .inl (Y.2.1 2, cv, .inr (.inr (.inr (.inr (fun k => vs[k]?)))))), (kl, .inr (11, [.int mk, .ref ak, .int (nI ks.length)])), (co, .inl (Y.2.1 4, 6, .inr (.inr (.inr (.inr (fun l => some (ca l)))))))] ++ (KT Y ak ck ks ++ va_pl L f)) 1 4 := by
  refine MRk (cc := cX5_waiting) (maxL := 4) (ret := (some .int)) (by decide) rfl (Nat.le_of_ble_eq_true rfl) (fun {p₀ e₀ s m args below meth c₀ A} ls Q X hin hW hl hI hV hA => ?_)
  have hx := X.x
  have hb := X.b
  have hl : lv_has ls 4 [(0, .ref rb)] := hl
  have hinX5 : ∀ w ∈ wsX50, w ∈ wsX5_waiting := fun w h => List.mem_cons_of_mem _ (List.mem_append_left _ (List.mem_append_left _ (List.mem_append_left _ (List.mem_append_right _ h))))
  have hinX7 : ∀ w ∈ wsX70, w ∈ wsX5_waiting := fun w h => List.mem_cons_of_mem _ (List.mem_append_left _ (List.mem_append_left _ (List.mem_append_right _ h)))
  refine lv_iconst (v := 0) hx hb dX5_waiting_0 (by decide) ?_
  refine lv_istore_n (lv' := [(1, .int 0), (0, .ref rb)]) hx hb dX5_waiting_1 rfl hl (by decide) rfl (fun ls hl => ?_)
  refine lv_aload_n hx hb dX5_waiting_2 rfl (lv_at hl 1 rfl) ?_
  refine g_ X hinX5 hW 0 rfl rfl 0 (by decide) 1 rfl rfl rfl dX5_waiting_3 ?_
  refine rF_ (As := []) (rest := []) (wc := [(vl, .inr (11, [.int mv, .ref av, .int (nI vs.length)]))]) (w9 := [(rb, .inr (5, [.ref vl, .ref kl, .ref co, .int ru, .int mo, .int lk, .int wn, .int qu, .int bu])), (av, .inl (Y.2.1 2, cv, .inr (.inr (.inr (.inr (fun k => vs[k]?)))))), (kl, .inr (11, [.int mk, .ref ak, .int (nI ks.length)])), (co, .inl (Y.2.1 4, 6, .inr (.inr (.inr (.inr (fun l => some (ca l)))))))] ++ (KT Y ak ck ks ++ va_pl L f)) X 0 (kJx4a65c_iterator_32c93 l Dd Y vl mv (nI vs.length) (.ref av)) gX5_waiting_Jx4a65c_iterator_32c93_f51Jx4a65c rfl rfl rfl (by decide +kernel) (by decide +kernel) ⟨(Nat.le_of_ble_eq_true rfl), (Nat.le_of_ble_eq_true rfl)⟩ hW (pmq25 _ _ _ _ _ _) 0 11 rfl rfl rfl rfl hl.1 rfl (Nat.le_of_ble_eq_true rfl) dX5_waiting_6 ⟨(Nat.le_of_ble_eq_true rfl), (Nat.le_of_ble_eq_true rfl)⟩ (fun rv wq H locs hp hW => ?_)
  obtain ⟨it, rfl, rfl⟩ := hp
  have hW : Wd Dd A s.heap ([(it, .inr (10, [.int 0, .int (-1), .int mv, .ref vl])), (vl, .inr (11, [.int mv, .ref av, .int (nI vs.length)])), (rb, .inr (5, [.ref vl, .ref kl, .ref co, .int ru, .int mo, .int lk, .int wn, .int qu, .int bu])), (av, .inl (Y.2.1 2, cv, .inr (.inr (.inr (.inr (fun k => vs[k]?)))))), (kl, .inr (11, [.int mk, .ref ak, .int (nI ks.length)])), (co, .inl (Y.2.1 4, 6, .inr (.inr (.inr (.inr (fun l => some (ca l)))))))] ++ (KT Y ak ck ks ++ va_pl L f)) H locs := hW
  refine W.eq (g2 := F0 m 11 ls [.ref it]) rfl ?_
  have hW : Wd Dd A s.heap ([(rb, .inr (5, [.ref vl, .ref kl, .ref co, .int ru, .int mo, .int lk, .int wn, .int qu, .int bu])), (vl, .inr (11, [.int mv, .ref av, .int (nI vs.length)])), (av, .inl (Y.2.1 2, cv, .inr (.inr (.inr (.inr (fun k => vs[k]?)))))), (kl, .inr (11, [.int mk, .ref ak, .int (nI ks.length)])), (co, .inl (Y.2.1 4, 6, .inr (.inr (.inr (.inr (fun l => some (ca l))))))), (it, .inr (10, [.int 0, .int (-1), .int mv, .ref vl]))] ++ (KT Y ak ck ks ++ va_pl L f)) H locs := hW.permA (pmq30 _ _ _ _ _ _ _)
  refine lv_astore_n (lv' := [(2, .ref it), (1, .int 0), (0, .ref rb)]) hx hb dX5_waiting_11 rfl hl (by decide) rfl (fun ls hl => ?_)
  have lp : ∀ (d : Nat) (ku : Nat) (la : Int32) (H : Heap) (locs : List Loc) (ls : Array Slot), (hk : ku ≤ vs.length) → (vs.length < d + ku) → lv_has ls 4 [(2, .ref it), (1, .int (nI (wc g ku))), (0, .ref rb)] → Wd Dd A s.heap ([(rb, .inr (5, [.ref vl, .ref kl, .ref co, .int ru, .int mo, .int lk, .int wn, .int qu, .int bu])), (vl, .inr (11, [.int mv, .ref av, .int (nI vs.length)])), (av, .inl (Y.2.1 2, cv, .inr (.inr (.inr (.inr (fun k => vs[k]?)))))), (kl, .inr (11, [.int mk, .ref ak, .int (nI ks.length)])), (co, .inl (Y.2.1 4, 6, .inr (.inr (.inr (.inr (fun l => some (ca l))))))), (it, .inr (10, [.int (nI ku), .int la, .int mv, .ref vl]))] ++ (KT Y ak ck ks ++ va_pl L f)) H locs → W p₀ l e₀ rmX5_waiting s m args below meth c₀ H locs (1) (4) Q (F0 m 12 ls []) := by
    intro d
    induction d with
    | zero => intro ku la H locs ls hk hfu; exact absurd hfu (by omega)
    | succ d ih =>
      intro ku la H locs ls hk hfu hl hW
      refine lv_aload_n hx hb dX5_waiting_12 rfl (lv_at hl 0 rfl) ?_
      refine rF_ (As := []) (rest := []) (wc := [(it, .inr (10, [.int (nI ku), .int la, .int mv, .ref vl])), (vl, .inr (11, [.int mv, .ref av, .int (nI vs.length)]))]) (w9 := [(rb, .inr (5, [.ref vl, .ref kl, .ref co, .int ru, .int mo, .int lk, .int wn, .int qu, .int bu])), (av, .inl (Y.2.1 2, cv, .inr (.inr (.inr (.inr (fun k => vs[k]?)))))), (kl, .inr (11, [.int mk, .ref ak, .int (nI ks.length)])), (co, .inl (Y.2.1 4, 6, .inr (.inr (.inr (.inr (fun l => some (ca l)))))))] ++ (KT Y ak ck ks ++ va_pl L f)) X 0 (kJx35411_hasNext_aae02 l Dd Y it vl ku vs.length la mv (.ref av) hk (by omega)) gX5_waiting_Jx35411_hasNext_aae02_f55Jx35411 rfl rfl rfl (by decide +kernel) (by decide +kernel) ⟨(Nat.le_of_ble_eq_true rfl), (Nat.le_of_ble_eq_true rfl)⟩ hW (pmq31 _ _ _ _ _ _ _) 0 10 rfl rfl rfl rfl hl.1 rfl (Nat.le_of_ble_eq_true rfl) dX5_waiting_13 ⟨(Nat.le_of_ble_eq_true rfl), (Nat.le_of_ble_eq_true rfl)⟩ (fun rv wq H locs hp hW => ?_)
      obtain ⟨rfl, rfl⟩ := hp
      have hW : Wd Dd A s.heap ([(it, .inr (10, [.int (nI ku), .int la, .int mv, .ref vl])), (vl, .inr (11, [.int mv, .ref av, .int (nI vs.length)])), (rb, .inr (5, [.ref vl, .ref kl, .ref co, .int ru, .int mo, .int lk, .int wn, .int qu, .int bu])), (av, .inl (Y.2.1 2, cv, .inr (.inr (.inr (.inr (fun k => vs[k]?)))))), (kl, .inr (11, [.int mk, .ref ak, .int (nI ks.length)])), (co, .inl (Y.2.1 4, 6, .inr (.inr (.inr (.inr (fun l => some (ca l)))))))] ++ (KT Y ak ck ks ++ va_pl L f)) H locs := hW
      have hW : Wd Dd A s.heap ([(rb, .inr (5, [.ref vl, .ref kl, .ref co, .int ru, .int mo, .int lk, .int wn, .int qu, .int bu])), (vl, .inr (11, [.int mv, .ref av, .int (nI vs.length)])), (av, .inl (Y.2.1 2, cv, .inr (.inr (.inr (.inr (fun k => vs[k]?)))))), (kl, .inr (11, [.int mk, .ref ak, .int (nI ks.length)])), (co, .inl (Y.2.1 4, 6, .inr (.inr (.inr (.inr (fun l => some (ca l))))))), (it, .inr (10, [.int (nI ku), .int la, .int mv, .ref vl]))] ++ (KT Y ak ck ks ++ va_pl L f)) H locs := hW.permA (pmq30 _ _ _ _ _ _ _)
      refine W.eq (g2 := F0 m 18 ls [.int (if ku < vs.length then 1 else 0)]) rfl ?_
      refine lv_if_eq (tgt := 49) hx hb dX5_waiting_18 (by decide) (fun cq => ?_) (fun cq => ?_)
      · have e : ku = vs.length := by have := hn_0 cq; omega
        have hW : Wd Dd A s.heap ([(rb, .inr (5, [.ref vl, .ref kl, .ref co, .int ru, .int mo, .int lk, .int wn, .int qu, .int bu])), (vl, .inr (11, [.int mv, .ref av, .int (nI vs.length)])), (av, .inl (Y.2.1 2, cv, .inr (.inr (.inr (.inr (fun k => vs[k]?)))))), (kl, .inr (11, [.int mk, .ref ak, .int (nI ks.length)])), (co, .inl (Y.2.1 4, 6, .inr (.inr (.inr (.inr (fun l => some (ca l)))))))] ++ (KT Y ak ck ks ++ va_pl L f)) H locs := (hW.permA (pmq32 _ _ _ _ _ _ _)).drop
        refine lv_iload_n hx hb dX5_waiting_49 rfl (lv_at hl 1 rfl) ?_
        exact hI _ _ _ _ _ _ _ _ _ ⟨by rw [e], rfl⟩ rfl rfl (Nat.le_of_ble_eq_true rfl) (Nat.le_of_ble_eq_true rfl) hW dX5_waiting_50
      · have hlt : ku < vs.length := hn_1 cq
        obtain ⟨v, hv⟩ := vs_at hlt
        have hgw : g (52 + ku) = wtA (f v) := hw ku v hv
        refine lv_aload_n hx hb dX5_waiting_21 rfl (lv_at hl 0 rfl) ?_
        refine rF_ (As := []) (rest := []) (wc := [(it, .inr (10, [.int (nI ku), .int la, .int mv, .ref vl])), (vl, .inr (11, [.int mv, .ref av, .int (nI vs.length)])), (av, .inl (Y.2.1 2, cv, .inr (.inr (.inr (.inr (fun k => vs[k]?))))))]) (w9 := [(rb, .inr (5, [.ref vl, .ref kl, .ref co, .int ru, .int mo, .int lk, .int wn, .int qu, .int bu])), (kl, .inr (11, [.int mk, .ref ak, .int (nI ks.length)])), (co, .inl (Y.2.1 4, 6, .inr (.inr (.inr (.inr (fun l => some (ca l)))))))] ++ (KT Y ak ck ks ++ va_pl L f)) X 0 (kJx35411_next_0502b l Dd Y it vl av cv ku vs.length la mv (fun k => vs[k]?) hlt hC.1 (by omega)) gX5_waiting_Jx35411_next_0502b_f61Jx35411 rfl rfl rfl (by decide +kernel) (by decide +kernel) ⟨(Nat.le_of_ble_eq_true rfl), (Nat.le_of_ble_eq_true rfl)⟩ hW (pmq33 _ _ _ _ _ _ _) 0 10 rfl rfl rfl rfl hl.1 rfl (Nat.le_of_ble_eq_true rfl) dX5_waiting_22 ⟨(Nat.le_of_ble_eq_true rfl), (Nat.le_of_ble_eq_true rfl)⟩ (fun rv wq H locs hp hW => ?_)
        obtain ⟨rfl, rfl⟩ := hp
        have hW : Wd Dd A s.heap ([(it, .inr (10, [.int (nI (ku + 1)), .int (nI ku), .int mv, .ref vl])), (vl, .inr (11, [.int mv, .ref av, .int (nI vs.length)])), (av, .inl (Y.2.1 2, cv, .inr (.inr (.inr (.inr (fun k => vs[k]?)))))), (rb, .inr (5, [.ref vl, .ref kl, .ref co, .int ru, .int mo, .int lk, .int wn, .int qu, .int bu])), (kl, .inr (11, [.int mk, .ref ak, .int (nI ks.length)])), (co, .inl (Y.2.1 4, 6, .inr (.inr (.inr (.inr (fun l => some (ca l)))))))] ++ (KT Y ak ck ks ++ va_pl L f)) H locs := hW
        have hW : Wd Dd A s.heap ([(rb, .inr (5, [.ref vl, .ref kl, .ref co, .int ru, .int mo, .int lk, .int wn, .int qu, .int bu])), (vl, .inr (11, [.int mv, .ref av, .int (nI vs.length)])), (av, .inl (Y.2.1 2, cv, .inr (.inr (.inr (.inr (fun k => vs[k]?)))))), (kl, .inr (11, [.int mk, .ref ak, .int (nI ks.length)])), (co, .inl (Y.2.1 4, 6, .inr (.inr (.inr (.inr (fun l => some (ca l))))))), (it, .inr (10, [.int (nI (ku + 1)), .int (nI ku), .int mv, .ref vl]))] ++ (KT Y ak ck ks ++ va_pl L f)) H locs := hW.permA (pmq34 _ _ _ _ _ _ _)
        refine W.eq (g2 := F0 m 27 ls [va_rf vs[ku]?]) rfl ?_
        rw [hv]
        refine W.eq (g2 := F0 m 27 ls [.ref v]) rfl ?_
        refine vCa_ X hW (hvo.at hv) (i := 2) rfl dX5_waiting_27 ?_
        refine lv_astore_n (lv' := [(3, .ref v), (2, .ref it), (1, .int (nI (wc g ku))), (0, .ref rb)]) hx hb dX5_waiting_30 rfl hl (by decide) rfl (fun ls hl => ?_)
        refine lv_iload_n hx hb dX5_waiting_31 rfl (lv_at hl 2 rfl) ?_
        refine lv_aload_n hx hb dX5_waiting_32 rfl (lv_at hl 0 rfl) ?_
        refine gVw_ X hinX7 hW (hvo.at hv) dX5_waiting_33 ?_
        refine lv_if_eq (tgt := 43) hx hb dX5_waiting_36 (by decide) (fun cw => ?_) (fun cw => ?_)
        · refine lv_iconst (v := 0) hx hb dX5_waiting_43 (by decide) ?_
          refine lv_iadd hx hb dX5_waiting_44 ?_
          rw [wcz_0 (hgw.trans cw)]
          refine lv_istore_n (lv' := [(1, .int (nI (wc g (ku + 1)))), (3, .ref v), (2, .ref it), (0, .ref rb)]) hx hb dX5_waiting_45 rfl hl (by decide) rfl (fun ls hl => ?_)
          refine lv_goto (tgt := 12) hx hb dX5_waiting_46 (by decide) ?_
          have hl : lv_has ls 4 [(2, .ref it), (1, .int (nI (wc g (ku + 1)))), (0, .ref rb)] := lv_sub hl [2, 0, 3] rfl
          exact ih (ku + 1) (nI ku) _ _ _ (by omega) (by omega) hl hW
        · refine lv_iconst (v := 1) hx hb dX5_waiting_39 (by decide) ?_
          refine lv_goto (tgt := 44) hx hb dX5_waiting_40 (by decide) ?_
          refine lv_iadd hx hb dX5_waiting_44 ?_
          rw [wcz_1 (hgw.trans ((hvo.at hv).2.2.resolve_left cw))]
          refine lv_istore_n (lv' := [(1, .int (nI (wc g (ku + 1)))), (3, .ref v), (2, .ref it), (0, .ref rb)]) hx hb dX5_waiting_45 rfl hl (by decide) rfl (fun ls hl => ?_)
          refine lv_goto (tgt := 12) hx hb dX5_waiting_46 (by decide) ?_
          have hl : lv_has ls 4 [(2, .ref it), (1, .int (nI (wc g (ku + 1)))), (0, .ref rb)] := lv_sub hl [2, 0, 3] rfl
          exact ih (ku + 1) (nI ku) _ _ _ (by omega) (by omega) hl hW
  exact lp (vs.length + 1) 0 (-1) _ _ _ (Nat.zero_le _) (by omega) hl hW
/-- the cells after some writes: what lies in P tells the least, all else stands -/
def BF (Y : yT) (vs L : List Nat) (ca : Nat → Nat) (g : Nat → Int32) (f f' : Nat → va_E) (Pw : Nat → Nat → Prop) : Prop := (∀ a : Nat, (∀ l, l < 6 → a ≠ ca l) → f' a = f a) ∧ CO Y L ca f' ∧ (∀ l p : Nat, 1 ≤ l → l ≤ 5 → p + 2 ^ l ≤ vs.length → Pw l p → clA (f' (ca l)) p = vs[lm g p (2 ^ l - 1)]?) ∧ ∀ l p : Nat, l < 6 → ¬ Pw l p → clA (f' (ca l)) p = clA (f (ca l)) p
theorem BF.rfl_ {Y : yT} {vs L : List Nat} {ca : Nat → Nat} {g : Nat → Int32} {f : Nat → va_E} {Pw : Nat → Nat → Prop} (h : CO Y L ca f) (hP : ∀ l p, 1 ≤ l → ¬ Pw l p) : BF Y vs L ca g f f Pw := ⟨fun _ _ => rfl, h, fun l p q1 _ _ q => absurd q (hP l p q1), fun _ _ _ _ => rfl⟩
theorem VO.ne {Y : yT} {vs L : List Nat} {ca : Nat → Nat} {f : Nat → va_E} (h : VO L vs f) (k : CO Y L ca f) {v : Nat} (hv : v ∈ vs) (l : Nat) (hl : l < 6) : v ≠ ca l := fun e => V_C (h.2 v hv).2 (e ▸ (k.1 l hl).2)
theorem BF.v {Y : yT} {vs L : List Nat} {ca : Nat → Nat} {g : Nat → Int32} {f f' : Nat → va_E} {Pw : Nat → Nat → Prop} (h : BF Y vs L ca g f f' Pw) (hv : VO L vs f) (hc : CO Y L ca f) {v : Nat} (hm : v ∈ vs) : f' v = f v := h.1 v (hv.ne hc hm)
theorem BF.vo {Y : yT} {vs L : List Nat} {ca : Nat → Nat} {g : Nat → Int32} {f f' : Nat → va_E} {Pw : Nat → Nat → Prop} (h : BF Y vs L ca g f f' Pw) (hv : VO L vs f) (hc : CO Y L ca f) : VO L vs f' := ⟨hv.1, fun v hm => by rw [h.v hv hc hm]; exact hv.2 v hm⟩
theorem BF.ng {Y : yT} {vs L : List Nat} {ca : Nat → Nat} {g : Nat → Int32} {f f' : Nat → va_E} {Pw : Nat → Nat → Prop} (h : BF Y vs L ca g f f' Pw) (hv : VO L vs f) (hc : CO Y L ca f) (hg : NG vs f g) : NG vs f' g := fun p v hp => by rw [h.v hv hc (List.mem_of_getElem? hp)]; exact hg p v hp
theorem clA_cE (Y : yT) (f : Nat → Option Nat) : clA (cE Y f) = f := rfl
theorem BF.w {Y : yT} {vs L : List Nat} {ca : Nat → Nat} {g : Nat → Int32} {f f' : Nat → va_E} {Pw : Nat → Nat → Prop} (h : BF Y vs L ca g f f' Pw) {l p v : Nat} (hl : l < 6) (hv : vs[lm g p (2 ^ l - 1)]? = some v) : BF Y vs L ca g f (va_up f' (ca l) (cE Y (va_up (clA (f' (ca l))) p (some v)))) (fun l' p' => (l' = l ∧ p' = p) ∨ Pw l' p') := by
  obtain ⟨h1, ⟨h2, h2i⟩, h3, h4⟩ := h
  have hu : ∀ l' p' : Nat, l' < 6 → clA (va_up f' (ca l) (cE Y (va_up (clA (f' (ca l))) p (some v))) (ca l')) p' = if l' = l ∧ p' = p then some v else clA (f' (ca l')) p' := by
    intro l' p' hl'
    unfold va_up
    by_cases e : l' = l
    · subst e
      rw [if_pos rfl, clA_cE]
      by_cases e2 : p' = p
      · rw [if_pos e2, if_pos ⟨rfl, e2⟩]
      · rw [if_neg e2, if_neg (fun q => e2 q.2)]
    · rw [if_neg (fun q => e (h2i _ _ hl' hl q)), if_neg (fun q => e q.1)]
  refine ⟨fun a ha => ?_, ⟨fun l' hl' => ?_, h2i⟩, fun l' p' q1 q5 q2 q3 => ?_, fun l' p' q1 q3 => ?_⟩
  · show va_up f' (ca l) _ a = f a
    unfold va_up
    rw [if_neg (ha l hl)]; exact h1 a ha
  · refine ⟨(h2 l' hl').1, ?_⟩
    unfold va_up
    by_cases e : ca l' = ca l
    · rw [if_pos e]; exact isC_cE Y _
    · rw [if_neg e]; exact (h2 l' hl').2
  · rw [hu l' p' (by omega)]
    by_cases e : l' = l ∧ p' = p
    · rw [if_pos e, e.1, e.2]; exact hv.symm
    · rw [if_neg e]; exact h3 l' p' q1 q5 q2 (q3.resolve_left e)
  · rw [hu l' p' q1, if_neg (fun q => q3 (Or.inl q))]
    exact h4 l' p' q1 (fun q => q3 (Or.inr q))
theorem BF.mono {Y : yT} {vs L : List Nat} {ca : Nat → Nat} {g : Nat → Int32} {f f' : Nat → va_E} {P1 P2 : Nat → Nat → Prop} (h : BF Y vs L ca g f f' P1) (h12 : ∀ l p : Nat, 1 ≤ l → l ≤ 5 → p + 2 ^ l ≤ vs.length → P2 l p → P1 l p) (h21 : ∀ l p : Nat, P1 l p → P2 l p) : BF Y vs L ca g f f' P2 := ⟨h.1, h.2.1, fun l p q1 q5 q2 q3 => h.2.2.1 l p q1 q5 q2 (h12 l p q1 q5 q2 q3), fun l p q1 q3 => h.2.2.2 l p q1 (fun q => q3 (h21 l p q))⟩
theorem cs_z {n l : Nat} (h1 : 1 ≤ l) (h : n < 2 ^ l) : ∀ k : Nat, k + l ≤ 6 → cs (fun l => n + 1 - 2 ^ l) k = 0 := by
  intro k
  induction k with
  | zero => intro _; rfl
  | succ k ih =>
    intro hk
    rw [cs, ih (by omega)]
    have : 2 ^ l ≤ 2 ^ (5 - k) := Nat.pow_le_pow_right (by decide) (by omega)
    show n + 1 - 2 ^ (5 - k) + 0 = 0
    omega
theorem cs_s (F : Nat → Nat) {l : Nat} (h1 : 1 ≤ l) (h5 : l ≤ 5) : cs F (6 - l) = F l + cs F (5 - l) := by
  rw [show 6 - l = (5 - l) + 1 by omega, cs, show 5 - (5 - l) = l by omega]
theorem pw_5 {l n : Nat} (h : 2 ^ l ≤ n) (hn : n ≤ 40) : l ≤ 5 := by
  rcases Nat.lt_or_ge 5 l with q | q
  · have : 2 ^ 6 ≤ 2 ^ l := Nat.pow_le_pow_right (by decide) q
    omega
  · exact q
theorem pw_6 {l n : Nat} (h : 2 ^ l ≤ n) (hn : n ≤ 40) : 2 ^ l < 100 := by omega
theorem wn_1 (w : Int32) (c : Nat) : w + nI c + 1 = w + nI (c + 1) := by rw [Int32.add_assoc, nI_1]
/-- the values' marks are taken off, up to a place -/
def BZ (vs : List Nat) (f f' : Nat → va_E) (k : Nat) : Prop := (∀ a : Nat, (∀ p : Nat, p < k → vs[p]? ≠ some a) → f' a = f a) ∧ ∀ p v : Nat, p < k → vs[p]? = some v → f' v = vE (nuA (f v)) 0
theorem BZ.s {vs : List Nat} {f f' : Nat → va_E} {k v : Nat} (hn : vs.Nodup) (h : BZ vs f f' k) (hv : vs[k]? = some v) : BZ vs f (va_up f' v (vE (nuA (f' v)) 0)) (k + 1) := by
  have e0 : f' v = f v := h.1 v (fun p hp q => by have := vs_inj hn q hv; omega)
  refine ⟨fun a ha => ?_, fun p v' hp hv' => ?_⟩
  · unfold va_up
    rw [if_neg (fun e : a = v => ha k (by omega) (by rw [e]; exact hv))]
    exact h.1 a (fun p hp => ha p (by omega))
  · unfold va_up
    by_cases e : v' = v
    · rw [if_pos e, e, e0]
    · rw [if_neg e]
      exact h.2 p v' (by rcases Nat.lt_or_ge p k with q | q; exact q; exact absurd (Option.some.inj ((show p = k by omega) ▸ hv' |>.symm.trans hv)) e) hv'
theorem BZ.vo {vs L : List Nat} {f f' : Nat → va_E} {k : Nat} (h : BZ vs f f' k) (hv : VO L vs f) : VO L vs f' := by
  refine ⟨hv.1, fun v hm => ⟨(hv.2 v hm).1, ?_⟩⟩
  obtain ⟨p, hp⟩ := List.getElem?_of_mem hm
  rcases Nat.lt_or_ge p k with q | q
  · rw [h.2 p v q hp]; exact isV_vE (Or.inl rfl)
  · rw [h.1 v (fun p' hp' e => by have := vs_inj hv.1 e hp; omega)]; exact (hv.2 v hm).2
def BLD (Y : yT) (vs L : List Nat) (ca : Nat → Nat) (g : Nat → Int32) (f f' : Nat → va_E) : Prop := (∀ a : Nat, a ∉ vs → (∀ l, l < 6 → a ≠ ca l) → f' a = f a) ∧ (∀ v ∈ vs, f' v = vE (nuA (f v)) 0) ∧ CO Y L ca f' ∧ ∀ l p : Nat, 1 ≤ l → l ≤ 5 → p + 2 ^ l ≤ vs.length → clA (f' (ca l)) p = vs[lm g p (2 ^ l - 1)]?
theorem BLD.of {Y : yT} {vs L : List Nat} {ca : Nat → Nat} {g : Nat → Int32} {f f1 f2 : Nat → va_E} (hv : VO L vs f) (hc : CO Y L ca f) (h1 : BF Y vs L ca g f f1 (fun _ _ => True)) (h2 : BZ vs f1 f2 vs.length) : BLD Y vs L ca g f f2 := by
  have hn : ∀ l, l < 6 → f2 (ca l) = f1 (ca l) := fun l hl => h2.1 _ (fun p hp e => (h1.vo hv hc).ne h1.2.1 (List.mem_of_getElem? e) l hl rfl)
  refine ⟨fun a ha hl => ?_, fun v hm => ?_, ⟨fun l hl => ?_, hc.2⟩, fun l p q1 q5 q2 => ?_⟩
  · rw [h2.1 a (fun p hp e => ha (List.mem_of_getElem? e))]; exact h1.1 a hl
  · obtain ⟨p, hp⟩ := List.getElem?_of_mem hm
    rw [h2.2 p v (List.getElem?_eq_some_iff.mp hp).1 hp, h1.v hv hc hm]
  · rw [hn l hl]; exact h1.2.1.1 l hl
  · rw [hn l (by omega)]; exact h1.2.2.1 l p q1 q5 q2 trivial
abbrev rmX5_build : Room := { frames := 5, cells := 1, slots := 4, locals := 112 }
set_option maxRecDepth 100000 in
set_option maxHeartbeats 4000000 in
theorem kX5_build (l : Launch) (Dd : va_G) (Y : yT) (rb vl kl co av cv ak ck : Nat) (ca : Nat → Nat) (vs ks L : List Nat) (f : Nat → va_E) (ru mo lk wn qu bu mv mk : Int32) (g : Nat → Int32) (hg : NG vs f g) (hC : vs.length ≤ cv ∧ cv ≤ 600) (hvo : VO L vs f) (hO : CO Y L ca f) (h3 : vs.length ≤ 40) : MR l yX5_build wsX5_build rmX5_build Dd Y [.ref rb] ([(rb, .inr (5, [.ref vl, .ref kl, .ref co, .int ru, .int mo, .int lk, .int wn, .int qu, .int bu])), (vl, .inr (11, [.int mv, .ref av, .int (nI vs.length)])), (av, .inl (Y.2.1 2, cv, .inr (.inr (.inr (.inr (fun k => vs[k]?)))))), (kl, .inr (11, [.int mk, .ref ak, .int (nI ks.length)])), (co, .inl (Y.2.1 4, 6, .inr (.inr (.inr (.inr (fun l => some (ca l)))))))] ++ (KT Y ak ck ks ++ va_pl L f)) (fun rv w => ∃ f' : Nat → va_E, BLD Y vs L ca g f f' ∧ rv = none ∧ w = [(rb, .inr (5, [.ref vl, .ref kl, .ref co, .int ru, .int mo, .int lk, .int (wn + nI (cs (fun l => vs.length + 1 - 2 ^ l) 5)), .int qu, .int (bu + 1)])), (vl, .inr (11, [.int mv, .ref av, .int (nI vs.length)])), (av, .inl (Y.2.1 2, cv, .inr (.inr (.inr (.inr (fun k => vs[k]?)))))), (kl, .inr (11, [.int mk, .ref ak, .int (nI ks.length)])), (co, .inl (Y.2.1 4, 6, .inr (.inr (.inr (.inr (fun l => some (ca l)))))))] ++ (KT Y ak ck ks ++ va_pl L f')) 1 4 := by
  refine MRk (cc := cX5_build) (maxL := 4) (ret := none) (by decide) rfl (Nat.le_of_ble_eq_true rfl) (fun {p₀ e₀ s m args below meth c₀ A} ls Q X hin hW hl hI hV hA => ?_)
  have hx := X.x
  have hb := X.b
  have hl : lv_has ls 4 [(0, .ref rb)] := hl
  have hinX5 : ∀ w ∈ wsX50, w ∈ wsX5_build := fun w h => List.mem_cons_of_mem _ (List.mem_append_left _ (List.mem_append_left _ (List.mem_append_left _ (List.mem_append_right _ h))))
  have hinX7 : ∀ w ∈ wsX70, w ∈ wsX5_build := fun w h => List.mem_cons_of_mem _ (List.mem_append_left _ (List.mem_append_left _ (List.mem_append_right _ h)))
  refine lv_iconst (v := 2) hx hb dX5_build_0 (by decide) ?_
  refine lv_istore_n (lv' := [(1, .int 2), (0, .ref rb)]) hx hb dX5_build_1 rfl hl (by decide) rfl (fun ls hl => ?_)
  refine lv_iconst (v := 1) hx hb dX5_build_2 (by decide) ?_
  refine lv_istore_n (lv' := [(2, .int 1), (1, .int 2), (0, .ref rb)]) hx hb dX5_build_3 rfl hl (by decide) rfl (fun ls hl => ?_)
  have lpo : ∀ (d : Nat) (lv : Nat) (cn : Nat) (f1 : Nat → va_E) (H : Heap) (locs : List Loc) (ls : Array Slot), (hlv : 1 ≤ lv ∧ lv ≤ 6) → (hcn : cn + cs (fun l => vs.length + 1 - 2 ^ l) (6 - lv) = cs (fun l => vs.length + 1 - 2 ^ l) 5) → (hB : BF Y vs L ca g f f1 (fun l p => l < lv)) → (6 < d + lv) → lv_has ls 4 [(2, .int (nI lv)), (1, .int (nI (2 ^ lv))), (0, .ref rb)] → Wd Dd A s.heap ([(rb, .inr (5, [.ref vl, .ref kl, .ref co, .int ru, .int mo, .int lk, .int (wn + nI cn), .int qu, .int bu])), (vl, .inr (11, [.int mv, .ref av, .int (nI vs.length)])), (av, .inl (Y.2.1 2, cv, .inr (.inr (.inr (.inr (fun k => vs[k]?)))))), (kl, .inr (11, [.int mk, .ref ak, .int (nI ks.length)])), (co, .inl (Y.2.1 4, 6, .inr (.inr (.inr (.inr (fun l => some (ca l)))))))] ++ (KT Y ak ck ks ++ va_pl L f1)) H locs → W p₀ l e₀ rmX5_build s m args below meth c₀ H locs (0) (0) Q (F0 m 4 ls []) := by
    intro d
    induction d with
    | zero => intro lv cn f1 H locs ls hlv hcn hB hfu; exact absurd hfu (by omega)
    | succ d ih =>
      intro lv cn f1 H locs ls hlv hcn hB hfu hl hW
      have hp64 : 2 ^ lv ≤ 2 ^ 6 := Nat.pow_le_pow_right (by decide) hlv.2
      have hp0 : 0 < 2 ^ lv := Nat.two_pow_pos lv
      refine lv_iload_n hx hb dX5_build_4 rfl (lv_at hl 1 rfl) ?_
      refine lv_aload_n hx hb dX5_build_5 rfl (lv_at hl 2 rfl) ?_
      refine g_ X hinX5 hW 0 rfl rfl 0 (by decide) 1 rfl rfl rfl dX5_build_6 ?_
      refine rF_ (As := []) (rest := [.int (nI (2 ^ lv))]) (wc := [(vl, .inr (11, [.int mv, .ref av, .int (nI vs.length)]))]) (w9 := [(rb, .inr (5, [.ref vl, .ref kl, .ref co, .int ru, .int mo, .int lk, .int (wn + nI cn), .int qu, .int bu])), (av, .inl (Y.2.1 2, cv, .inr (.inr (.inr (.inr (fun k => vs[k]?)))))), (kl, .inr (11, [.int mk, .ref ak, .int (nI ks.length)])), (co, .inl (Y.2.1 4, 6, .inr (.inr (.inr (.inr (fun l => some (ca l)))))))] ++ (KT Y ak ck ks ++ va_pl L f1)) X 0 (kJx4a65c_size_8abf5 l Dd Y vl mv (nI vs.length) (.ref av)) gX5_build_Jx4a65c_size_8abf5_f24Jx4a65c rfl rfl rfl (by decide +kernel) (by decide +kernel) ⟨(Nat.le_of_ble_eq_true rfl), (Nat.le_of_ble_eq_true rfl)⟩ hW (pmq25 _ _ _ _ _ _) 0 11 rfl rfl rfl rfl hl.1 rfl (Nat.le_of_ble_eq_true rfl) dX5_build_9 ⟨(Nat.le_of_ble_eq_true rfl), (Nat.le_of_ble_eq_true rfl)⟩ (fun rv wq H locs hp hW => ?_)
      obtain ⟨rfl, rfl⟩ := hp
      have hW : Wd Dd A s.heap ([(vl, .inr (11, [.int mv, .ref av, .int (nI vs.length)])), (rb, .inr (5, [.ref vl, .ref kl, .ref co, .int ru, .int mo, .int lk, .int (wn + nI cn), .int qu, .int bu])), (av, .inl (Y.2.1 2, cv, .inr (.inr (.inr (.inr (fun k => vs[k]?)))))), (kl, .inr (11, [.int mk, .ref ak, .int (nI ks.length)])), (co, .inl (Y.2.1 4, 6, .inr (.inr (.inr (.inr (fun l => some (ca l)))))))] ++ (KT Y ak ck ks ++ va_pl L f1)) H locs := hW
      have hW : Wd Dd A s.heap ([(rb, .inr (5, [.ref vl, .ref kl, .ref co, .int ru, .int mo, .int lk, .int (wn + nI cn), .int qu, .int bu])), (vl, .inr (11, [.int mv, .ref av, .int (nI vs.length)])), (av, .inl (Y.2.1 2, cv, .inr (.inr (.inr (.inr (fun k => vs[k]?)))))), (kl, .inr (11, [.int mk, .ref ak, .int (nI ks.length)])), (co, .inl (Y.2.1 4, 6, .inr (.inr (.inr (.inr (fun l => some (ca l)))))))] ++ (KT Y ak ck ks ++ va_pl L f1)) H locs := hW.permA (pmq26 _ _ _ _ _ _)
      refine W.eq (g2 := F0 m 14 ls [.int (nI vs.length), .int (nI (2 ^ lv))]) rfl ?_
      refine lv_icmp_gt (tgt := 56) hx hb dX5_build_14 (by decide) (fun cq => ?_) (fun cq => ?_)
      · have hgt : vs.length < 2 ^ lv := (nI_ltI (by omega) (by omega)).mp cq
        have e : cn = cs (fun l => vs.length + 1 - 2 ^ l) 5 := by rw [← hcn, cs_z hlv.1 hgt (6 - lv) (by omega), Nat.add_zero]
        have hB2 : BF Y vs L ca g f f1 (fun _ _ => True) := hB.mono (fun l p q1 q5 q2 _ => by
        show l < lv
        rcases Nat.lt_or_ge l lv with q | q
        · exact q
        · have : 2 ^ lv ≤ 2 ^ l := Nat.pow_le_pow_right (by decide) q
          omega) (fun _ _ _ => trivial)
        clear hB
        have hv1 := hB2.vo hvo hO
        refine lv_aload_n hx hb dX5_build_56 rfl (lv_at hl 2 rfl) ?_
        refine g_ X hinX5 hW 0 rfl rfl 0 (by decide) 1 rfl rfl rfl dX5_build_57 ?_
        refine rF_ (As := []) (rest := []) (wc := [(vl, .inr (11, [.int mv, .ref av, .int (nI vs.length)]))]) (w9 := [(rb, .inr (5, [.ref vl, .ref kl, .ref co, .int ru, .int mo, .int lk, .int (wn + nI cn), .int qu, .int bu])), (av, .inl (Y.2.1 2, cv, .inr (.inr (.inr (.inr (fun k => vs[k]?)))))), (kl, .inr (11, [.int mk, .ref ak, .int (nI ks.length)])), (co, .inl (Y.2.1 4, 6, .inr (.inr (.inr (.inr (fun l => some (ca l)))))))] ++ (KT Y ak ck ks ++ va_pl L f1)) X 0 (kJx4a65c_iterator_32c93 l Dd Y vl mv (nI vs.length) (.ref av)) gX5_build_Jx4a65c_iterator_32c93_f51Jx4a65c rfl rfl rfl (by decide +kernel) (by decide +kernel) ⟨(Nat.le_of_ble_eq_true rfl), (Nat.le_of_ble_eq_true rfl)⟩ hW (pmq25 _ _ _ _ _ _) 0 11 rfl rfl rfl rfl hl.1 rfl (Nat.le_of_ble_eq_true rfl) dX5_build_60 ⟨(Nat.le_of_ble_eq_true rfl), (Nat.le_of_ble_eq_true rfl)⟩ (fun rv wq H locs hp hW => ?_)
        obtain ⟨it, rfl, rfl⟩ := hp
        have hW : Wd Dd A s.heap ([(it, .inr (10, [.int 0, .int (-1), .int mv, .ref vl])), (vl, .inr (11, [.int mv, .ref av, .int (nI vs.length)])), (rb, .inr (5, [.ref vl, .ref kl, .ref co, .int ru, .int mo, .int lk, .int (wn + nI cn), .int qu, .int bu])), (av, .inl (Y.2.1 2, cv, .inr (.inr (.inr (.inr (fun k => vs[k]?)))))), (kl, .inr (11, [.int mk, .ref ak, .int (nI ks.length)])), (co, .inl (Y.2.1 4, 6, .inr (.inr (.inr (.inr (fun l => some (ca l)))))))] ++ (KT Y ak ck ks ++ va_pl L f1)) H locs := hW
        refine W.eq (g2 := F0 m 65 ls [.ref it]) rfl ?_
        have hW : Wd Dd A s.heap ([(rb, .inr (5, [.ref vl, .ref kl, .ref co, .int ru, .int mo, .int lk, .int (wn + nI cn), .int qu, .int bu])), (vl, .inr (11, [.int mv, .ref av, .int (nI vs.length)])), (av, .inl (Y.2.1 2, cv, .inr (.inr (.inr (.inr (fun k => vs[k]?)))))), (kl, .inr (11, [.int mk, .ref ak, .int (nI ks.length)])), (co, .inl (Y.2.1 4, 6, .inr (.inr (.inr (.inr (fun l => some (ca l))))))), (it, .inr (10, [.int 0, .int (-1), .int mv, .ref vl]))] ++ (KT Y ak ck ks ++ va_pl L f1)) H locs := hW.permA (pmq30 _ _ _ _ _ _ _)
        refine lv_astore_n (lv' := [(2, .ref it), (1, .int (nI (2 ^ lv))), (0, .ref rb)]) hx hb dX5_build_65 rfl hl (by decide) rfl (fun ls hl => ?_)
        have hl : lv_has ls 4 [(2, .ref it), (0, .ref rb)] := lv_sub hl [0, 2] rfl
        have lpz : ∀ (d : Nat) (ku : Nat) (la : Int32) (f2 : Nat → va_E) (H : Heap) (locs : List Loc) (ls : Array Slot), (hk : ku ≤ vs.length) → (hZ : BZ vs f1 f2 ku) → (vs.length < d + ku) → lv_has ls 4 [(2, .ref it), (0, .ref rb)] → Wd Dd A s.heap ([(rb, .inr (5, [.ref vl, .ref kl, .ref co, .int ru, .int mo, .int lk, .int (wn + nI cn), .int qu, .int bu])), (vl, .inr (11, [.int mv, .ref av, .int (nI vs.length)])), (av, .inl (Y.2.1 2, cv, .inr (.inr (.inr (.inr (fun k => vs[k]?)))))), (kl, .inr (11, [.int mk, .ref ak, .int (nI ks.length)])), (co, .inl (Y.2.1 4, 6, .inr (.inr (.inr (.inr (fun l => some (ca l))))))), (it, .inr (10, [.int (nI ku), .int la, .int mv, .ref vl]))] ++ (KT Y ak ck ks ++ va_pl L f2)) H locs → W p₀ l e₀ rmX5_build s m args below meth c₀ H locs (1) (4) Q (F0 m 66 ls []) := by
          intro d
          induction d with
          | zero => intro ku la f2 H locs ls hk hZ hfu; exact absurd hfu (by omega)
          | succ d ihz =>
            intro ku la f2 H locs ls hk hZ hfu hl hW
            refine lv_aload_n hx hb dX5_build_66 rfl (lv_at hl 0 rfl) ?_
            refine rF_ (As := []) (rest := []) (wc := [(it, .inr (10, [.int (nI ku), .int la, .int mv, .ref vl])), (vl, .inr (11, [.int mv, .ref av, .int (nI vs.length)]))]) (w9 := [(rb, .inr (5, [.ref vl, .ref kl, .ref co, .int ru, .int mo, .int lk, .int (wn + nI cn), .int qu, .int bu])), (av, .inl (Y.2.1 2, cv, .inr (.inr (.inr (.inr (fun k => vs[k]?)))))), (kl, .inr (11, [.int mk, .ref ak, .int (nI ks.length)])), (co, .inl (Y.2.1 4, 6, .inr (.inr (.inr (.inr (fun l => some (ca l)))))))] ++ (KT Y ak ck ks ++ va_pl L f2)) X 0 (kJx35411_hasNext_aae02 l Dd Y it vl ku vs.length la mv (.ref av) hk (by omega)) gX5_build_Jx35411_hasNext_aae02_f55Jx35411 rfl rfl rfl (by decide +kernel) (by decide +kernel) ⟨(Nat.le_of_ble_eq_true rfl), (Nat.le_of_ble_eq_true rfl)⟩ hW (pmq31 _ _ _ _ _ _ _) 0 10 rfl rfl rfl rfl hl.1 rfl (Nat.le_of_ble_eq_true rfl) dX5_build_67 ⟨(Nat.le_of_ble_eq_true rfl), (Nat.le_of_ble_eq_true rfl)⟩ (fun rv wq H locs hp hW => ?_)
            obtain ⟨rfl, rfl⟩ := hp
            have hW : Wd Dd A s.heap ([(it, .inr (10, [.int (nI ku), .int la, .int mv, .ref vl])), (vl, .inr (11, [.int mv, .ref av, .int (nI vs.length)])), (rb, .inr (5, [.ref vl, .ref kl, .ref co, .int ru, .int mo, .int lk, .int (wn + nI cn), .int qu, .int bu])), (av, .inl (Y.2.1 2, cv, .inr (.inr (.inr (.inr (fun k => vs[k]?)))))), (kl, .inr (11, [.int mk, .ref ak, .int (nI ks.length)])), (co, .inl (Y.2.1 4, 6, .inr (.inr (.inr (.inr (fun l => some (ca l)))))))] ++ (KT Y ak ck ks ++ va_pl L f2)) H locs := hW
            have hW : Wd Dd A s.heap ([(rb, .inr (5, [.ref vl, .ref kl, .ref co, .int ru, .int mo, .int lk, .int (wn + nI cn), .int qu, .int bu])), (vl, .inr (11, [.int mv, .ref av, .int (nI vs.length)])), (av, .inl (Y.2.1 2, cv, .inr (.inr (.inr (.inr (fun k => vs[k]?)))))), (kl, .inr (11, [.int mk, .ref ak, .int (nI ks.length)])), (co, .inl (Y.2.1 4, 6, .inr (.inr (.inr (.inr (fun l => some (ca l))))))), (it, .inr (10, [.int (nI ku), .int la, .int mv, .ref vl]))] ++ (KT Y ak ck ks ++ va_pl L f2)) H locs := hW.permA (pmq30 _ _ _ _ _ _ _)
            refine W.eq (g2 := F0 m 72 ls [.int (if ku < vs.length then 1 else 0)]) rfl ?_
            refine lv_if_eq (tgt := 93) hx hb dX5_build_72 (by decide) (fun cz => ?_) (fun cz => ?_)
            · have e2 : ku = vs.length := by have := hn_0 cz; omega
              rw [e2] at hZ
              have hW : Wd Dd A s.heap ([(rb, .inr (5, [.ref vl, .ref kl, .ref co, .int ru, .int mo, .int lk, .int (wn + nI cn), .int qu, .int bu])), (vl, .inr (11, [.int mv, .ref av, .int (nI vs.length)])), (av, .inl (Y.2.1 2, cv, .inr (.inr (.inr (.inr (fun k => vs[k]?)))))), (kl, .inr (11, [.int mk, .ref ak, .int (nI ks.length)])), (co, .inl (Y.2.1 4, 6, .inr (.inr (.inr (.inr (fun l => some (ca l)))))))] ++ (KT Y ak ck ks ++ va_pl L f2)) H locs := (hW.permA (pmq32 _ _ _ _ _ _ _)).drop
              refine lv_aload_n hx hb dX5_build_93 rfl (lv_at hl 1 rfl) ?_
              refine lv_dup hx hb dX5_build_94 rfl ?_
              refine g_ X hinX5 hW 0 rfl rfl 8 (by decide) 3 rfl rfl rfl dX5_build_95 ?_
              refine lv_iconst (v := 1) hx hb dX5_build_98 (by decide) ?_
              refine lv_iadd hx hb dX5_build_99 ?_
              refine p_ (ty := .int) X hinX5 tyX5 tyX5_ok nmX5 hW 0 rfl rfl 8 (by decide) 3 rfl rfl rfl (by decide +kernel) rfl rfl (Nat.le_of_ble_eq_true rfl) dX5_build_100 (ws' := [(rb, .inr (5, [.ref vl, .ref kl, .ref co, .int ru, .int mo, .int lk, .int (wn + nI cn), .int qu, .int (bu + 1)])), (vl, .inr (11, [.int mv, .ref av, .int (nI vs.length)])), (av, .inl (Y.2.1 2, cv, .inr (.inr (.inr (.inr (fun k => vs[k]?)))))), (kl, .inr (11, [.int mk, .ref ak, .int (nI ks.length)])), (co, .inl (Y.2.1 4, 6, .inr (.inr (.inr (.inr (fun l => some (ca l)))))))] ++ (KT Y ak ck ks ++ va_pl L f2)) rfl (fun H locs hW => ?_)
              exact hV _ _ _ _ _ _ _ ⟨f2, BLD.of hvo hO hB2 hZ, rfl, by rw [e]⟩ rfl (Nat.le_of_ble_eq_true rfl) (Nat.le_of_ble_eq_true rfl) hW dX5_build_103
            · have hlt : ku < vs.length := hn_1 cz
              obtain ⟨v, hv⟩ := vs_at hlt
              have hv2 := hZ.vo hv1
              refine lv_aload_n hx hb dX5_build_75 rfl (lv_at hl 0 rfl) ?_
              refine rF_ (As := []) (rest := []) (wc := [(it, .inr (10, [.int (nI ku), .int la, .int mv, .ref vl])), (vl, .inr (11, [.int mv, .ref av, .int (nI vs.length)])), (av, .inl (Y.2.1 2, cv, .inr (.inr (.inr (.inr (fun k => vs[k]?))))))]) (w9 := [(rb, .inr (5, [.ref vl, .ref kl, .ref co, .int ru, .int mo, .int lk, .int (wn + nI cn), .int qu, .int bu])), (kl, .inr (11, [.int mk, .ref ak, .int (nI ks.length)])), (co, .inl (Y.2.1 4, 6, .inr (.inr (.inr (.inr (fun l => some (ca l)))))))] ++ (KT Y ak ck ks ++ va_pl L f2)) X 0 (kJx35411_next_0502b l Dd Y it vl av cv ku vs.length la mv (fun k => vs[k]?) hlt hC.1 (by omega)) gX5_build_Jx35411_next_0502b_f61Jx35411 rfl rfl rfl (by decide +kernel) (by decide +kernel) ⟨(Nat.le_of_ble_eq_true rfl), (Nat.le_of_ble_eq_true rfl)⟩ hW (pmq33 _ _ _ _ _ _ _) 0 10 rfl rfl rfl rfl hl.1 rfl (Nat.le_of_ble_eq_true rfl) dX5_build_76 ⟨(Nat.le_of_ble_eq_true rfl), (Nat.le_of_ble_eq_true rfl)⟩ (fun rv wq H locs hp hW => ?_)
              obtain ⟨rfl, rfl⟩ := hp
              have hW : Wd Dd A s.heap ([(it, .inr (10, [.int (nI (ku + 1)), .int (nI ku), .int mv, .ref vl])), (vl, .inr (11, [.int mv, .ref av, .int (nI vs.length)])), (av, .inl (Y.2.1 2, cv, .inr (.inr (.inr (.inr (fun k => vs[k]?)))))), (rb, .inr (5, [.ref vl, .ref kl, .ref co, .int ru, .int mo, .int lk, .int (wn + nI cn), .int qu, .int bu])), (kl, .inr (11, [.int mk, .ref ak, .int (nI ks.length)])), (co, .inl (Y.2.1 4, 6, .inr (.inr (.inr (.inr (fun l => some (ca l)))))))] ++ (KT Y ak ck ks ++ va_pl L f2)) H locs := hW
              have hW : Wd Dd A s.heap ([(rb, .inr (5, [.ref vl, .ref kl, .ref co, .int ru, .int mo, .int lk, .int (wn + nI cn), .int qu, .int bu])), (vl, .inr (11, [.int mv, .ref av, .int (nI vs.length)])), (av, .inl (Y.2.1 2, cv, .inr (.inr (.inr (.inr (fun k => vs[k]?)))))), (kl, .inr (11, [.int mk, .ref ak, .int (nI ks.length)])), (co, .inl (Y.2.1 4, 6, .inr (.inr (.inr (.inr (fun l => some (ca l))))))), (it, .inr (10, [.int (nI (ku + 1)), .int (nI ku), .int mv, .ref vl]))] ++ (KT Y ak ck ks ++ va_pl L f2)) H locs := hW.permA (pmq34 _ _ _ _ _ _ _)
              refine W.eq (g2 := F0 m 81 ls [va_rf vs[ku]?]) rfl ?_
              rw [hv]
              refine W.eq (g2 := F0 m 81 ls [.ref v]) rfl ?_
              refine vCa_ X hW (hv2.at hv) (i := 2) rfl dX5_build_81 ?_
              refine lv_astore_n (lv' := [(3, .ref v), (2, .ref it), (0, .ref rb)]) hx hb dX5_build_84 rfl hl (by decide) rfl (fun ls hl => ?_)
              refine lv_aload_n hx hb dX5_build_85 rfl (lv_at hl 0 rfl) ?_
              refine lv_iconst (v := 0) hx hb dX5_build_86 (by decide) ?_
              refine pVw_ X hinX7 hW (hv2.at hv) (Or.inl rfl) dX5_build_87 (fun H locs hW => ?_)
              have hW : Wd Dd A s.heap ([(rb, .inr (5, [.ref vl, .ref kl, .ref co, .int ru, .int mo, .int lk, .int (wn + nI cn), .int qu, .int bu])), (vl, .inr (11, [.int mv, .ref av, .int (nI vs.length)])), (av, .inl (Y.2.1 2, cv, .inr (.inr (.inr (.inr (fun k => vs[k]?)))))), (kl, .inr (11, [.int mk, .ref ak, .int (nI ks.length)])), (co, .inl (Y.2.1 4, 6, .inr (.inr (.inr (.inr (fun l => some (ca l))))))), (it, .inr (10, [.int (nI (ku + 1)), .int (nI ku), .int mv, .ref vl]))] ++ (KT Y ak ck ks ++ va_pl L (va_up f2 v (vE (nuA (f2 v)) 0)))) H locs := hW
              refine lv_goto (tgt := 66) hx hb dX5_build_90 (by decide) ?_
              have hl : lv_has ls 4 [(2, .ref it), (0, .ref rb)] := lv_sub hl [1, 2] rfl
              exact ihz (ku + 1) (nI ku) _ _ _ _ (by omega) (hZ.s hvo.1 hv) (by omega) hl hW
        exact lpz (vs.length + 1) 0 (-1) f1 _ _ _ (Nat.zero_le _) ⟨fun _ _ => rfl, fun p v hp => absurd hp (Nat.not_lt_zero p)⟩ (by omega) hl hW
      · have hle : 2 ^ lv ≤ vs.length := Nat.le_of_not_lt (fun h => cq ((nI_ltI (by omega) (by omega)).mpr h))
        have h5 : lv ≤ 5 := pw_5 hle h3
        refine lv_iconst (v := 0) hx hb dX5_build_17 (by decide) ?_
        refine lv_istore_n (lv' := [(3, .int 0), (2, .int (nI lv)), (1, .int (nI (2 ^ lv))), (0, .ref rb)]) hx hb dX5_build_18 rfl hl (by decide) rfl (fun ls hl => ?_)
        have lpi : ∀ (d : Nat) (pl : Nat) (ci : Nat) (f2 : Nat → va_E) (H : Heap) (locs : List Loc) (ls : Array Slot), (hpl : pl ≤ vs.length + 1 - 2 ^ lv) → (hci : ci + (vs.length + 1 - 2 ^ lv - pl) + cs (fun l => vs.length + 1 - 2 ^ l) (5 - lv) = cs (fun l => vs.length + 1 - 2 ^ l) 5) → (hB2 : BF Y vs L ca g f f2 (fun l p => l < lv ∨ (l = lv ∧ p < pl))) → (vs.length < d + pl) → lv_has ls 4 [(3, .int (nI pl)), (2, .int (nI lv)), (1, .int (nI (2 ^ lv))), (0, .ref rb)] → Wd Dd A s.heap ([(rb, .inr (5, [.ref vl, .ref kl, .ref co, .int ru, .int mo, .int lk, .int (wn + nI ci), .int qu, .int bu])), (vl, .inr (11, [.int mv, .ref av, .int (nI vs.length)])), (av, .inl (Y.2.1 2, cv, .inr (.inr (.inr (.inr (fun k => vs[k]?)))))), (kl, .inr (11, [.int mk, .ref ak, .int (nI ks.length)])), (co, .inl (Y.2.1 4, 6, .inr (.inr (.inr (.inr (fun l => some (ca l)))))))] ++ (KT Y ak ck ks ++ va_pl L f2)) H locs → W p₀ l e₀ rmX5_build s m args below meth c₀ H locs (0) (0) Q (F0 m 19 ls []) := by
          intro d
          induction d with
          | zero => intro pl ci f2 H locs ls hpl hci hB2 hfu; exact absurd hfu (by omega)
          | succ d ihi =>
            intro pl ci f2 H locs ls hpl hci hB2 hfu hl hW
            refine lv_iload_n hx hb dX5_build_19 rfl (lv_at hl 0 rfl) ?_
            refine lv_iload_n hx hb dX5_build_20 rfl (lv_at hl 2 rfl) ?_
            refine lv_iadd hx hb dX5_build_21 ?_
            rw [nI_add]
            refine lv_aload_n hx hb dX5_build_22 rfl (lv_at hl 3 rfl) ?_
            refine g_ X hinX5 hW 0 rfl rfl 0 (by decide) 1 rfl rfl rfl dX5_build_23 ?_
            refine rF_ (As := []) (rest := [.int (nI (pl + 2 ^ lv))]) (wc := [(vl, .inr (11, [.int mv, .ref av, .int (nI vs.length)]))]) (w9 := [(rb, .inr (5, [.ref vl, .ref kl, .ref co, .int ru, .int mo, .int lk, .int (wn + nI ci), .int qu, .int bu])), (av, .inl (Y.2.1 2, cv, .inr (.inr (.inr (.inr (fun k => vs[k]?)))))), (kl, .inr (11, [.int mk, .ref ak, .int (nI ks.length)])), (co, .inl (Y.2.1 4, 6, .inr (.inr (.inr (.inr (fun l => some (ca l)))))))] ++ (KT Y ak ck ks ++ va_pl L f2)) X 0 (kJx4a65c_size_8abf5 l Dd Y vl mv (nI vs.length) (.ref av)) gX5_build_Jx4a65c_size_8abf5_f24Jx4a65c rfl rfl rfl (by decide +kernel) (by decide +kernel) ⟨(Nat.le_of_ble_eq_true rfl), (Nat.le_of_ble_eq_true rfl)⟩ hW (pmq25 _ _ _ _ _ _) 0 11 rfl rfl rfl rfl hl.1 rfl (Nat.le_of_ble_eq_true rfl) dX5_build_26 ⟨(Nat.le_of_ble_eq_true rfl), (Nat.le_of_ble_eq_true rfl)⟩ (fun rv wq H locs hp hW => ?_)
            obtain ⟨rfl, rfl⟩ := hp
            have hW : Wd Dd A s.heap ([(vl, .inr (11, [.int mv, .ref av, .int (nI vs.length)])), (rb, .inr (5, [.ref vl, .ref kl, .ref co, .int ru, .int mo, .int lk, .int (wn + nI ci), .int qu, .int bu])), (av, .inl (Y.2.1 2, cv, .inr (.inr (.inr (.inr (fun k => vs[k]?)))))), (kl, .inr (11, [.int mk, .ref ak, .int (nI ks.length)])), (co, .inl (Y.2.1 4, 6, .inr (.inr (.inr (.inr (fun l => some (ca l)))))))] ++ (KT Y ak ck ks ++ va_pl L f2)) H locs := hW
            have hW : Wd Dd A s.heap ([(rb, .inr (5, [.ref vl, .ref kl, .ref co, .int ru, .int mo, .int lk, .int (wn + nI ci), .int qu, .int bu])), (vl, .inr (11, [.int mv, .ref av, .int (nI vs.length)])), (av, .inl (Y.2.1 2, cv, .inr (.inr (.inr (.inr (fun k => vs[k]?)))))), (kl, .inr (11, [.int mk, .ref ak, .int (nI ks.length)])), (co, .inl (Y.2.1 4, 6, .inr (.inr (.inr (.inr (fun l => some (ca l)))))))] ++ (KT Y ak ck ks ++ va_pl L f2)) H locs := hW.permA (pmq26 _ _ _ _ _ _)
            refine W.eq (g2 := F0 m 31 ls [.int (nI vs.length), .int (nI (pl + 2 ^ lv))]) rfl ?_
            refine lv_icmp_gt (tgt := 46) hx hb dX5_build_31 (by decide) (fun cr => ?_) (fun cr => ?_)
            · have hgt : vs.length < pl + 2 ^ lv := (nI_ltI (by omega) (by omega)).mp cr
              refine lv_iload_n hx hb dX5_build_46 rfl (lv_at hl 2 rfl) ?_
              refine lv_iconst (v := 2) hx hb dX5_build_47 (by decide) ?_
              refine lv_imul hx hb dX5_build_48 ?_
              rw [nI_dbl, ← Nat.pow_succ]
              refine lv_istore_n (lv' := [(1, .int (nI (2 ^ (lv + 1)))), (3, .int (nI pl)), (2, .int (nI lv)), (0, .ref rb)]) hx hb dX5_build_49 rfl hl (by decide) rfl (fun ls hl => ?_)
              refine lv_iinc (v := (nI lv) + 1) (lv' := [(2, .int ((nI lv) + 1)), (1, .int (nI (2 ^ (lv + 1)))), (3, .int (nI pl)), (0, .ref rb)]) hx hb dX5_build_50 hl (k := 2) rfl rfl (by decide) rfl (fun ls hl => ?_)
              rw [nI_1] at hl
              refine lv_goto (tgt := 4) hx hb dX5_build_53 (by decide) ?_
              have hl : lv_has ls 4 [(2, .int (nI (lv + 1))), (1, .int (nI (2 ^ (lv + 1)))), (0, .ref rb)] := lv_sub hl [0, 1, 3] rfl
              exact ih (lv + 1) ci f2 _ _ _ ⟨by omega, by omega⟩ (by rw [← hci, show 6 - (lv + 1) = 5 - lv by omega]; omega) (hB2.mono (fun l p q1 q5 q2 q3 => by have q3 : l < lv + 1 := q3; rcases Nat.lt_or_ge l lv with q | q; exact Or.inl q; have e : l = lv := (by omega); rw [e] at q2; exact Or.inr ⟨e, (by omega)⟩) (fun l p q => by show l < lv + 1; omega)) (by omega) hl hW
            · have hin : pl + 2 ^ lv ≤ vs.length := Nat.le_of_not_lt (fun h => cr ((nI_ltI (by omega) (by omega)).mpr h))
              refine lv_aload_n hx hb dX5_build_34 rfl (lv_at hl 3 rfl) ?_
              refine lv_iload_n hx hb dX5_build_35 rfl (lv_at hl 1 rfl) ?_
              refine lv_iload_n hx hb dX5_build_36 rfl (lv_at hl 0 rfl) ?_
              refine rV_ (As := [.int (nI lv), .int (nI pl)]) (rest := []) (wc := [(rb, .inr (5, [.ref vl, .ref kl, .ref co, .int ru, .int mo, .int lk, .int (wn + nI ci), .int qu, .int bu])), (vl, .inr (11, [.int mv, .ref av, .int (nI vs.length)])), (av, .inl (Y.2.1 2, cv, .inr (.inr (.inr (.inr (fun k => vs[k]?)))))), (kl, .inr (11, [.int mk, .ref ak, .int (nI ks.length)])), (co, .inl (Y.2.1 4, 6, .inr (.inr (.inr (.inr (fun l => some (ca l)))))))] ++ (KT Y ak ck ks ++ va_pl L f2)) (w9 := []) X (kX5_write l Dd Y rb vl kl co av cv ak ck ca vs ks L f2 ru mo lk (wn + nI ci) qu bu mv mk lv pl g (hB2.ng hvo hO hg) hC (hB2.vo hvo hO) hB2.2.1 ⟨hlv.1, h5⟩ hin h3) (cwV 2 X.1.2.2.2.2 gX5_build_X5_write rfl rfl rfl (by decide +kernel) ⟨(Nat.le_of_ble_eq_true rfl), (Nat.le_of_ble_eq_true rfl)⟩) hW (by rw [List.append_nil]) 0 5 rfl rfl rfl rfl hl.1 rfl (Nat.le_of_ble_eq_true rfl) dX5_build_37 ⟨(Nat.le_of_ble_eq_true rfl), (Nat.le_of_ble_eq_true rfl)⟩ (fun rv wq H locs hp hW => ?_)
              obtain ⟨v, hv, rfl, rfl⟩ := hp
              rw [List.append_nil, wn_1] at hW
              refine W.eq (g2 := F0 m 40 ls []) rfl ?_
              refine lv_iinc (v := (nI pl) + 1) (lv' := [(3, .int ((nI pl) + 1)), (2, .int (nI lv)), (1, .int (nI (2 ^ lv))), (0, .ref rb)]) hx hb dX5_build_40 hl (k := 0) rfl rfl (by decide) rfl (fun ls hl => ?_)
              rw [nI_1] at hl
              refine lv_goto (tgt := 19) hx hb dX5_build_43 (by decide) ?_
              exact ihi (pl + 1) (ci + 1) _ _ _ _ (by omega) (by omega) ((hB2.w (by omega) hv).mono (fun l p q1 q5 q2 q3 => by rcases q3 with q | ⟨q, r⟩; exact Or.inr (Or.inl q); rcases Nat.lt_or_ge p pl with z | z; exact Or.inr (Or.inr ⟨q, z⟩); exact Or.inl ⟨q, by omega⟩) (fun l p q => by rcases q with ⟨q, r⟩ | q | ⟨q, r⟩; exact Or.inr ⟨q, by omega⟩; exact Or.inl q; exact Or.inr ⟨q, by omega⟩)) (by omega) hl hW
        exact lpi (vs.length + 1) 0 cn f1 _ _ _ (Nat.zero_le _) (by rw [← hcn, cs_s _ hlv.1 h5]; omega) (hB.mono (fun l p q1 q5 q2 q3 => by rcases q3 with q | ⟨q, r⟩; exact q; exact absurd r (Nat.not_lt_zero p)) (fun l p q => Or.inl q)) (by omega) hl hW
  exact lpo 7 1 0 f _ _ _ ⟨Nat.le_refl _, by decide⟩ (by rw [Nat.zero_add]) (BF.rfl_ hO (fun l p q h => by have h : l < 1 := h; omega)) (by omega) hl (by rw [show wn + nI 0 = wn from Int32.add_zero wn]; exact hW)
