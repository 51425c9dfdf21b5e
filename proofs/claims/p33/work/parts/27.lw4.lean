theorem pmq35 {α : Type} (c0 c1 c2 c3 c4 c5 : α) (t : List α) : ([c0, c1, c2, c3, c4, c5] ++ t : List α).Perm (([c5]) ++ ([c0, c1, c2, c3, c4] ++ t)) := pmA _ _ (fun x => by simp only [List.count_append, List.count_cons, List.count_nil]; omega)
theorem pmq36 {α : Type} (c0 c1 c2 c3 c4 c5 : α) (t : List α) : ([c0, c1, c2, c3, c4, c5] ++ t : List α).Perm ([c1, c2, c3, c4, c5, c0] ++ t) := pmA _ _ (fun x => by simp only [List.count_append, List.count_cons, List.count_nil]; omega)
theorem pmq37 {α : Type} (c0 c1 c2 c3 c4 : α) (t : List α) : ([c0, c1, c2, c3, c4] ++ t : List α).Perm ((([c1, c2]) ++ ([c0, c3, c4] ++ t)) ++ []) := pmA _ _ (fun x => by simp only [List.count_append, List.count_cons, List.count_nil]; omega)
theorem pmq38 {α : Type} (c0 c1 c2 c3 c4 : α) (t : List α) : ((([c1, c2]) ++ ([c0, c3, c4] ++ t)) ++ [] : List α).Perm ([c0, c1, c2, c3, c4] ++ t) := pmA _ _ (fun x => by simp only [List.count_append, List.count_cons, List.count_nil]; omega)
/-! arrays of arrays of values; the pool grows -/
theorem arrayClass_of {C : String} {args : Array Value} {U : State} (h : va_AO C U) : (Cond.arrayClass (.object C)).before args U = true := by
  obtain ⟨comp, c, k, h1, h2, h3, h4, h5⟩ := Cond.arrayOver_spec h
  simp [Cond.before, Cond.holds, Cond.value, h5, h3, h4]
theorem outerC_eq (c : ClassId) (N h : Nat) : ∀ i : Nat, Jvm.Free.Multi.outerC c N h i = { cls := c, slots := (Jvm.Free.Multi.outerC c N h i).slots, vm := .none }
  | 0 => rfl
  | i + 1 => by
    have ih := outerC_eq c N h i
    show (Jvm.Free.Multi.outerC c N h i).setSlot i (.ref (h + 1 + i)) = _
    rw [show (Jvm.Free.Multi.outerC c N h (i + 1)) = (Jvm.Free.Multi.outerC c N h i).setSlot i (.ref (h + 1 + i)) from rfl, ih]
    rfl
theorem outerC_arr (c : ClassId) (N h : Nat) : Jvm.Free.Multi.outerC c N h N = vp_cell c (N, .inr (.inr (.inr (.inr (fun l => some (h + 1 + l)))))) := by
  rw [vp_cell_q, outerC_eq]
  unfold arrV
  congr 1
  apply Array.ext
  · rw [(Jvm.Free.Multi.outerC_facts c N h N).2.2, Array.size_ofFn]
  · intro j h1 h2
    have hj : j < N := by rw [(Jvm.Free.Multi.outerC_facts c N h N).2.2] at h1; exact h1
    have k := Jvm.Free.Multi.outerC_slot c N h N j hj
    rw [if_pos hj, Array.getElem?_eq_getElem h1] at k
    rw [Option.some.inj k, Array.getElem_ofFn]
    rfl
theorem innerC_arr (c : ClassId) (N : Nat) : Jvm.Free.Multi.innerC c N .null = vp_cell c (N, .inr (.inr (.inr (.inr (fun _ => none))))) := by
  rw [vp_cell_q]
  exact arrV_new c N .null
theorem Wd.push {Dd : va_G} {A : Nat → Prop} {H0 H : Heap} {locs : List Loc} {X B : va_W} {L : List Nat} {f : Nat → va_E} {q : Nat} {e : va_E} (h : Wd Dd A H0 ((X ++ (B ++ va_pl L f)) ++ [(q, e)]) H locs) : q ∉ L ∧ Wd Dd A H0 (X ++ (B ++ va_pl (L ++ [q]) (va_up f q e))) H locs := by
  have hq : q ∉ L := va_pl_fresh2 (X := X ++ B) (f := f) (e := e) (by rw [List.append_assoc X B]; exact h.2.1)
  refine ⟨hq, ?_⟩
  rw [← va_pl_push hq]
  have e1 : (X ++ (B ++ va_pl L f)) ++ [(q, e)] = X ++ (B ++ (va_pl L f ++ [(q, e)])) := by simp only [List.append_assoc]
  rw [← e1]; exact h
theorem inx_v {X B : va_W} {L : List Nat} {f : Nat → va_E} {a : Nat} (h : a ∈ L ∧ isV (f a)) : inx (X ++ (B ++ va_pl L f)) a := by
  obtain ⟨k, hk⟩ := pl_at (X := X) (B := B) (f := f) h.1
  exact ⟨k, 7, _, (RX7, TX7, 2), pl_e hk h.2.1, rfl, by decide +kernel⟩
theorem inx_s {X B : va_W} {L : List Nat} {f : Nat → va_E} {a : Nat} (h : a ∈ L ∧ isS (f a)) : inx (X ++ (B ++ va_pl L f)) a := by
  obtain ⟨k, hk⟩ := pl_at (X := X) (B := B) (f := f) h.1
  exact ⟨k, 6, _, (RX6, TX6, 2), pl_e hk h.2, rfl, by decide +kernel⟩
section LW4
variable {p : Program} {l : Launch} {e : Env} {R : Room} {s : State} {m : MethodId} {args : Array Value} {below : List Frame} {meth : Method} {c : Code} {H : Heap} {locs : List Loc} {cells slots : Nat} {Q : State → Prop}
variable {cc : ByteArray} {nL pc : Nat} {Ts : List Cond} {own : String} {Dd : va_G} {Y : yT} {A : Nat → Prop} {ls : Array Slot} {rest st : List Value} {ws : va_W} {a : Nat}
theorem mna_ (X : cx p s m args c cc nL Ts RX5 Dd Y A) (hW : Wd Dd A s.heap ws H locs) (hcells : cells + 7 ≤ R.cells) (hslots : slots + 246 ≤ R.slots) (hdg : decode cc pc = .ok (.multianewarray 19 2, 4))
    (kk : ∀ (q : Nat) (H' : Heap), Wd Dd A s.heap (ws ++ ((q, .inl (Y.2.1 4, 6, .inr (.inr (.inr (.inr (fun l => some (q + 1 + l))))))) :: va_pl ((List.range 6).map (fun l => q + 1 + l)) (fun _ => cE Y (fun _ => none)))) H' locs → W p l e R s m args below meth c H' locs (cells + 7) (slots + 246) Q (F0 m (pc + 4) ls (.ref q :: rest))) : W p l e R s m args below meth c H locs cells slots Q (F0 m pc ls (.int 40 :: .int 6 :: rest)) := by
  intro T hT Xs
  have hL := X.2.2.2.1.2.2.2.2.2.1
  obtain ⟨vm₁, cA, comp, hWm, hfA, hfC, hO, hI, X1, stp⟩ := Xs.multianewarray2F X.x (ty := .object "DoubledRowsLaw$Value") X.1.2.2.2.1 (va_Nw.use (A := args) rfl hL.2.2.2.2.2.2.1.2.2.2) (Jvm.Stand.arrayOver_alikeB (Vm.Alike.refl _) hL.2.2.2.2.2.2.1.1) (arrayClass_of hL.2.2.2.2.1) (g := F0 m pc ls (.int 40 :: .int 6 :: rest)) rfl (by rw [X.b]; exact hdg) rfl (by decide) (by decide) (by decide) (by decide) (by decide) rfl rfl hcells hslots
  have n6 : (6 : Int32).toNatClampNeg = 6 := by decide
  have n40 : (40 : Int32).toNatClampNeg = 40 := by decide
  rw [n6, n40] at X1 stp
  obtain rfl : Y.2.1 4 = cA := Option.some.inj (hL.2.2.2.2.2.2.1.2.2.1.symm.trans hfA)
  obtain rfl : Y.2.1 1 = comp := by
    have k := (X.2.1.2 3 (Y.2.1 1, .object "DoubledRowsLaw$Value") rfl).2.elim (fun _ q => q.elim (fun _ q => q.2.2.2))
    exact Option.some.inj (k.symm.trans hfC)
  have hdv : defaultValue (.object "DoubledRowsLaw$Value") = .null := rfl
  rw [hdv] at X1 stp
  obtain ⟨f1, f2, f3, f4⟩ := Jvm.Free.Multi.fill_facts (T.setVm vm₁) (Y.2.1 4) (Y.2.1 1) 6 40 .null 6
  have fo := fun (a : Addr) (ha : a < T.heap.size) => Jvm.Free.Multi.fill_old (T.setVm vm₁) (Y.2.1 4) (Y.2.1 1) 6 40 .null (a := a) ha 6
  have fi := fun (j : Nat) (hj : j < 6) => Jvm.Free.Multi.fill_inner (T.setVm vm₁) (Y.2.1 4) (Y.2.1 1) 6 40 .null 6 j hj
  generalize Jvm.Free.Multi.fill (T.setVm vm₁) (Y.2.1 4) (Y.2.1 1) 6 40 .null 6 = U at *
  subst hT
  have hs : (T.setVm vm₁).heap.size = T.heap.size := rfl
  rw [hs] at f1 f2
  have o1 : ∀ q : Nat, q < T.heap.size → U.heap[q]? = T.heap[q]? := fun q hq => fo q hq
  have hcell : ∀ (k : Nat) (x : Nat × va_E), (((T.heap.size, .inl (Y.2.1 4, 6, .inr (.inr (.inr (.inr (fun l => some (T.heap.size + 1 + l))))))) :: va_pl ((List.range 6).map (fun l => T.heap.size + 1 + l)) (fun _ => cE Y (fun _ => none)) : va_W))[k]? = some x → x.1 = T.heap.size + k ∧ va_at Dd vwCl x U.heap := by
    intro k x hx
    match k with
    | 0 =>
      cases hx
      refine ⟨rfl, ?_⟩
      show U.heap[T.heap.size]? = some (vp_cell _ _)
      rw [f2, outerC_arr]
    | k + 1 =>
      rw [List.getElem?_cons_succ] at hx
      unfold va_pl at hx
      rw [List.map_map, List.getElem?_map] at hx
      have hk : k < 6 := by
        rcases Nat.lt_or_ge k 6 with q | q
        · exact q
        · rw [List.getElem?_eq_none (by simpa using q)] at hx; cases hx
      rw [List.getElem?_range hk] at hx
      cases hx
      refine ⟨by show T.heap.size + 1 + k = T.heap.size + (k + 1); omega, ?_⟩
      show U.heap[T.heap.size + 1 + k]? = some (vp_cell _ _)
      rw [← innerC_arr]
      exact fi k hk
  have hkept : va_P Dd vwCl ws U.heap := hW.1.kept (fun k x hx => o1 x.1 ((hW.1 k x hx).lt))
  have hA : ∀ q : Nat, T.heap.size ≤ q → A q := fun q hq => X.2.2.1 q (Nat.le_trans hW.2.2.1 hq)
  have hWd : Wd Dd A s.heap (ws ++ ((T.heap.size, .inl (Y.2.1 4, 6, .inr (.inr (.inr (.inr (fun l => some (T.heap.size + 1 + l))))))) :: va_pl ((List.range 6).map (fun l => T.heap.size + 1 + l)) (fun _ => cE Y (fun _ => none)))) U.heap locs := by
    refine ⟨?_, ?_, ?_⟩
    · exact hkept.app (fun k x hx => (hcell k x hx).2)
    · refine ⟨fun i j p q hi hj hpq => ?_, fun k x hx => ?_⟩
      · rcases Nat.lt_or_ge i ws.length with qi | qi <;> rcases Nat.lt_or_ge j ws.length with qj | qj
        · rw [List.getElem?_append_left qi] at hi; rw [List.getElem?_append_left qj] at hj
          exact hW.2.1.1 i j p q hi hj hpq
        · rw [List.getElem?_append_left qi] at hi; rw [List.getElem?_append_right qj] at hj
          have h1 := (hW.1 i p hi).lt
          have h2 := (hcell _ q hj).1
          omega
        · rw [List.getElem?_append_right qi] at hi; rw [List.getElem?_append_left qj] at hj
          have h1 := (hW.1 j q hj).lt
          have h2 := (hcell _ p hi).1
          omega
        · rw [List.getElem?_append_right qi] at hi; rw [List.getElem?_append_right qj] at hj
          have h1 := (hcell _ p hi).1
          have h2 := (hcell _ q hj).1
          omega
      · rcases Nat.lt_or_ge k ws.length with q | q
        · rw [List.getElem?_append_left q] at hx; exact hW.2.1.2 k x hx
        · rw [List.getElem?_append_right q] at hx
          exact hA _ (by rw [(hcell _ x hx).1]; omega)
    · exact ⟨by rw [f1]; have := hW.2.2.1; omega, fun x h1 h2 => (o1 x (Nat.lt_of_lt_of_le h1 hW.2.2.1)).trans (hW.2.2.2.1 x h1 h2), hW.2.2.2.2⟩
  obtain ⟨t, a1, b1⟩ := kk T.heap.size U.heap hWd U rfl (X1.more (by omega) (by omega))
  exact ⟨t, stp t a1, b1⟩
end LW4

abbrev rmX7_init : Room := { frames := 1, cells := 0, slots := 0, locals := 12 }
set_option maxRecDepth 100000 in
set_option maxHeartbeats 4000000 in
theorem kX7_init (l : Launch) (Dd : va_G) (Y : yT) (b : Nat) (n : Int32) : MR l yX7_init wsX7_init rmX7_init Dd Y [.ref b, .int n] ([(b, .inr (7, [.int 0, .int 0]))]) (fun rv w => rv = none ∧ w = [(b, .inr (7, [.int n, .int 0]))]) 0 0 := by
  refine MRk (cc := cX7_init) (maxL := 2) (ret := none) (by decide) rfl (Nat.le_of_ble_eq_true rfl) (fun {p₀ e₀ s m args below meth c₀ A} ls Q X hin hW hl hI hV hA => ?_)
  have hx := X.x
  have hb := X.b
  have hl : lv_has ls 2 [(0, .ref b), (1, .int n)] := hl
  have hinX7 : ∀ w ∈ wsX70, w ∈ wsX7_init := fun w h => List.mem_cons_of_mem _ (List.mem_append_right _ h)
  refine lv_aload_n hx hb dX7_init_0 rfl (lv_at hl 0 rfl) ?_
  refine W.objInit hx hb X.1.2.2.2.1 (X.w (i := 1) rfl) (X.w (i := 2) rfl) (X.w (i := 3) rfl) rfl (by rw [X.1.2.2.1]; exact hl.1) rfl dX7_init_1 (Nat.le_of_ble_eq_true rfl) (Nat.le_of_ble_eq_true rfl) ?_
  refine W.eq (g2 := F0 m 4 ls []) rfl ?_
  refine lv_aload_n hx hb dX7_init_4 rfl (lv_at hl 0 rfl) ?_
  refine lv_iload_n hx hb dX7_init_5 rfl (lv_at hl 1 rfl) ?_
  refine p_ (ty := .int) X hinX7 tyX7 tyX7_ok nmX7 hW 0 rfl rfl 0 (by decide) 4 rfl rfl rfl (by decide +kernel) rfl rfl (Nat.le_of_ble_eq_true rfl) dX7_init_6 (ws' := [(b, .inr (7, [.int n, .int 0]))]) rfl (fun H locs hW => ?_)
  exact hV _ _ _ _ _ _ _ ⟨rfl, rfl⟩ rfl (Nat.le_of_ble_eq_true rfl) (Nat.le_of_ble_eq_true rfl) hW dX7_init_9
abbrev rmX6_init : Room := { frames := 1, cells := 0, slots := 0, locals := 12 }
set_option maxRecDepth 100000 in
set_option maxHeartbeats 4000000 in
theorem kX6_init (l : Launch) (Dd : va_G) (Y : yT) (b v1 v2 : Nat) : MR l yX6_init wsX6_init rmX6_init Dd Y [.ref b, .ref v1, .ref v2] ([(b, .inr (6, [.null, .null]))]) (fun rv w => rv = none ∧ w = [(b, .inr (6, [.ref v1, .ref v2]))]) 0 0 := by
  refine MRk (cc := cX6_init) (maxL := 3) (ret := none) (by decide) rfl (Nat.le_of_ble_eq_true rfl) (fun {p₀ e₀ s m args below meth c₀ A} ls Q X hin hW hl hI hV hA => ?_)
  have hx := X.x
  have hb := X.b
  have hl : lv_has ls 3 [(0, .ref b), (1, .ref v1), (2, .ref v2)] := hl
  have hinX6 : ∀ w ∈ wsX60, w ∈ wsX6_init := fun w h => List.mem_cons_of_mem _ (List.mem_append_right _ h)
  refine lv_aload_n hx hb dX6_init_0 rfl (lv_at hl 0 rfl) ?_
  refine W.objInit hx hb X.1.2.2.2.1 (X.w (i := 1) rfl) (X.w (i := 2) rfl) (X.w (i := 3) rfl) rfl (by rw [X.1.2.2.1]; exact hl.1) rfl dX6_init_1 (Nat.le_of_ble_eq_true rfl) (Nat.le_of_ble_eq_true rfl) ?_
  refine W.eq (g2 := F0 m 4 ls []) rfl ?_
  refine lv_aload_n hx hb dX6_init_4 rfl (lv_at hl 0 rfl) ?_
  refine lv_aload_n hx hb dX6_init_5 rfl (lv_at hl 1 rfl) ?_
  refine p_ (ty := (.object "DoubledRowsLaw$Value")) X hinX6 tyX6 tyX6_ok nmX6 hW 0 rfl rfl 0 (by decide) 4 rfl rfl rfl (by decide +kernel) rfl rfl (Nat.le_of_ble_eq_true rfl) dX6_init_6 (ws' := [(b, .inr (6, [.ref v1, .null]))]) rfl (fun H locs hW => ?_)
  refine lv_aload_n hx hb dX6_init_9 rfl (lv_at hl 0 rfl) ?_
  refine lv_aload_n hx hb dX6_init_10 rfl (lv_at hl 2 rfl) ?_
  refine p_ (ty := (.object "DoubledRowsLaw$Value")) X hinX6 tyX6 tyX6_ok nmX6 hW 0 rfl rfl 1 (by decide) 5 rfl rfl rfl (by decide +kernel) rfl rfl (Nat.le_of_ble_eq_true rfl) dX6_init_11 (ws' := [(b, .inr (6, [.ref v1, .ref v2]))]) rfl (fun H locs hW => ?_)
  exact hV _ _ _ _ _ _ _ ⟨rfl, rfl⟩ rfl (Nat.le_of_ble_eq_true rfl) (Nat.le_of_ble_eq_true rfl) hW dX6_init_14
abbrev rmX5_init : Room := { frames := 4, cells := 9, slots := 252, locals := 72 }
set_option maxRecDepth 100000 in
set_option maxHeartbeats 4000000 in
theorem kX5_init (l : Launch) (Dd : va_G) (Y : yT) (rb : Nat) : MR l yX5_init wsX5_init rmX5_init Dd Y [.ref rb] ([(rb, .inr (5, [.null, .null, .null, .int 0, .int 0, .int 0, .int 0, .int 0, .int 0]))]) (fun rv w => rv = none ∧ ∃ vl kl co : Nat, w = [(rb, .inr (5, [.ref vl, .ref kl, .ref co, .int 0, .int 0, .int 0, .int 0, .int 0, .int 0])), (vl, .inr (11, [.int 0, .ref (Y.2.2.2.1 100), .int 0])), (kl, .inr (11, [.int 0, .ref (Y.2.2.2.1 100), .int 0])), (co, .inl (Y.2.1 4, 6, .inr (.inr (.inr (.inr (fun l => some (co + 1 + l)))))))] ++ va_pl ((List.range 6).map (fun l => co + 1 + l)) (fun _ => cE Y (fun _ => none))) 9 252 := by
  refine MRk (cc := cX5_init) (maxL := 1) (ret := none) (by decide) rfl (Nat.le_of_ble_eq_true rfl) (fun {p₀ e₀ s m args below meth c₀ A} ls Q X hin hW hl hI hV hA => ?_)
  have hx := X.x
  have hb := X.b
  have hl : lv_has ls 1 [(0, .ref rb)] := hl
  have hinJx4a65c : ∀ w ∈ wsJx4a65c0, w ∈ wsX5_init := fun w h => List.mem_cons_of_mem _ (List.mem_append_left _ (List.mem_append_right _ h))
  have hinX5 : ∀ w ∈ wsX50, w ∈ wsX5_init := fun w h => List.mem_cons_of_mem _ (List.mem_append_right _ h)
  refine lv_aload_n hx hb dX5_init_0 rfl (lv_at hl 0 rfl) ?_
  refine W.objInit hx hb X.1.2.2.2.1 (X.w (i := 1) rfl) (X.w (i := 2) rfl) (X.w (i := 3) rfl) rfl (by rw [X.1.2.2.1]; exact hl.1) rfl dX5_init_1 (Nat.le_of_ble_eq_true rfl) (Nat.le_of_ble_eq_true rfl) ?_
  refine W.eq (g2 := F0 m 4 ls []) rfl ?_
  refine lv_aload_n hx hb dX5_init_4 rfl (lv_at hl 0 rfl) ?_
  refine nw_ (ci := 11) X hinJx4a65c tyJx4a65c tyJx4a65c_ok 4 5 6 rfl rfl rfl hW rfl [.int 0, .null, .int 0] (fun j hj => by rcases (show j = 0 ∨ j = 1 ∨ j = 2 by omega) with rfl | rfl | rfl <;> rfl) (Nat.le_of_ble_eq_true rfl) (Nat.le_of_ble_eq_true rfl) dX5_init_5 (fun vl H hW => ?_)
  have hW : Wd Dd A s.heap ([(rb, .inr (5, [.null, .null, .null, .int 0, .int 0, .int 0, .int 0, .int 0, .int 0])), (vl, .inr (11, [.int 0, .null, .int 0]))]) _ _ := hW
  refine lv_dup hx hb dX5_init_8 rfl ?_
  refine rI_ (As := []) (rest := [.ref vl, .ref rb]) (wc := [(vl, .inr (11, [.int 0, .null, .int 0]))]) (w9 := [(rb, .inr (5, [.null, .null, .null, .int 0, .int 0, .int 0, .int 0, .int 0, .int 0]))]) X (kJx4a65c_init_da8c8 l Dd Y vl 0) (cwI 0 X.1.2.2.2.2 gX5_init_Jx4a65c_init_da8c8 rfl rfl rfl (X.w (i := 6) rfl) (X.w (i := 10) rfl) (X.w (i := 11) rfl) rfl (by decide +kernel) ⟨(Nat.le_of_ble_eq_true rfl), (Nat.le_of_ble_eq_true rfl)⟩) hW (pmq5 _ _) rfl hl.1 rfl (Nat.le_of_ble_eq_true rfl) dX5_init_9 ⟨(Nat.le_of_ble_eq_true rfl), (Nat.le_of_ble_eq_true rfl)⟩ (fun rv wq H locs hp hW => ?_)
  obtain ⟨rfl, rfl⟩ := hp
  have hW : Wd Dd A s.heap ([(vl, .inr (11, [.int 0, .ref (Y.2.2.2.1 100), .int 0])), (rb, .inr (5, [.null, .null, .null, .int 0, .int 0, .int 0, .int 0, .int 0, .int 0]))]) H locs := hW
  have hW : Wd Dd A s.heap ([(rb, .inr (5, [.null, .null, .null, .int 0, .int 0, .int 0, .int 0, .int 0, .int 0])), (vl, .inr (11, [.int 0, .ref (Y.2.2.2.1 100), .int 0]))]) H locs := hW.permA (pmq7 _ _)
  refine W.eq (g2 := F0 m 12 ls [.ref vl, .ref rb]) rfl ?_
  refine pf_ (ty := (.object "java/util/List")) X hin hinX5 tyX5 tyX5_ok nmX5 hW 0 rfl rfl 0 (by decide) 7 rfl rfl rfl rfl (by decide +kernel) rfl rfl (Nat.le_of_ble_eq_true rfl) dX5_init_12 (ws' := [(rb, .inr (5, [.ref vl, .null, .null, .int 0, .int 0, .int 0, .int 0, .int 0, .int 0])), (vl, .inr (11, [.int 0, .ref (Y.2.2.2.1 100), .int 0]))]) rfl (fun H locs hW => ?_)
  refine lv_aload_n hx hb dX5_init_15 rfl (lv_at hl 0 rfl) ?_
  refine nw_ (ci := 11) X hinJx4a65c tyJx4a65c tyJx4a65c_ok 4 5 6 rfl rfl rfl hW rfl [.int 0, .null, .int 0] (fun j hj => by rcases (show j = 0 ∨ j = 1 ∨ j = 2 by omega) with rfl | rfl | rfl <;> rfl) (Nat.le_of_ble_eq_true rfl) (Nat.le_of_ble_eq_true rfl) dX5_init_16 (fun kl H hW => ?_)
  have hW : Wd Dd A s.heap ([(rb, .inr (5, [.ref vl, .null, .null, .int 0, .int 0, .int 0, .int 0, .int 0, .int 0])), (vl, .inr (11, [.int 0, .ref (Y.2.2.2.1 100), .int 0])), (kl, .inr (11, [.int 0, .null, .int 0]))]) _ _ := hW
  refine lv_dup hx hb dX5_init_19 rfl ?_
  refine rI_ (As := []) (rest := [.ref kl, .ref rb]) (wc := [(kl, .inr (11, [.int 0, .null, .int 0]))]) (w9 := [(rb, .inr (5, [.ref vl, .null, .null, .int 0, .int 0, .int 0, .int 0, .int 0, .int 0])), (vl, .inr (11, [.int 0, .ref (Y.2.2.2.1 100), .int 0]))]) X (kJx4a65c_init_da8c8 l Dd Y kl 0) (cwI 0 X.1.2.2.2.2 gX5_init_Jx4a65c_init_da8c8 rfl rfl rfl (X.w (i := 6) rfl) (X.w (i := 10) rfl) (X.w (i := 11) rfl) rfl (by decide +kernel) ⟨(Nat.le_of_ble_eq_true rfl), (Nat.le_of_ble_eq_true rfl)⟩) hW (pmq22 _ _ _) rfl hl.1 rfl (Nat.le_of_ble_eq_true rfl) dX5_init_20 ⟨(Nat.le_of_ble_eq_true rfl), (Nat.le_of_ble_eq_true rfl)⟩ (fun rv wq H locs hp hW => ?_)
  obtain ⟨rfl, rfl⟩ := hp
  have hW : Wd Dd A s.heap ([(kl, .inr (11, [.int 0, .ref (Y.2.2.2.1 100), .int 0])), (rb, .inr (5, [.ref vl, .null, .null, .int 0, .int 0, .int 0, .int 0, .int 0, .int 0])), (vl, .inr (11, [.int 0, .ref (Y.2.2.2.1 100), .int 0]))]) H locs := hW
  have hW : Wd Dd A s.heap ([(rb, .inr (5, [.ref vl, .null, .null, .int 0, .int 0, .int 0, .int 0, .int 0, .int 0])), (vl, .inr (11, [.int 0, .ref (Y.2.2.2.1 100), .int 0])), (kl, .inr (11, [.int 0, .ref (Y.2.2.2.1 100), .int 0]))]) H locs := hW.permA (pmq14 _ _ _)
  refine W.eq (g2 := F0 m 23 ls [.ref kl, .ref rb]) rfl ?_
  refine pf_ (ty := (.object "java/util/List")) X hin hinX5 tyX5 tyX5_ok nmX5 hW 0 rfl rfl 1 (by decide) 8 rfl rfl rfl rfl (by decide +kernel) rfl rfl (Nat.le_of_ble_eq_true rfl) dX5_init_23 (ws' := [(rb, .inr (5, [.ref vl, .ref kl, .null, .int 0, .int 0, .int 0, .int 0, .int 0, .int 0])), (vl, .inr (11, [.int 0, .ref (Y.2.2.2.1 100), .int 0])), (kl, .inr (11, [.int 0, .ref (Y.2.2.2.1 100), .int 0]))]) rfl (fun H locs hW => ?_)
  refine lv_aload_n hx hb dX5_init_26 rfl (lv_at hl 0 rfl) ?_
  refine lv_bipush (v := 6) hx hb dX5_init_27 (by decide) ?_
  refine lv_bipush (v := 40) hx hb dX5_init_29 (by decide) ?_
  refine mna_ X hW (Nat.le_of_ble_eq_true rfl) (Nat.le_of_ble_eq_true rfl) dX5_init_31 (fun co H hW => ?_)
  have hW : Wd Dd A s.heap ([(rb, .inr (5, [.ref vl, .ref kl, .null, .int 0, .int 0, .int 0, .int 0, .int 0, .int 0])), (vl, .inr (11, [.int 0, .ref (Y.2.2.2.1 100), .int 0])), (kl, .inr (11, [.int 0, .ref (Y.2.2.2.1 100), .int 0])), (co, .inl (Y.2.1 4, 6, .inr (.inr (.inr (.inr (fun l => some (co + 1 + l)))))))] ++ va_pl ((List.range 6).map (fun l => co + 1 + l)) (fun _ => cE Y (fun _ => none))) H _ := hW
  refine pf_ (ty := (.array (.array (.object "DoubledRowsLaw$Value")))) X hin hinX5 tyX5 tyX5_ok nmX5 hW 0 rfl rfl 2 (by decide) 9 rfl rfl rfl rfl (by decide +kernel) rfl rfl (Nat.le_of_ble_eq_true rfl) dX5_init_35 (ws' := [(rb, .inr (5, [.ref vl, .ref kl, .ref co, .int 0, .int 0, .int 0, .int 0, .int 0, .int 0])), (vl, .inr (11, [.int 0, .ref (Y.2.2.2.1 100), .int 0])), (kl, .inr (11, [.int 0, .ref (Y.2.2.2.1 100), .int 0])), (co, .inl (Y.2.1 4, 6, .inr (.inr (.inr (.inr (fun l => some (co + 1 + l)))))))] ++ va_pl ((List.range 6).map (fun l => co + 1 + l)) (fun _ => cE Y (fun _ => none))) rfl (fun H locs hW => ?_)
  exact hV _ _ _ _ _ _ _ ⟨rfl, vl, kl, co, rfl⟩ rfl (Nat.le_of_ble_eq_true rfl) (Nat.le_of_ble_eq_true rfl) hW dX5_init_38
def insG (g : Nat → Int32) (i : Nat) (y : Int32) (k : Nat) : Int32 := if k < 12 + i then g k else if k = 12 + i then y else g (k - 1)
def insL (vs : List Nat) (i q : Nat) : List Nat := vs.take i ++ q :: vs.drop i
theorem insL_len {vs : List Nat} {i q : Nat} (hi : i ≤ vs.length) : (insL vs i q).length = vs.length + 1 := by
  unfold insL
  rw [List.length_append, List.length_cons, List.length_take, List.length_drop]; omega
theorem insL_at {vs : List Nat} {i q : Nat} (hi : i ≤ vs.length) (p : Nat) : (insL vs i q)[p]? = if p < i then vs[p]? else if p = i then some q else vs[p - 1]? := by
  unfold insL
  have ht : (vs.take i).length = i := by rw [List.length_take]; omega
  by_cases h : p < i
  · rw [if_pos h, List.getElem?_append_left (by omega), List.getElem?_take, if_pos h]
  · rw [if_neg h, List.getElem?_append_right (by omega), ht]
    by_cases e : p = i
    · rw [if_pos e, e, Nat.sub_self]; rfl
    · rw [if_neg e, show p - i = (p - i - 1) + 1 by omega, List.getElem?_cons_succ, List.getElem?_drop, show i + (p - i - 1) = p - 1 by omega]
theorem insL_mem {vs : List Nat} {i q a : Nat} (h : a ∈ insL vs i q) : a = q ∨ a ∈ vs := by
  unfold insL at h
  rcases List.mem_append.mp h with h | h
  · exact Or.inr (List.mem_of_mem_take h)
  · rcases List.mem_cons.mp h with h | h
    · exact Or.inl h
    · exact Or.inr (List.mem_of_mem_drop h)
theorem insL_nd {vs : List Nat} {i q : Nat} (h : vs.Nodup) (hq : q ∉ vs) : (insL vs i q).Nodup := by
  unfold insL
  have hp : (vs.take i ++ q :: vs.drop i).Perm (q :: vs) := by
    refine List.perm_middle.trans ?_
    rw [List.take_append_drop]
  exact hp.nodup_iff.mpr (List.nodup_cons.mpr ⟨hq, h⟩)
theorem VO.ins {L vs : List Nat} {f : Nat → va_E} {i q : Nat} {e : va_E} (h : VO L vs f) (hq : q ∉ L) (he : isV e) : VO (L ++ [q]) (insL vs i q) (va_up f q e) := by
  refine ⟨insL_nd h.1 (fun k => hq (h.2 q k).1), fun a ha => ?_⟩
  unfold va_up
  rcases insL_mem ha with rfl | hm
  · exact ⟨List.mem_append_right _ (List.mem_singleton.mpr rfl), by rw [if_pos rfl]; exact he⟩
  · have hne : a ≠ q := fun k => hq (k ▸ (h.2 a hm).1)
    exact ⟨List.mem_append_left _ (h.2 a hm).1, by rw [if_neg hne]; exact (h.2 a hm).2⟩
theorem CO.ins {Y : yT} {L : List Nat} {ca : Nat → Nat} {f : Nat → va_E} {q : Nat} {e : va_E} (h : CO Y L ca f) (hq : q ∉ L) : CO Y (L ++ [q]) ca (va_up f q e) := by
  refine ⟨fun l hl => ⟨List.mem_append_left _ (h.1 l hl).1, ?_⟩, h.2⟩
  unfold va_up
  rw [if_neg (fun k : ca l = q => hq (k ▸ (h.1 l hl).1))]
  exact (h.1 l hl).2
theorem NG.ins {L vs : List Nat} {f : Nat → va_E} {g : Nat → Int32} {i q : Nat} {y : Int32} (h : NG vs f g) (hv : VO L vs f) (hq : q ∉ L) (hi : i ≤ vs.length) : NG (insL vs i q) (va_up f q (vE y 0)) (insG g i y) := by
  intro p a hp
  rw [insL_at hi] at hp
  unfold insG va_up
  by_cases c1 : p < i
  · rw [if_pos c1] at hp
    rw [if_pos (by omega), if_neg (fun k : a = q => hq (k ▸ (hv.2 a (List.mem_of_getElem? hp)).1))]
    exact h p a hp
  · rw [if_neg c1] at hp
    by_cases c2 : p = i
    · rw [if_pos c2] at hp
      cases hp
      rw [if_neg (by omega), if_pos (by omega), if_pos rfl]; rfl
    · rw [if_neg c2] at hp
      rw [if_neg (by omega), if_neg (by omega), if_neg (fun k : a = q => hq (k ▸ (hv.2 a (List.mem_of_getElem? hp)).1)), show 12 + p - 1 = 12 + (p - 1) by omega]
      exact h (p - 1) a hp
abbrev rmX5_put : Room := { frames := 6, cells := 3, slots := 1006, locals := 137 }
set_option maxRecDepth 100000 in
set_option maxHeartbeats 4000000 in
theorem kX5_put (l : Launch) (Dd : va_G) (Y : yT) (rb vl kl co av cv ak ck : Nat) (ca : Nat → Nat) (vs ks L : List Nat) (f : Nat → va_E) (ru mo lk wn qu bu mv mk : Int32) (x : Nat) (y : Int32) (g : Nat → Int32) (hg : NG vs f g) (hK : okL Y av cv vs) (hvo : VO L vs f) (hO : CO Y L ca f) (h3 : vs.length < 40) (hxn : x < vs.length) : MR l yX5_put wsX5_put rmX5_put Dd Y [.ref rb, .int (nI x), .int y] ([(rb, .inr (5, [.ref vl, .ref kl, .ref co, .int ru, .int mo, .int lk, .int wn, .int qu, .int bu])), (vl, .inr (11, [.int mv, .ref av, .int (nI vs.length)])), (av, .inl (Y.2.1 2, cv, .inr (.inr (.inr (.inr (fun k => vs[k]?)))))), (kl, .inr (11, [.int mk, .ref ak, .int (nI ks.length)])), (co, .inl (Y.2.1 4, 6, .inr (.inr (.inr (.inr (fun l => some (ca l)))))))] ++ (KT Y ak ck ks ++ va_pl L f)) (fun rv w => rv = some (.int (nI (vs.length + 1))) ∧ ∃ (q : Nat) (mv' : Int32) (av' cv' : Nat) (f' : Nat → va_E), q ∉ L ∧ 0 < cv' ∧ okL Y av' cv' (insL vs x q) ∧ BLD Y (insL vs x q) (L ++ [q]) ca (insG g x y) (va_up f q (vE y 0)) f' ∧ w = [(rb, .inr (5, [.ref vl, .ref kl, .ref co, .int ru, .int mo, .int lk, .int (wn + nI (cs (fun l => (insL vs x q).length + 1 - 2 ^ l) 5)), .int qu, .int (bu + 1)])), (vl, .inr (11, [.int mv', .ref av', .int (nI (insL vs x q).length)])), (av', .inl (Y.2.1 2, cv', .inr (.inr (.inr (.inr (fun k => (insL vs x q)[k]?)))))), (kl, .inr (11, [.int mk, .ref ak, .int (nI ks.length)])), (co, .inl (Y.2.1 4, 6, .inr (.inr (.inr (.inr (fun l => some (ca l)))))))] ++ (KT Y ak ck ks ++ va_pl (L ++ [q]) f')) 3 1006 := by
  refine MRk (cc := cX5_put) (maxL := 4) (ret := (some .int)) (by decide) rfl (Nat.le_of_ble_eq_true rfl) (fun {p₀ e₀ s m args below meth c₀ A} ls Q X hin hW hl hI hV hA => ?_)
  have hx := X.x
  have hb := X.b
  have hl : lv_has ls 4 [(0, .ref rb), (1, .int (nI x)), (2, .int y)] := hl
  have hinX5 : ∀ w ∈ wsX50, w ∈ wsX5_put := fun w h => List.mem_cons_of_mem _ (List.mem_append_left _ (List.mem_append_left _ (List.mem_append_right _ h)))
  have hinX7 : ∀ w ∈ wsX70, w ∈ wsX5_put := fun w h => List.mem_cons_of_mem _ (List.mem_append_left _ (List.mem_append_left _ (List.mem_append_left _ (List.mem_append_right _ h))))
  refine nw_ (ci := 7) X hinX7 tyX7 tyX7_ok 1 2 3 rfl rfl rfl hW rfl [.int 0, .int 0] (fun j hj => by rcases (show j = 0 ∨ j = 1 by omega) with rfl | rfl <;> rfl) (Nat.le_of_ble_eq_true rfl) (Nat.le_of_ble_eq_true rfl) dX5_put_0 (fun q H hW => ?_)
  have hW : Wd Dd A s.heap ([(rb, .inr (5, [.ref vl, .ref kl, .ref co, .int ru, .int mo, .int lk, .int wn, .int qu, .int bu])), (vl, .inr (11, [.int mv, .ref av, .int (nI vs.length)])), (av, .inl (Y.2.1 2, cv, .inr (.inr (.inr (.inr (fun k => vs[k]?)))))), (kl, .inr (11, [.int mk, .ref ak, .int (nI ks.length)])), (co, .inl (Y.2.1 4, 6, .inr (.inr (.inr (.inr (fun l => some (ca l))))))), (q, .inr (7, [.int 0, .int 0]))] ++ (KT Y ak ck ks ++ va_pl L f)) _ _ := hW.permA pm_new
  refine lv_dup hx hb dX5_put_3 rfl ?_
  refine lv_iload_n hx hb dX5_put_4 rfl (lv_at hl 2 rfl) ?_
  refine rI_ (As := [.int y]) (rest := [.ref q]) (wc := [(q, .inr (7, [.int 0, .int 0]))]) (w9 := [(rb, .inr (5, [.ref vl, .ref kl, .ref co, .int ru, .int mo, .int lk, .int wn, .int qu, .int bu])), (vl, .inr (11, [.int mv, .ref av, .int (nI vs.length)])), (av, .inl (Y.2.1 2, cv, .inr (.inr (.inr (.inr (fun k => vs[k]?)))))), (kl, .inr (11, [.int mk, .ref ak, .int (nI ks.length)])), (co, .inl (Y.2.1 4, 6, .inr (.inr (.inr (.inr (fun l => some (ca l)))))))] ++ (KT Y ak ck ks ++ va_pl L f)) X (kX7_init l Dd Y q y) (cwI 1 X.1.2.2.2.2 gX5_put_X7_init rfl rfl rfl (X.w (i := 3) rfl) (X.w (i := 5) rfl) (X.w (i := 6) rfl) rfl (by decide +kernel) ⟨(Nat.le_of_ble_eq_true rfl), (Nat.le_of_ble_eq_true rfl)⟩) hW (pmq35 _ _ _ _ _ _ _) rfl hl.1 rfl (Nat.le_of_ble_eq_true rfl) dX5_put_5 ⟨(Nat.le_of_ble_eq_true rfl), (Nat.le_of_ble_eq_true rfl)⟩ (fun rv wq H locs hp hW => ?_)
  obtain ⟨rfl, rfl⟩ := hp
  have hW : Wd Dd A s.heap ([(q, .inr (7, [.int y, .int 0])), (rb, .inr (5, [.ref vl, .ref kl, .ref co, .int ru, .int mo, .int lk, .int wn, .int qu, .int bu])), (vl, .inr (11, [.int mv, .ref av, .int (nI vs.length)])), (av, .inl (Y.2.1 2, cv, .inr (.inr (.inr (.inr (fun k => vs[k]?)))))), (kl, .inr (11, [.int mk, .ref ak, .int (nI ks.length)])), (co, .inl (Y.2.1 4, 6, .inr (.inr (.inr (.inr (fun l => some (ca l)))))))] ++ (KT Y ak ck ks ++ va_pl L f)) H locs := hW
  have hW : Wd Dd A s.heap ([(rb, .inr (5, [.ref vl, .ref kl, .ref co, .int ru, .int mo, .int lk, .int wn, .int qu, .int bu])), (vl, .inr (11, [.int mv, .ref av, .int (nI vs.length)])), (av, .inl (Y.2.1 2, cv, .inr (.inr (.inr (.inr (fun k => vs[k]?)))))), (kl, .inr (11, [.int mk, .ref ak, .int (nI ks.length)])), (co, .inl (Y.2.1 4, 6, .inr (.inr (.inr (.inr (fun l => some (ca l))))))), (q, .inr (7, [.int y, .int 0]))] ++ (KT Y ak ck ks ++ va_pl L f)) H locs := hW.permA (pmq36 _ _ _ _ _ _ _)
  refine W.eq (g2 := F0 m 8 ls [.ref q]) rfl ?_
  obtain ⟨hqL, hW⟩ := Wd.push (hW.permA (pmq32 _ _ _ _ _ _ _))
  have hW : Wd Dd A s.heap ([(rb, .inr (5, [.ref vl, .ref kl, .ref co, .int ru, .int mo, .int lk, .int wn, .int qu, .int bu])), (vl, .inr (11, [.int mv, .ref av, .int (nI vs.length)])), (av, .inl (Y.2.1 2, cv, .inr (.inr (.inr (.inr (fun k => vs[k]?)))))), (kl, .inr (11, [.int mk, .ref ak, .int (nI ks.length)])), (co, .inl (Y.2.1 4, 6, .inr (.inr (.inr (.inr (fun l => some (ca l)))))))] ++ (KT Y ak ck ks ++ va_pl (L ++ [q]) (va_up f q (vE y 0)))) H _ := hW
  have hv1 : VO (L ++ [q]) (insL vs x q) (va_up f q (vE y 0)) := hvo.ins hqL (isV_vE (Or.inl rfl))
  have hO1 : CO Y (L ++ [q]) ca (va_up f q (vE y 0)) := hO.ins hqL
  have hlen : (insL vs x q).length = vs.length + 1 := insL_len (by omega)
  refine lv_astore_n (lv' := [(3, .ref q), (0, .ref rb), (1, .int (nI x)), (2, .int y)]) hx hb dX5_put_8 rfl hl (by decide) rfl (fun ls hl => ?_)
  refine lv_aload_n hx hb dX5_put_9 rfl (lv_at hl 1 rfl) ?_
  refine g_ X hinX5 hW 0 rfl rfl 0 (by decide) 4 rfl rfl rfl dX5_put_10 ?_
  refine lv_iload_n hx hb dX5_put_13 rfl (lv_at hl 2 rfl) ?_
  refine lv_aload_n hx hb dX5_put_14 rfl (lv_at hl 0 rfl) ?_
  have hmem : ∀ a ∈ vs, inx ([(rb, .inr (5, [.ref vl, .ref kl, .ref co, .int ru, .int mo, .int lk, .int wn, .int qu, .int bu])), (kl, .inr (11, [.int mk, .ref ak, .int (nI ks.length)])), (co, .inl (Y.2.1 4, 6, .inr (.inr (.inr (.inr (fun l => some (ca l)))))))] ++ (KT Y ak ck ks ++ va_pl (L ++ [q]) (va_up f q (vE y 0)))) a := fun a ha => inx_v ⟨List.mem_append_left _ (hvo.2 a ha).1, by unfold va_up; rw [if_neg (fun k : a = q => hqL (k ▸ (hvo.2 a ha).1))]; exact (hvo.2 a ha).2⟩
  have hmq : inx ([(rb, .inr (5, [.ref vl, .ref kl, .ref co, .int ru, .int mo, .int lk, .int wn, .int qu, .int bu])), (kl, .inr (11, [.int mk, .ref ak, .int (nI ks.length)])), (co, .inl (Y.2.1 4, 6, .inr (.inr (.inr (.inr (fun l => some (ca l)))))))] ++ (KT Y ak ck ks ++ va_pl (L ++ [q]) (va_up f q (vE y 0)))) q := inx_v ⟨List.mem_append_right _ (List.mem_singleton.mpr rfl), by rw [up_at]; exact isV_vE (Or.inl rfl)⟩
  refine rF_ (As := [.int (nI x), .ref q]) (rest := []) (wc := WLs Y vl mv av cv vs ++ ([(rb, .inr (5, [.ref vl, .ref kl, .ref co, .int ru, .int mo, .int lk, .int wn, .int qu, .int bu])), (kl, .inr (11, [.int mk, .ref ak, .int (nI ks.length)])), (co, .inl (Y.2.1 4, 6, .inr (.inr (.inr (.inr (fun l => some (ca l)))))))] ++ (KT Y ak ck ks ++ va_pl (L ++ [q]) (va_up f q (vE y 0))))) (w9 := []) X 2 (kIns l Dd Y vl av cv x q mv vs ([(rb, .inr (5, [.ref vl, .ref kl, .ref co, .int ru, .int mo, .int lk, .int wn, .int qu, .int bu])), (kl, .inr (11, [.int mk, .ref ak, .int (nI ks.length)])), (co, .inl (Y.2.1 4, 6, .inr (.inr (.inr (.inr (fun l => some (ca l)))))))] ++ (KT Y ak ck ks ++ va_pl (L ++ [q]) (va_up f q (vE y 0)))) hK hmem hmq (by omega) hxn) gX5_put_Jx4a65c_add_7a177_f103Jx4a65c rfl rfl rfl (by decide +kernel) (by decide +kernel) ⟨(Nat.le_of_ble_eq_true rfl), (Nat.le_of_ble_eq_true rfl)⟩ hW (by rw [WLs_s _ _ _ (show 0 < cv by have := hK.2.1; omega)]; exact (pmq37 _ _ _ _ _ _)) 0 11 rfl rfl rfl rfl hl.1 rfl (Nat.le_of_ble_eq_true rfl) dX5_put_15 ⟨(Nat.le_of_ble_eq_true rfl), (Nat.le_of_ble_eq_true rfl)⟩ (fun rv wq H locs hp hW => ?_)
  obtain ⟨rfl, mv', av', cv', hc0, hK', rfl⟩ := hp
  have hW : Wd Dd A s.heap ([(rb, .inr (5, [.ref vl, .ref kl, .ref co, .int ru, .int mo, .int lk, .int wn, .int qu, .int bu])), (vl, .inr (11, [.int mv', .ref av', .int (nI (insL vs x q).length)])), (av', .inl (Y.2.1 2, cv', .inr (.inr (.inr (.inr (fun k => (insL vs x q)[k]?)))))), (kl, .inr (11, [.int mk, .ref ak, .int (nI ks.length)])), (co, .inl (Y.2.1 4, 6, .inr (.inr (.inr (.inr (fun l => some (ca l)))))))] ++ (KT Y ak ck ks ++ va_pl (L ++ [q]) (va_up f q (vE y 0)))) H locs := by
    rw [WLs_s _ _ _ hc0] at hW
    exact hW.permA (pmq38 _ _ _ _ _ _)
  refine W.eq (g2 := F0 m 20 ls []) rfl ?_
  refine lv_aload_n hx hb dX5_put_20 rfl (lv_at hl 1 rfl) ?_
  have hg1 := hg.ins (y := y) hvo hqL (show x ≤ vs.length by omega)
  refine rV_ (As := []) (rest := []) (wc := [(rb, .inr (5, [.ref vl, .ref kl, .ref co, .int ru, .int mo, .int lk, .int wn, .int qu, .int bu])), (vl, .inr (11, [.int mv', .ref av', .int (nI (insL vs x q).length)])), (av', .inl (Y.2.1 2, cv', .inr (.inr (.inr (.inr (fun k => (insL vs x q)[k]?)))))), (kl, .inr (11, [.int mk, .ref ak, .int (nI ks.length)])), (co, .inl (Y.2.1 4, 6, .inr (.inr (.inr (.inr (fun l => some (ca l)))))))] ++ (KT Y ak ck ks ++ va_pl (L ++ [q]) (va_up f q (vE y 0)))) (w9 := []) X (kX5_build l Dd Y rb vl kl co av' cv' ak ck ca (insL vs x q) ks (L ++ [q]) (va_up f q (vE y 0)) ru mo lk wn qu bu mv' mk (insG g x y) hg1 hK'.2 hv1 hO1 (by omega)) (cwV 0 X.1.2.2.2.2 gX5_put_X5_build rfl rfl rfl (by decide +kernel) ⟨(Nat.le_of_ble_eq_true rfl), (Nat.le_of_ble_eq_true rfl)⟩) hW (by rw [List.append_nil]) 0 5 rfl rfl rfl rfl hl.1 rfl (Nat.le_of_ble_eq_true rfl) dX5_put_21 ⟨(Nat.le_of_ble_eq_true rfl), (Nat.le_of_ble_eq_true rfl)⟩ (fun rv wq H locs hp hW => ?_)
  obtain ⟨f', hf', rfl, rfl⟩ := hp
  have hW : Wd Dd A s.heap ([(rb, .inr (5, [.ref vl, .ref kl, .ref co, .int ru, .int mo, .int lk, .int (wn + nI (cs (fun l => (insL vs x q).length + 1 - 2 ^ l) 5)), .int qu, .int (bu + 1)])), (vl, .inr (11, [.int mv', .ref av', .int (nI (insL vs x q).length)])), (av', .inl (Y.2.1 2, cv', .inr (.inr (.inr (.inr (fun k => (insL vs x q)[k]?)))))), (kl, .inr (11, [.int mk, .ref ak, .int (nI ks.length)])), (co, .inl (Y.2.1 4, 6, .inr (.inr (.inr (.inr (fun l => some (ca l)))))))] ++ (KT Y ak ck ks ++ va_pl (L ++ [q]) f')) H locs := by rw [List.append_nil] at hW; exact hW
  refine W.eq (g2 := F0 m 24 ls []) rfl ?_
  refine lv_aload_n hx hb dX5_put_24 rfl (lv_at hl 1 rfl) ?_
  refine g_ X hinX5 hW 0 rfl rfl 0 (by decide) 4 rfl rfl rfl dX5_put_25 ?_
  refine rF_ (As := []) (rest := []) (wc := [(vl, .inr (11, [.int mv', .ref av', .int (nI (insL vs x q).length)]))]) (w9 := [(rb, .inr (5, [.ref vl, .ref kl, .ref co, .int ru, .int mo, .int lk, .int (wn + nI (cs (fun l => (insL vs x q).length + 1 - 2 ^ l) 5)), .int qu, .int (bu + 1)])), (av', .inl (Y.2.1 2, cv', .inr (.inr (.inr (.inr (fun k => (insL vs x q)[k]?)))))), (kl, .inr (11, [.int mk, .ref ak, .int (nI ks.length)])), (co, .inl (Y.2.1 4, 6, .inr (.inr (.inr (.inr (fun l => some (ca l)))))))] ++ (KT Y ak ck ks ++ va_pl (L ++ [q]) f')) X 0 (kJx4a65c_size_8abf5 l Dd Y vl mv' (nI (insL vs x q).length) (.ref av')) gX5_put_Jx4a65c_size_8abf5_f24Jx4a65c rfl rfl rfl (by decide +kernel) (by decide +kernel) ⟨(Nat.le_of_ble_eq_true rfl), (Nat.le_of_ble_eq_true rfl)⟩ hW (pmq25 _ _ _ _ _ _) 0 11 rfl rfl rfl rfl hl.1 rfl (Nat.le_of_ble_eq_true rfl) dX5_put_28 ⟨(Nat.le_of_ble_eq_true rfl), (Nat.le_of_ble_eq_true rfl)⟩ (fun rv wq H locs hp hW => ?_)
  obtain ⟨rfl, rfl⟩ := hp
  have hW : Wd Dd A s.heap ([(vl, .inr (11, [.int mv', .ref av', .int (nI (insL vs x q).length)])), (rb, .inr (5, [.ref vl, .ref kl, .ref co, .int ru, .int mo, .int lk, .int (wn + nI (cs (fun l => (insL vs x q).length + 1 - 2 ^ l) 5)), .int qu, .int (bu + 1)])), (av', .inl (Y.2.1 2, cv', .inr (.inr (.inr (.inr (fun k => (insL vs x q)[k]?)))))), (kl, .inr (11, [.int mk, .ref ak, .int (nI ks.length)])), (co, .inl (Y.2.1 4, 6, .inr (.inr (.inr (.inr (fun l => some (ca l)))))))] ++ (KT Y ak ck ks ++ va_pl (L ++ [q]) f')) H locs := hW
  have hW : Wd Dd A s.heap ([(rb, .inr (5, [.ref vl, .ref kl, .ref co, .int ru, .int mo, .int lk, .int (wn + nI (cs (fun l => (insL vs x q).length + 1 - 2 ^ l) 5)), .int qu, .int (bu + 1)])), (vl, .inr (11, [.int mv', .ref av', .int (nI (insL vs x q).length)])), (av', .inl (Y.2.1 2, cv', .inr (.inr (.inr (.inr (fun k => (insL vs x q)[k]?)))))), (kl, .inr (11, [.int mk, .ref ak, .int (nI ks.length)])), (co, .inl (Y.2.1 4, 6, .inr (.inr (.inr (.inr (fun l => some (ca l)))))))] ++ (KT Y ak ck ks ++ va_pl (L ++ [q]) f')) H locs := hW.permA (pmq26 _ _ _ _ _ _)
  refine W.eq (g2 := F0 m 33 ls [.int (nI (insL vs x q).length)]) rfl ?_
  exact hI _ _ _ _ _ _ _ _ _ ⟨by rw [hlen], q, mv', av', cv', f', hqL, hc0, hK', hf', rfl⟩ rfl rfl (Nat.le_of_ble_eq_true rfl) (Nat.le_of_ble_eq_true rfl) hW dX5_put_33
