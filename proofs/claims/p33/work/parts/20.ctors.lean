/-! constructors: the world grows -/
def MC {S : Type} (l : Launch) (y : MethodName) (words : List Cond) (rm : Room) (Dd : va_G) (Y : yT) (av : List Value) (ws : va_W) (w' : S → va_W) (mc ms : Nat) : Prop :=
  ∀ sz : Nat, Met l y words rm (va_Pc av (sPre Dd Y sz ws)) (fun _ st oc t => (∃ u : S, oc = .returned none ∧ sEnd Dd Y (va_A ws sz) (w' u) t) ∧ va_F (va_A ws sz) st t) mc ms (va_A ws sz)
section CTORS
variable {p : Program} {l : Launch} {e : Env} {R : Room} {s : State} {m : MethodId} {args : Array Value} {below : List Frame} {meth : Method} {c : Code} {H : Heap} {locs : List Loc} {cells slots : Nat} {Q : State → Prop}
variable {cc : ByteArray} {nL pc : Nat} {Ts : List Cond} {own : String} {Dd : va_G} {Y : yT} {A : Nat → Prop} {ls : Array Slot} {rest st : List Value} {ws : va_W} {a : Nat}
theorem MCk {S : Type} {y : MethodName} {words ws9 : List Cond} {rm : Room} {maxL : Nat} {av : List Value} {w' : S → va_W} {mc ms : Nat} (hin : y.name = "<init>") (hy : plainName y.cls = true) (hw : words = .code y cc maxL none :: ws9) (hlen : (lg_sl av).length ≤ maxL)
    (k : ∀ {p : Program} {e : Env} {s : State} {m : MethodId} {args : Array Value} {below : List Frame} {meth : Method} {c : Code} {A : Nat → Prop} (ls : Array Slot) (Q : State → Prop), cx p s m args c cc maxL words y.cls Dd Y A → meth.name = "<init>" → Wd Dd A s.heap ws s.heap [] → lv_has ls maxL (lv_args 0 av) →
      (∀ (cells slots : Nat) (H : Heap) (locs : List Loc) (ls : Array Slot) (pc : Nat) (u : S), cells ≤ mc → slots ≤ ms → Wd Dd A s.heap (w' u) H locs → decode cc pc = .ok (.return_, 1) → W p l e rm s m args below meth c H locs cells slots Q (F0 m pc ls [])) → W p l e rm s m args below meth c s.heap [] 0 0 Q (F0 m 0 ls [])) : MC l y words rm Dd Y av ws w' mc ms := by
  intro sz
  refine Met.ofW (cc := cc) (maxL := maxL) (ret := none) hy hw ?_
  intro p e s m args below meth c s₁ B hml hv
  obtain ⟨rfl, hsz, hP, hK, hD0, hX, hZ⟩ := hv
  subst hsz
  have hD : va_D (va_A ws s.heap.size) ws := hD0.self
  have hts := atoms_spec (ws := words) B.pre
  have hown : s.vm.findClass y.cls = some m.cls := findClass_of_methodNamed B.named
  rw [lg_entry_eq]
  refine k _ _ ⟨⟨B.exec, B.bytes, hml, hown, hts⟩, hK, fun q h => Or.inr h, hX, hZ⟩ ((name_of_methodNamed B.named B.method).1.trans hin) ⟨hP, hD, va_S.rf⟩ (lv_entry av hlen) (fun cells slots H locs ls pc u hc hs hW hdg => ?_)
  refine W.widen hc hs ?_
  exact W.vret B.exec B.bytes B.returns (fun t ht hWm => ⟨⟨u, rfl, by rw [ht]; exact hW.1, va_K.moved hWm.alike hK, hW.2.1⟩, hW.2.2.F ht⟩) hW.2.2.2.2 hdg B.notSynchronized
/-- a constructor's call over the last cell -/
theorem cI_ {S : Type} (X : cx p s m args c cc nL Ts own Dd Y A) {y : MethodName} {words : List Cond} {rm : Room} {pre wc : va_W} {w1 : S → va_W} {bytes : ByteArray} {maxL index b mc ms : Nat} (hM : MC l y words rm Dd Y [.ref b] wc w1 mc ms) (cw : CallB R s args own index y bytes maxL none words rm mc ms 0 ∧ y.name = "<init>" ∧ (Cond.instanceMethod y).before args s = true) (hW : Wd Dd A s.heap (pre ++ wc) H locs) (hl : ls.size = nL) (hr : (rest.map fun v => v.category).sum ≤ 8) (hdg : decode cc pc = .ok (.invokespecial index, 3)) (hf : cells + mc ≤ R.cells ∧ slots + ms ≤ R.slots)
    (kk : ∀ (u : S) (H : Heap) (locs : List Loc), Wd Dd A s.heap (pre ++ w1 u) H locs → W p l e R s m args below meth c H locs (cells + mc) (slots + ms) Q (F0 m (pc + 3) ls rest)) : W p l e R s m args below meth c H locs cells slots Q (F0 m pc ls (.ref b :: rest)) := by
  have hW2 : Wd Dd A s.heap (pre ++ (wc ++ [])) H locs := by rw [List.append_nil]; exact hW
  obtain ⟨hP, hD, hS⟩ := hW2
  have hPc := (bk_P.mp hP).2.1
  have hDc : va_D A wc := by
    obtain ⟨d1, d2⟩ := bk_D.mp hD
    rw [List.map_append, List.map_append] at d1
    exact bk_D.mpr ⟨(List.nodup_append.mp (List.nodup_append.mp d1).2.1).1, fun q hq => d2 q (List.mem_append_right _ (List.mem_append_left _ hq))⟩
  have hF := wd_free X.2.2.1 ⟨hPc, hDc, hS⟩
  have hrun := va_runI (l := l) (below := below) (e := e) (meth := meth) (locs := locs) (cells := cells) (slots := slots) (As := []) (rest := rest) (H := H) (b := b) X.1 (hM H.size) cw ⟨sPre.blind _ _ _ _ _, fun U hU hWm => ⟨rfl, by rw [hU], by rw [hU]; exact hPc, va_K.moved hWm.alike X.2.1, hDc.weaken (fun _ _ _ _ => trivial), X.2.2.2.1.warm hWm, cx.z X hS hF hU hWm⟩⟩ (g := F0 m pc ls (.ref b :: rest)) rfl rfl hl rfl (lv_room hr) hdg hf
  intro T hT XS
  obtain ⟨v, st₀, t, T', L, h0, X', hL, e1, e2, ⟨⟨u, hv, hP1, -, hD1⟩, hFr⟩, stp⟩ := hrun T hT XS
  cases hv
  obtain ⟨k1, k2, k3⟩ := vx_keep h0 e1 hS (fun q _ h => hF q h) hF hL hFr
  obtain ⟨g1, g2⟩ := bk_call hP hD k2 hF (by rw [e1]; exact hP1) hD1
  obtain ⟨t2, a1, b1⟩ := kk u T'.heap (locs ++ L) (by rw [← List.append_nil (w1 u)]; exact ⟨g1, g2, k3⟩) T' rfl X'
  exact ⟨t2, stp t2 a1, b1⟩
end CTORS
def G0 : gR := (fun _ _ => 0, 0)
def adj (b : Nat) (u : Nat → Nat) : Nat → Nat := fun k => if k = 0 then b else u k
abbrev f3 : List Value := [.null, .null, .int 0]
abbrev f1 : List Value := [.null, .null, .null, .int 0, .int 0, .int 0, .long 0, .int 0, .int 0, .int 0, .int 0]
abbrev f0 : List Value := [.null, .int 0, .int 0]
abbrev f2 : List Value := [.null, .int 0, .null, .int 0, .int 0, .int 0, .int 0, .int 0, .int 0, .int 0, .int 0]

abbrev rmX3_init : Room := { frames := 1, cells := 2, slots := 16, locals := 12 }
set_option maxRecDepth 100000 in
set_option maxHeartbeats 4000000 in
theorem kX3_init (l : Launch) (Dd : va_G) (Y : yT) (b : Nat) : MC l yX3_init wsX3_init rmX3_init Dd Y [.ref b] [(b, .inr (3, f3))] (fun u : Nat × Nat => [(b, .inr (3, [.ref u.1, .ref u.2, .int 0])), (u.1, .inl (Y.1, 8, .inl (fun _ => 0))), (u.2, .inl (Y.1, 8, .inl (fun _ => 0)))]) 2 16 := by
  refine MCk (cc := cX3_init) (maxL := 1) rfl (by decide) rfl (Nat.le_of_ble_eq_true rfl) (fun {p e s m args below meth c A} ls Q X hi hW hl hV => ?_)
  have hx := X.x
  have hb := X.b
  have hl : lv_has ls 1 [(0, .ref b)] := hl
  have hinX3 : ∀ w ∈ wsX30, w ∈ wsX3_init := fun w h => List.mem_cons_of_mem _ (List.mem_append_right _ h)
  refine lv_aload_n hx hb dX3_init_0 rfl (lv_at hl 0 rfl) ?_
  refine W.objInit hx hb X.1.2.2.2.1 (X.w (i := 1) rfl) (X.w (i := 2) rfl) (X.w (i := 3) rfl) rfl (by rw [X.1.2.2.1]; exact hl.1) rfl dX3_init_1 (Nat.le_of_ble_eq_true rfl) (Nat.le_of_ble_eq_true rfl) ?_
  refine W.eq (g2 := F0 m 4 ls []) rfl ?_
  refine lv_aload_n hx hb dX3_init_4 rfl (lv_at hl 0 rfl) ?_
  refine lv_bipush (v := 8) hx hb dX3_init_5 (by decide) ?_
  refine ni_ (N' := 8) X 4 rfl hW (by decide) rfl (by decide) (Nat.le_of_ble_eq_true rfl) (Nat.le_of_ble_eq_true rfl) dX3_init_7 (fun q1 H hW => ?_)
  refine pf_ (ty := (.array .int)) X hi hinX3 tyX3 tyX3_ok nmX3 hW 0 rfl rfl 0 (by decide) 5 rfl rfl rfl rfl (by decide +kernel) rfl rfl (Nat.le_of_ble_eq_true rfl) dX3_init_9 (ws' := [(b, .inr (3, [.ref q1, .null, .int 0])), (q1, .inl (Y.1, 8, .inl (fun _ => 0)))]) rfl (fun H locs hW => ?_)
  refine lv_aload_n hx hb dX3_init_12 rfl (lv_at hl 0 rfl) ?_
  refine lv_bipush (v := 8) hx hb dX3_init_13 (by decide) ?_
  refine ni_ (N' := 8) X 4 rfl hW (by decide) rfl (by decide) (Nat.le_of_ble_eq_true rfl) (Nat.le_of_ble_eq_true rfl) dX3_init_15 (fun q2 H hW => ?_)
  refine pf_ (ty := (.array .int)) X hi hinX3 tyX3 tyX3_ok nmX3 hW 0 rfl rfl 1 (by decide) 6 rfl rfl rfl rfl (by decide +kernel) rfl rfl (Nat.le_of_ble_eq_true rfl) dX3_init_17 (ws' := [(b, .inr (3, [.ref q1, .ref q2, .int 0])), (q1, .inl (Y.1, 8, .inl (fun _ => 0))), (q2, .inl (Y.1, 8, .inl (fun _ => 0)))]) rfl (fun H locs hW => ?_)
  exact hV _ _ _ _ _ _ (q1, q2) (Nat.le_of_ble_eq_true rfl) (Nat.le_of_ble_eq_true rfl) hW dX3_init_20
abbrev rmX1_init : Room := { frames := 2, cells := 5, slots := 299, locals := 32 }
set_option maxRecDepth 100000 in
set_option maxHeartbeats 4000000 in
theorem kX1_init (l : Launch) (Dd : va_G) (Y : yT) (b : Nat) : MC l yX1_init wsX1_init rmX1_init Dd Y [.ref b] [(b, .inr (1, f1))] (fun u : Nat → Nat => WR Y (adj b u) G0) 5 299 := by
  refine MCk (cc := cX1_init) (maxL := 1) rfl (by decide) rfl (Nat.le_of_ble_eq_true rfl) (fun {p e s m args below meth c A} ls Q X hi hW hl hV => ?_)
  have hx := X.x
  have hb := X.b
  have hl : lv_has ls 1 [(0, .ref b)] := hl
  have hinX1 : ∀ w ∈ wsX10, w ∈ wsX1_init := fun w h => List.mem_cons_of_mem _ (List.mem_append_left _ (List.mem_append_right _ h))
  have hinX3 : ∀ w ∈ wsX30, w ∈ wsX1_init := fun w h => List.mem_cons_of_mem _ (List.mem_append_right _ h)
  refine lv_aload_n hx hb dX1_init_0 rfl (lv_at hl 0 rfl) ?_
  refine W.objInit hx hb X.1.2.2.2.1 (X.w (i := 1) rfl) (X.w (i := 2) rfl) (X.w (i := 3) rfl) rfl (by rw [X.1.2.2.1]; exact hl.1) rfl dX1_init_1 (Nat.le_of_ble_eq_true rfl) (Nat.le_of_ble_eq_true rfl) ?_
  refine W.eq (g2 := F0 m 4 ls []) rfl ?_
  refine lv_aload_n hx hb dX1_init_4 rfl (lv_at hl 0 rfl) ?_
  refine lv_bipush (v := 40) hx hb dX1_init_5 (by decide) ?_
  refine ni_ (N' := 40) X 4 rfl hW (by decide) rfl (by decide) (Nat.le_of_ble_eq_true rfl) (Nat.le_of_ble_eq_true rfl) dX1_init_7 (fun q1 H hW => ?_)
  refine pf_ (ty := (.array .int)) X hi hinX1 tyX1 tyX1_ok nmX1 hW 0 rfl rfl 0 (by decide) 5 rfl rfl rfl rfl (by decide +kernel) rfl rfl (Nat.le_of_ble_eq_true rfl) dX1_init_9 (ws' := [(b, .inr (1, [.ref q1, .null, .null, .int 0, .int 0, .int 0, .long 0, .int 0, .int 0, .int 0, .int 0])), (q1, .inl (Y.1, 40, .inl (fun _ => 0)))]) rfl (fun H locs hW => ?_)
  refine lv_aload_n hx hb dX1_init_12 rfl (lv_at hl 0 rfl) ?_
  refine lv_sipush (v := 240) hx hb dX1_init_13 (by decide) ?_
  refine ni_ (N' := 240) X 4 rfl hW (by decide) rfl (by decide) (Nat.le_of_ble_eq_true rfl) (Nat.le_of_ble_eq_true rfl) dX1_init_16 (fun q2 H hW => ?_)
  refine pf_ (ty := (.array .int)) X hi hinX1 tyX1 tyX1_ok nmX1 hW 0 rfl rfl 1 (by decide) 6 rfl rfl rfl rfl (by decide +kernel) rfl rfl (Nat.le_of_ble_eq_true rfl) dX1_init_18 (ws' := [(b, .inr (1, [.ref q1, .ref q2, .null, .int 0, .int 0, .int 0, .long 0, .int 0, .int 0, .int 0, .int 0])), (q1, .inl (Y.1, 40, .inl (fun _ => 0))), (q2, .inl (Y.1, 240, .inl (fun _ => 0)))]) rfl (fun H locs hW => ?_)
  refine lv_aload_n hx hb dX1_init_21 rfl (lv_at hl 0 rfl) ?_
  refine nw_ (ci := 3) X hinX3 tyX3 tyX3_ok 7 8 9 rfl rfl rfl hW rfl f3 (fun j hj => by rcases (show j = 0 ∨ j = 1 ∨ j = 2 by omega) with rfl | rfl | rfl <;> rfl) (Nat.le_of_ble_eq_true rfl) (Nat.le_of_ble_eq_true rfl) dX1_init_22 (fun q3 H hW => ?_)
  refine lv_dup hx hb dX1_init_25 rfl ?_
  refine cI_ (pre := [(b, .inr (1, [.ref q1, .ref q2, .null, .int 0, .int 0, .int 0, .long 0, .int 0, .int 0, .int 0, .int 0])), (q1, .inl (Y.1, 40, .inl (fun _ => 0))), (q2, .inl (Y.1, 240, .inl (fun _ => 0)))]) X (kX3_init l Dd Y q3) (cwI 0 X.1.2.2.2.2 gX1_init_X3_init rfl rfl rfl (X.w (i := 9) rfl) (X.w (i := 11) rfl) (X.w (i := 12) rfl) rfl (by decide +kernel) ⟨(Nat.le_of_ble_eq_true rfl), (Nat.le_of_ble_eq_true rfl)⟩) hW hl.1 (Nat.le_of_ble_eq_true rfl) dX1_init_26 ⟨(Nat.le_of_ble_eq_true rfl), (Nat.le_of_ble_eq_true rfl)⟩ (fun u H locs hW => ?_)
  refine pf_ (ty := (.object "DoubledRows$Stretches")) X hi hinX1 tyX1 tyX1_ok nmX1 hW 0 rfl rfl 2 (by decide) 10 rfl rfl rfl rfl (by decide +kernel) rfl rfl (Nat.le_of_ble_eq_true rfl) dX1_init_29 (ws' := WR Y (adj b (fun k => if k = 1 then q1 else if k = 2 then q2 else if k = 3 then q3 else if k = 4 then u.1 else u.2)) G0) rfl (fun H locs hW => ?_)
  exact hV _ _ _ _ _ _ _ (Nat.le_of_ble_eq_true rfl) (Nat.le_of_ble_eq_true rfl) hW dX1_init_32
abbrev rmX2_init : Room := { frames := 3, cells := 7, slots := 810, locals := 60 }
set_option maxRecDepth 100000 in
set_option maxHeartbeats 4000000 in
theorem kX2_init (l : Launch) (Dd : va_G) (Y : yT) (b : Nat) : MC l yX2_init wsX2_init rmX2_init Dd Y [.ref b] [(b, .inr (2, f2))] (fun u : Nat × (Nat → Nat) => WD Y (adj b (fun _ => u.1)) u.2 (fun _ _ => 0, G0)) 7 810 := by
  refine MCk (cc := cX2_init) (maxL := 1) rfl (by decide) rfl (Nat.le_of_ble_eq_true rfl) (fun {p e s m args below meth c A} ls Q X hi hW hl hV => ?_)
  have hx := X.x
  have hb := X.b
  have hl : lv_has ls 1 [(0, .ref b)] := hl
  have hinX2 : ∀ w ∈ wsX20, w ∈ wsX2_init := fun w h => List.mem_cons_of_mem _ (List.mem_append_left _ (List.mem_append_left _ (List.mem_append_right _ h)))
  have hinX1 : ∀ w ∈ wsX10, w ∈ wsX2_init := fun w h => List.mem_cons_of_mem _ (List.mem_append_left _ (List.mem_append_right _ h))
  refine lv_aload_n hx hb dX2_init_0 rfl (lv_at hl 0 rfl) ?_
  refine W.objInit hx hb X.1.2.2.2.1 (X.w (i := 1) rfl) (X.w (i := 2) rfl) (X.w (i := 3) rfl) rfl (by rw [X.1.2.2.1]; exact hl.1) rfl dX2_init_1 (Nat.le_of_ble_eq_true rfl) (Nat.le_of_ble_eq_true rfl) ?_
  refine W.eq (g2 := F0 m 4 ls []) rfl ?_
  refine lv_aload_n hx hb dX2_init_4 rfl (lv_at hl 0 rfl) ?_
  refine lv_sipush (v := 500) hx hb dX2_init_5 (by decide) ?_
  refine ni_ (N' := 500) X 4 rfl hW (by decide) rfl (by decide) (Nat.le_of_ble_eq_true rfl) (Nat.le_of_ble_eq_true rfl) dX2_init_8 (fun q1 H hW => ?_)
  refine pf_ (ty := (.array .int)) X hi hinX2 tyX2 tyX2_ok nmX2 hW 0 rfl rfl 0 (by decide) 5 rfl rfl rfl rfl (by decide +kernel) rfl rfl (Nat.le_of_ble_eq_true rfl) dX2_init_10 (ws' := [(b, .inr (2, [.ref q1, .int 0, .null, .int 0, .int 0, .int 0, .int 0, .int 0, .int 0, .int 0, .int 0])), (q1, .inl (Y.1, 500, .inl (fun _ => 0)))]) rfl (fun H locs hW => ?_)
  refine lv_aload_n hx hb dX2_init_13 rfl (lv_at hl 0 rfl) ?_
  refine nw_ (ci := 1) X hinX1 tyX1 tyX1_ok 6 7 8 rfl rfl rfl hW rfl f1 (fun j hj => by rcases (show j = 0 ∨ j = 1 ∨ j = 2 ∨ j = 3 ∨ j = 4 ∨ j = 5 ∨ j = 6 ∨ j = 7 ∨ j = 8 ∨ j = 9 ∨ j = 10 by omega) with rfl | rfl | rfl | rfl | rfl | rfl | rfl | rfl | rfl | rfl | rfl <;> rfl) (Nat.le_of_ble_eq_true rfl) (Nat.le_of_ble_eq_true rfl) dX2_init_14 (fun q3 H hW => ?_)
  refine lv_dup hx hb dX2_init_17 rfl ?_
  refine cI_ (pre := [(b, .inr (2, [.ref q1, .int 0, .null, .int 0, .int 0, .int 0, .int 0, .int 0, .int 0, .int 0, .int 0])), (q1, .inl (Y.1, 500, .inl (fun _ => 0)))]) X (kX1_init l Dd Y q3) (cwI 0 X.1.2.2.2.2 gX2_init_X1_init rfl rfl rfl (X.w (i := 8) rfl) (X.w (i := 10) rfl) (X.w (i := 11) rfl) rfl (by decide +kernel) ⟨(Nat.le_of_ble_eq_true rfl), (Nat.le_of_ble_eq_true rfl)⟩) hW hl.1 (Nat.le_of_ble_eq_true rfl) dX2_init_18 ⟨(Nat.le_of_ble_eq_true rfl), (Nat.le_of_ble_eq_true rfl)⟩ (fun u H locs hW => ?_)
  refine pf_ (ty := (.object "DoubledRows$Row")) X hi hinX2 tyX2 tyX2_ok nmX2 hW 0 rfl rfl 2 (by decide) 9 rfl rfl rfl rfl (by decide +kernel) rfl rfl (Nat.le_of_ble_eq_true rfl) dX2_init_21 (ws' := WD Y (adj b (fun _ => q1)) (adj q3 u) (fun _ _ => 0, G0)) rfl (fun H locs hW => ?_)
  exact hV _ _ _ _ _ _ (q1, adj q3 u) (Nat.le_of_ble_eq_true rfl) (Nat.le_of_ble_eq_true rfl) hW dX2_init_24
theorem WRs_ar0 (Y : yT) (ar ar' : Nat → Nat → Nat) (K : Nat → gR) : ∀ js : List Nat, (∀ k ∈ js, ar k = ar' k) → WRs Y ar K js = WRs Y ar' K js := by
  intro js
  induction js with
  | nil => intro _; rfl
  | cons a js ih =>
    intro h
    show WR Y (ar a) (K a) ++ WRs Y ar K js = WR Y (ar' a) (K a) ++ WRs Y ar' K js
    rw [ih (fun k hk => h k (List.mem_cons_of_mem _ hk)), h a List.mem_cons_self]
theorem WRs_ar (Y : yT) (ar ar' : Nat → Nat → Nat) (K : Nat → gR) (js : List Nat) (h : ∀ k ∈ js, ar k = ar' k) : WRs Y ar K js = WRs Y ar' K js := WRs_ar0 Y ar ar' K js h
def fA (ar : Nat → Nat → Nat) (i : Nat) : Nat → Option Nat := fun k => if k < i then some (ar k 0) else none
theorem vp_refs {c : ClassId} {n : Nat} {f g : Nat → Option Nat} (h : ∀ j, j < n → f j = g j) : vp_cell c (n, .inr (.inr (.inr (.inr f)))) = vp_cell c (n, .inr (.inr (.inr (.inr g)))) := by
  show arrV c n (fun j => va_rf (f j)) = arrV c n (fun j => va_rf (g j))
  unfold arrV
  congr 1
  apply Array.ext
  · simp
  · intro j h1 h2
    have hj : j < n := by simpa using h1
    simp [h j hj]
abbrev rmX0_init : Room := { frames := 3, cells := 49, slots := 2488, locals := 60 }
set_option maxRecDepth 100000 in
set_option maxHeartbeats 4000000 in
theorem kX0_init (l : Launch) (Dd : va_G) (Y : yT) (b : Nat) : MC l yX0_init wsX0_init rmX0_init Dd Y [.ref b] [(b, .inr (0, f0))] (fun u : Nat × (Nat → Nat → Nat) => WH Y (adj b (fun _ => u.1)) u.2 (fun _ _ => 0, fun _ => G0)) 49 2488 := by
  refine MCk (cc := cX0_init) (maxL := 2) rfl (by decide) rfl (Nat.le_of_ble_eq_true rfl) (fun {p e s m args below meth c A} ls Q X hi hW hl hV => ?_)
  have hx := X.x
  have hb := X.b
  have hl : lv_has ls 2 [(0, .ref b)] := hl
  have hinX0 : ∀ w ∈ wsX00, w ∈ wsX0_init := fun w h => List.mem_cons_of_mem _ (List.mem_append_left _ (List.mem_append_left _ (List.mem_append_right _ h)))
  have hinX1 : ∀ w ∈ wsX10, w ∈ wsX0_init := fun w h => List.mem_cons_of_mem _ (List.mem_append_left _ (List.mem_append_right _ h))
  refine lv_aload_n hx hb dX0_init_0 rfl (lv_at hl 0 rfl) ?_
  refine W.objInit hx hb X.1.2.2.2.1 (X.w (i := 1) rfl) (X.w (i := 2) rfl) (X.w (i := 3) rfl) rfl (by rw [X.1.2.2.1]; exact hl.1) rfl dX0_init_1 (Nat.le_of_ble_eq_true rfl) (Nat.le_of_ble_eq_true rfl) ?_
  refine W.eq (g2 := F0 m 4 ls []) rfl ?_
  refine lv_aload_n hx hb dX0_init_4 rfl (lv_at hl 0 rfl) ?_
  refine lv_bipush (v := 8) hx hb dX0_init_5 (by decide) ?_
  refine va_newq (N' := 8) hx hb X.1.2.2.2.1 (X.w (i := 4) rfl) X.2.2.2.1.2.2.2.2.2.2 X.2.1 hW.1 hW.2.1 hW.2.2 X.2.2.1 (by decide) rfl (by decide) (Nat.le_of_ble_eq_true rfl) (Nat.le_of_ble_eq_true rfl) dX0_init_7 (fun qa cA H1 hK2 h1 h2 h3 => ?_)
  have e1 : s.vm.findClass ("[" ++ (FieldType.object "DoubledRows$Row").toString) = some cA := by obtain ⟨kA, comp, g1, g2, g3, g4⟩ := (hK2.2 6 (cA, .object "DoubledRows$Row") rfl).2; exact g4
  have e2 : s.vm.findClass ("[" ++ (FieldType.object "DoubledRows$Row").toString) = some Y.2.2.1 := by obtain ⟨kA, comp, g1, g2, g3, g4⟩ := (X.2.1.2 2 (Y.2.2.1, .object "DoubledRows$Row") rfl).2; exact g4
  obtain rfl : Y.2.2.1 = cA := Option.some.inj (e2.symm.trans e1)
  have hW : Wd Dd A s.heap [(b, .inr (0, f0)), (qa, .inl (Y.2.2.1, 8, .inr (.inr (.inr (.inr (fun _ => none))))))] H1 [] := ⟨h1, h2, h3⟩
  refine pf_ (ty := .array (.object "DoubledRows$Row")) X hi hinX0 tyX0 tyX0_ok nmX0 hW 0 rfl rfl 0 (by decide) 5 rfl rfl rfl rfl (by decide +kernel) rfl rfl (Nat.le_of_ble_eq_true rfl) dX0_init_10 (ws' := [(b, .inr (0, [.ref qa, .int 0, .int 0])), (qa, .inl (Y.2.2.1, 8, .inr (.inr (.inr (.inr (fA (fun _ _ => 0) 0))))))] ++ WRs Y (fun _ _ => 0) (fun _ => G0) (List.range 0)) (by rw [show (fun _ : Nat => (none : Option Nat)) = fA (fun _ _ => 0) 0 from by funext k; simp [fA]]; rfl) (fun H locs hW => ?_)
  refine lv_iconst (v := 0) hx hb dX0_init_13 (by decide) ?_
  refine lv_istore_n (lv' := [(1, .int (nI 0)), (0, .ref b)]) hx hb dX0_init_14 rfl hl (by decide) rfl (fun ls hl => ?_)
  have K : ∀ (n i : Nat) (ar : Nat → Nat → Nat), i ≤ 8 → 8 - i < n → ∀ (H : Heap) (locs : List Loc) (ls : Array Slot), Wd Dd A s.heap ([(b, .inr (0, [.ref qa, .int 0, .int 0])), (qa, .inl (Y.2.2.1, 8, .inr (.inr (.inr (.inr (fA ar i))))))] ++ WRs Y ar (fun _ => G0) (List.range i)) H locs → lv_has ls 2 [(1, .int (nI i)), (0, .ref b)] → W p l e rmX0_init s m args below meth c H locs (1 + 6 * i) (8 + 310 * i) Q (F0 m 15 ls []) := by
    intro n
    induction n with
    | zero => intro i ar h1 h2; omega
    | succ n ih =>
      intro i ar hi8 hin H locs ls hW hl
      refine lv_iload_n hx hb dX0_init_15 rfl (lv_at hl 0 rfl) ?_
      refine lv_aload_n hx hb dX0_init_16 rfl (lv_at hl 1 rfl) ?_
      refine g_ X hinX0 hW 0 rfl rfl 0 (by decide) 5 rfl rfl rfl dX0_init_17 ?_
      refine len_ (v := nI 8) X hW 1 2 rfl rfl rfl dX0_init_20 ?_
      refine lv_icmp_ge (tgt := 43) hx hb dX0_init_21 (by decide) (fun hc => ?_) (fun hc => ?_)
      · have hi9 : i = 8 := by
          rcases Nat.lt_or_ge i 8 with h | h
          · exact absurd hc (nI_ge h (by decide))
          · omega
        subst hi9
        refine hV _ _ _ _ _ _ (qa, ar) (by decide) (by decide) ⟨fun k q hk => ?_, ?_, hW.2.2⟩ dX0_init_43
        · match k, hk with
          | 0, hk => exact hW.1 0 q hk
          | 1, hk => cases hk; exact (hW.1 1 _ rfl).trans (congrArg some (vp_refs (fun j hj => by simp [fA, hj])))
          | k + 2, hk => exact hW.1 (k + 2) q hk
        · obtain ⟨d1, d2⟩ := bk_D.mp hW.2.1
          refine bk_D.mpr ⟨d1, fun q hq => ?_⟩
          rcases List.mem_cons.mp hq with rfl | hq
          · exact d2 _ List.mem_cons_self
          · rcases List.mem_cons.mp hq with rfl | hq
            · exact d2 (qa, .inl (Y.2.2.1, 8, .inr (.inr (.inr (.inr (fA ar 8)))))) (List.mem_cons_of_mem _ List.mem_cons_self)
            · exact d2 q (List.mem_cons_of_mem _ (List.mem_cons_of_mem _ hq))
      · have hlt : i < 8 := by
          rcases Nat.lt_or_ge i 8 with h | h
          · exact h
          · exact absurd (nI_le h (by omega)) hc
        refine lv_aload_n hx hb dX0_init_24 rfl (lv_at hl 1 rfl) ?_
        refine g_ X hinX0 hW 0 rfl rfl 0 (by decide) 5 rfl rfl rfl dX0_init_25 ?_
        refine lv_iload_n hx hb dX0_init_28 rfl (lv_at hl 0 rfl) ?_
        refine nw_ (ci := 1) X hinX1 tyX1 tyX1_ok 4 6 7 rfl rfl rfl hW rfl f1 (fun j hj => by rcases (show j = 0 ∨ j = 1 ∨ j = 2 ∨ j = 3 ∨ j = 4 ∨ j = 5 ∨ j = 6 ∨ j = 7 ∨ j = 8 ∨ j = 9 ∨ j = 10 by omega) with rfl | rfl | rfl | rfl | rfl | rfl | rfl | rfl | rfl | rfl | rfl <;> rfl) (by show 1 + 6 * i + 1 ≤ 49; omega) (by show 8 + 310 * i + 11 ≤ 2488; omega) dX0_init_29 (fun q3 H hW => ?_)
        refine lv_dup hx hb dX0_init_32 rfl ?_
        refine cI_ X (kX1_init l Dd Y q3) (cwI 0 X.1.2.2.2.2 gX0_init_X1_init rfl rfl rfl (X.w (i := 7) rfl) (X.w (i := 8) rfl) (X.w (i := 9) rfl) rfl (by decide +kernel) ⟨(Nat.le_of_ble_eq_true rfl), (Nat.le_of_ble_eq_true rfl)⟩) hW hl.1 (Nat.le_of_ble_eq_true rfl) dX0_init_33 ⟨by show 1 + 6 * i + 1 + 5 ≤ 49; omega, by show 8 + 310 * i + 11 + 299 ≤ 2488; omega⟩ (fun u H locs hW => ?_)
        have hPw : Wd Dd A s.heap (([(b, .inr (0, [.ref qa, .int 0, .int 0])), (qa, .inl (Y.2.2.1, 8, .inr (.inr (.inr (.inr (fA ar i))))))] : va_W) ++ (WR Y (adj q3 u) G0 ++ WRs Y ar (fun _ => G0) (List.range i))) H locs := hW.perm (pm _ _ (fun x => by simp only [List.count_append]; omega))
        refine va_astq hx hb X.2.1 hPw.1 hPw.2.1 hPw.2.2 1 2 2 1 rfl rfl rfl rfl (vp_in_nI hlt (by decide)) dX0_init_36 (fun H1 locs1 h1 h2 h3 => ?_)
        rw [nI_clamp (by omega)] at h1 h2
        refine lv_iinc (v := nI (i + 1)) (lv' := [(1, .int (nI (i + 1))), (0, .ref b)]) hx hb dX0_init_37 hl (k := 0) rfl (nI_1 i) (by decide) rfl (fun ls hl => ?_)
        refine lv_goto (tgt := 15) hx hb dX0_init_40 (by decide) ?_
        have e3 : va_up (fA ar i) i (some q3) = fA (fun k => if k = i then adj q3 u else ar k) (i + 1) := by
          funext k
          simp only [va_up, fA]
          by_cases hk : k = i
          · subst hk; simp [adj]
          · by_cases hk2 : k < i
            · simp [hk, hk2, show k < i + 1 by omega]
            · simp [hk, hk2, show ¬ k < i + 1 by omega]
        have e4 : WRs Y (fun k => if k = i then adj q3 u else ar k) (fun _ => G0) (List.range i) = WRs Y ar (fun _ => G0) (List.range i) := WRs_ar _ _ _ _ _ (fun k hk => by simp [Nat.ne_of_lt (List.mem_range.mp hk)])
        have hWn : Wd Dd A s.heap ([(b, .inr (0, [.ref qa, .int 0, .int 0])), (qa, .inl (Y.2.2.1, 8, .inr (.inr (.inr (.inr (fA (fun k => if k = i then adj q3 u else ar k) (i + 1)))))))] ++ WRs Y (fun k => if k = i then adj q3 u else ar k) (fun _ => G0) (List.range (i + 1))) H1 locs1 := by
          rw [← e3]
          refine Wd.perm (pm _ _ (fun x => ?_)) ⟨h1, h2, h3⟩
          rw [List.range_succ, show WRs Y (fun k => if k = i then adj q3 u else ar k) (fun _ => G0) (List.range i ++ [i]) = WRs Y ar (fun _ => G0) (List.range i) ++ WR Y (adj q3 u) G0 from by rw [← e4]; simp [WRs]]
          show List.count x ([(b, .inr (0, [.ref qa, .int 0, .int 0])), (qa, .inl (Y.2.2.1, 8, .inr (.inr (.inr (.inr (va_up (fA ar i) i (some q3)))))))] ++ (WR Y (adj q3 u) G0 ++ WRs Y ar (fun _ => G0) (List.range i))) = _
          simp only [List.count_append]; omega
        exact ih (i + 1) _ (by omega) (by omega) H1 locs1 ls hWn hl
  exact K 9 0 _ (by omega) (by omega) _ _ _ hW hl
def adX (b : Nat) (r h d dr : Nat → Nat) (ar : Nat → Nat → Nat) : Nat → Nat → Nat
  | 0 => fun _ => b
  | 1 => r
  | 2 => h
  | 3 => d
  | 4 => dr
  | k + 5 => ar k
theorem adX5 (b : Nat) (r h d dr : Nat → Nat) (ar : Nat → Nat → Nat) : (fun k => adX b r h d dr ar (5 + k)) = ar := by
  funext k; rw [Nat.add_comm]; rfl
abbrev f4 : List Value := [.null, .null, .null, .int 0]
def x0F : gF := fun a k => if a = 0 ∧ k = 3 then -1 else 0
def X0g (G : gR) : gX := (x0F, G, (fun _ _ => 0, G0), (fun _ _ => 0, fun _ => G0))
abbrev rmX4_init : Room := { frames := 4, cells := 64, slots := 3622, locals := 91 }
set_option maxRecDepth 100000 in
set_option maxHeartbeats 4000000 in
theorem kX4_init (l : Launch) (Dd : va_G) (Y : yT) (b : Nat) (G1 G2 G3 : gR) (h1 : dnX1_start G0 0 2 = some G1) (h2 : dnX1_addAtEnd G1 0 = some G2) (h3 : dnX1_buildAll G2 = some G3) : MC l yX4_init wsX4_init rmX4_init Dd Y [.ref b] [(b, .inr (4, f4))] (fun ad : {ad : Nat → Nat → Nat // ad 0 0 = b} => WX Y ad.1 (X0g G3)) 64 3622 := by
  refine MCk (cc := cX4_init) (maxL := 1) rfl (by decide) rfl (Nat.le_of_ble_eq_true rfl) (fun {p e s m args below meth c A} ls Q X hi hW hl hV => ?_)
  have hx := X.x
  have hb := X.b
  have hl : lv_has ls 1 [(0, .ref b)] := hl
  have hinX4 : ∀ w ∈ wsX40, w ∈ wsX4_init := fun w h => List.mem_cons_of_mem _ (List.mem_append_left _ (List.mem_append_left _ (List.mem_append_left _ (List.mem_append_right _ h))))
  have hinX1 : ∀ w ∈ wsX10, w ∈ wsX4_init := fun w h => List.mem_cons_of_mem _ (List.mem_append_left _ (List.mem_append_left _ (List.mem_append_left _ (List.mem_append_left _ (List.mem_append_right _ h)))))
  have hinX0 : ∀ w ∈ wsX00, w ∈ wsX4_init := fun w h => List.mem_cons_of_mem _ (List.mem_append_left _ (List.mem_append_left _ (List.mem_append_right _ h)))
  have hinX2 : ∀ w ∈ wsX20, w ∈ wsX4_init := fun w h => List.mem_cons_of_mem _ (List.mem_append_left _ (List.mem_append_right _ h))
  refine lv_aload_n hx hb dX4_init_0 rfl (lv_at hl 0 rfl) ?_
  refine W.objInit hx hb X.1.2.2.2.1 (X.w (i := 1) rfl) (X.w (i := 2) rfl) (X.w (i := 3) rfl) rfl (by rw [X.1.2.2.1]; exact hl.1) rfl dX4_init_1 (Nat.le_of_ble_eq_true rfl) (Nat.le_of_ble_eq_true rfl) ?_
  refine W.eq (g2 := F0 m 4 ls []) rfl ?_
  refine lv_aload_n hx hb dX4_init_4 rfl (lv_at hl 0 rfl) ?_
  refine nw_ (ci := 1) X hinX1 tyX1 tyX1_ok 4 5 6 rfl rfl rfl hW rfl f1 (fun j hj => by rcases (show j = 0 ∨ j = 1 ∨ j = 2 ∨ j = 3 ∨ j = 4 ∨ j = 5 ∨ j = 6 ∨ j = 7 ∨ j = 8 ∨ j = 9 ∨ j = 10 by omega) with rfl | rfl | rfl | rfl | rfl | rfl | rfl | rfl | rfl | rfl | rfl <;> rfl) (Nat.le_of_ble_eq_true rfl) (Nat.le_of_ble_eq_true rfl) dX4_init_5 (fun q1 H hW => ?_)
  refine lv_dup hx hb dX4_init_8 rfl ?_
  refine cI_ (pre := [(b, .inr (4, [.null, .null, .null, .int 0]))]) X (kX1_init l Dd Y q1) (cwI 0 X.1.2.2.2.2 gX4_init_X1_init rfl rfl rfl (X.w (i := 6) rfl) (X.w (i := 17) rfl) (X.w (i := 18) rfl) rfl (by decide +kernel) ⟨(Nat.le_of_ble_eq_true rfl), (Nat.le_of_ble_eq_true rfl)⟩) hW hl.1 (Nat.le_of_ble_eq_true rfl) dX4_init_9 ⟨(Nat.le_of_ble_eq_true rfl), (Nat.le_of_ble_eq_true rfl)⟩ (fun u1 H locs hW => ?_)
  refine pf_ (ty := (.object "DoubledRows$Row")) X hi hinX4 tyX4 tyX4_ok nmX4 hW 0 rfl rfl 0 (by decide) 7 rfl rfl rfl rfl (by decide +kernel) rfl rfl (Nat.le_of_ble_eq_true rfl) dX4_init_12 (ws' := [(b, .inr (4, [.ref q1, .null, .null, .int 0]))] ++ WR Y (adj q1 u1) G0) rfl (fun H locs hW => ?_)
  refine lv_aload_n hx hb dX4_init_15 rfl (lv_at hl 0 rfl) ?_
  refine nw_ (ci := 0) X hinX0 tyX0 tyX0_ok 8 9 10 rfl rfl rfl hW rfl f0 (fun j hj => by rcases (show j = 0 ∨ j = 1 ∨ j = 2 by omega) with rfl | rfl | rfl <;> rfl) (Nat.le_of_ble_eq_true rfl) (Nat.le_of_ble_eq_true rfl) dX4_init_16 (fun q2 H hW => ?_)
  refine lv_dup hx hb dX4_init_19 rfl ?_
  refine cI_ (pre := [(b, .inr (4, [.ref q1, .null, .null, .int 0]))] ++ WR Y (adj q1 u1) G0) X (kX0_init l Dd Y q2) (cwI 0 X.1.2.2.2.2 gX4_init_X0_init rfl rfl rfl (X.w (i := 10) rfl) (X.w (i := 34) rfl) (X.w (i := 35) rfl) rfl (by decide +kernel) ⟨(Nat.le_of_ble_eq_true rfl), (Nat.le_of_ble_eq_true rfl)⟩) hW hl.1 (Nat.le_of_ble_eq_true rfl) dX4_init_20 ⟨(Nat.le_of_ble_eq_true rfl), (Nat.le_of_ble_eq_true rfl)⟩ (fun u2 H locs hW => ?_)
  refine pf_ (ty := (.object "DoubledRows$History")) X hi hinX4 tyX4 tyX4_ok nmX4 hW 0 rfl rfl 1 (by decide) 11 rfl rfl rfl rfl (by decide +kernel) rfl rfl (Nat.le_of_ble_eq_true rfl) dX4_init_23 (ws' := ([(b, .inr (4, [.ref q1, .ref q2, .null, .int 0]))] ++ WR Y (adj q1 u1) G0) ++ WH Y (adj q2 (fun _ => u2.1)) u2.2 (fun _ _ => 0, fun _ => G0)) rfl (fun H locs hW => ?_)
  refine lv_aload_n hx hb dX4_init_26 rfl (lv_at hl 0 rfl) ?_
  refine nw_ (ci := 2) X hinX2 tyX2 tyX2_ok 12 13 14 rfl rfl rfl hW rfl f2 (fun j hj => by rcases (show j = 0 ∨ j = 1 ∨ j = 2 ∨ j = 3 ∨ j = 4 ∨ j = 5 ∨ j = 6 ∨ j = 7 ∨ j = 8 ∨ j = 9 ∨ j = 10 by omega) with rfl | rfl | rfl | rfl | rfl | rfl | rfl | rfl | rfl | rfl | rfl <;> rfl) (Nat.le_of_ble_eq_true rfl) (Nat.le_of_ble_eq_true rfl) dX4_init_27 (fun q3 H hW => ?_)
  refine lv_dup hx hb dX4_init_30 rfl ?_
  refine cI_ (pre := ([(b, .inr (4, [.ref q1, .ref q2, .null, .int 0]))] ++ WR Y (adj q1 u1) G0) ++ WH Y (adj q2 (fun _ => u2.1)) u2.2 (fun _ _ => 0, fun _ => G0)) X (kX2_init l Dd Y q3) (cwI 0 X.1.2.2.2.2 gX4_init_X2_init rfl rfl rfl (X.w (i := 14) rfl) (X.w (i := 41) rfl) (X.w (i := 42) rfl) rfl (by decide +kernel) ⟨(Nat.le_of_ble_eq_true rfl), (Nat.le_of_ble_eq_true rfl)⟩) hW hl.1 (Nat.le_of_ble_eq_true rfl) dX4_init_31 ⟨(Nat.le_of_ble_eq_true rfl), (Nat.le_of_ble_eq_true rfl)⟩ (fun u3 H locs hW => ?_)
  refine pf_ (ty := (.object "DoubledRows$SetupReader")) X hi hinX4 tyX4 tyX4_ok nmX4 hW 0 rfl rfl 2 (by decide) 15 rfl rfl rfl rfl (by decide +kernel) rfl rfl (Nat.le_of_ble_eq_true rfl) dX4_init_34 (ws' := (([(b, .inr (4, [.ref q1, .ref q2, .ref q3, .int 0]))] ++ WR Y (adj q1 u1) G0) ++ WH Y (adj q2 (fun _ => u2.1)) u2.2 (fun _ _ => 0, fun _ => G0)) ++ WD Y (adj q3 (fun _ => u3.1)) u3.2 (fun _ _ => 0, G0)) rfl (fun H locs hW => ?_)
  refine lv_aload_n hx hb dX4_init_37 rfl (lv_at hl 0 rfl) ?_
  refine lv_iconst (v := (-1)) hx hb dX4_init_38 (by decide) ?_
  refine p_ (ty := .int) X hinX4 tyX4 tyX4_ok nmX4 hW 0 rfl rfl 3 (by decide) 16 rfl rfl rfl (by decide +kernel) rfl rfl (Nat.le_of_ble_eq_true rfl) dX4_init_39 (ws' := (([(b, .inr (4, [.ref q1, .ref q2, .ref q3, .int (-1)]))] ++ WR Y (adj q1 u1) G0) ++ WH Y (adj q2 (fun _ => u2.1)) u2.2 (fun _ _ => 0, fun _ => G0)) ++ WD Y (adj q3 (fun _ => u3.1)) u3.2 (fun _ _ => 0, G0)) rfl (fun H locs hW => ?_)
  have had0 : (adX b (adj q1 u1) (adj q2 (fun _ => u2.1)) (adj q3 (fun _ => u3.1)) u3.2 u2.2) 0 0 = b := rfl
  have hWX : Wd Dd A s.heap (WX Y (adX b (adj q1 u1) (adj q2 (fun _ => u2.1)) (adj q3 (fun _ => u3.1)) u3.2 u2.2) (X0g G0)) H locs := by
    refine hW.perm (pm _ _ (fun x => ?_))
    have e : WX Y (adX b (adj q1 u1) (adj q2 (fun _ => u2.1)) (adj q3 (fun _ => u3.1)) u3.2 u2.2) (X0g G0) = [(b, .inr (4, [.ref q1, .ref q2, .ref q3, .int (-1)]))] ++ (WR Y (adj q1 u1) G0 ++ (WD Y (adj q3 (fun _ => u3.1)) u3.2 (fun _ _ => 0, G0) ++ WH Y (adj q2 (fun _ => u2.1)) (fun k => adX b (adj q1 u1) (adj q2 (fun _ => u2.1)) (adj q3 (fun _ => u3.1)) u3.2 u2.2 (5 + k)) (fun _ _ => 0, fun _ => G0))) := rfl
    rw [e, adX5]
    simp only [List.count_append]; omega
  clear hW
  generalize adX b (adj q1 u1) (adj q2 (fun _ => u2.1)) (adj q3 (fun _ => u3.1)) u3.2 u2.2 = ad at hWX had0
  subst had0
  have hW := hWX
  refine lv_aload_n hx hb dX4_init_42 rfl (lv_at hl 0 rfl) ?_
  refine g_ X hinX4 hW 0 rfl rfl 0 (by decide) 7 rfl rfl rfl dX4_init_43 ?_
  refine lv_iconst (v := 0) hx hb dX4_init_46 (by decide) ?_
  refine lv_iconst (v := 2) hx hb dX4_init_47 (by decide) ?_
  refine cVmv_ (wc := (WR Y (ad 1) G0)) (w1 := (WR Y (ad 1) G1)) (ws' := (WX Y ad (X0g G1))) (rest := []) X (kX1_start l Dd Y (ad 1) G0 0 2 G1 h1) (cwV 2 X.1.2.2.2.2 gX4_init_X1_start rfl rfl rfl (by decide +kernel) ⟨(Nat.le_of_ble_eq_true rfl), (Nat.le_of_ble_eq_true rfl)⟩) hW (px_r Y ad (X0g G0)) (px_r Y ad (X0g G1)).symm 0 1 rfl rfl rfl rfl hl.1 rfl (Nat.le_of_ble_eq_true rfl) dX4_init_48 ⟨(Nat.le_of_ble_eq_true rfl), (Nat.le_of_ble_eq_true rfl)⟩ (fun H locs hW => ?_)
  refine lv_aload_n hx hb dX4_init_51 rfl (lv_at hl 0 rfl) ?_
  refine g_ X hinX4 hW 0 rfl rfl 0 (by decide) 7 rfl rfl rfl dX4_init_52 ?_
  refine lv_iconst (v := 0) hx hb dX4_init_55 (by decide) ?_
  refine cVmv_ (wc := (WR Y (ad 1) G1)) (w1 := (WR Y (ad 1) G2)) (ws' := (WX Y ad (X0g G2))) (rest := []) X (kX1_addAtEnd l Dd Y (ad 1) G1 0 G2 h2) (cwV 1 X.1.2.2.2.2 gX4_init_X1_addAtEnd rfl rfl rfl (by decide +kernel) ⟨(Nat.le_of_ble_eq_true rfl), (Nat.le_of_ble_eq_true rfl)⟩) hW (px_r Y ad (X0g G1)) (px_r Y ad (X0g G2)).symm 0 1 rfl rfl rfl rfl hl.1 rfl (Nat.le_of_ble_eq_true rfl) dX4_init_56 ⟨(Nat.le_of_ble_eq_true rfl), (Nat.le_of_ble_eq_true rfl)⟩ (fun H locs hW => ?_)
  refine lv_aload_n hx hb dX4_init_59 rfl (lv_at hl 0 rfl) ?_
  refine g_ X hinX4 hW 0 rfl rfl 0 (by decide) 7 rfl rfl rfl dX4_init_60 ?_
  refine cVmv_ (wc := (WR Y (ad 1) G2)) (w1 := (WR Y (ad 1) G3)) (ws' := (WX Y ad (X0g G3))) (rest := []) X (kX1_buildAll l Dd Y (ad 1) G2 G3 h3) (cwV 0 X.1.2.2.2.2 gX4_init_X1_buildAll rfl rfl rfl (by decide +kernel) ⟨(Nat.le_of_ble_eq_true rfl), (Nat.le_of_ble_eq_true rfl)⟩) hW (px_r Y ad (X0g G2)) (px_r Y ad (X0g G3)).symm 0 1 rfl rfl rfl rfl hl.1 rfl (Nat.le_of_ble_eq_true rfl) dX4_init_63 ⟨(Nat.le_of_ble_eq_true rfl), (Nat.le_of_ble_eq_true rfl)⟩ (fun H locs hW => ?_)
  exact hV _ _ _ _ _ _ ⟨ad, rfl⟩ (Nat.le_of_ble_eq_true rfl) (Nat.le_of_ble_eq_true rfl) hW dX4_init_66
