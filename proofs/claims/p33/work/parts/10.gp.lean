/-! fields over a link of a nest mate, fields that a class inherits; bytes; references in arrays -/
section GP
variable {p : Program} {l : Launch} {e : Env} {R : Room} {s : State} {m : MethodId} {args : Array Value} {below : List Frame} {meth : Method} {c : Code} {H : Heap} {locs : List Loc} {cells slots : Nat} {Q : State → Prop}
variable {cc : ByteArray} {nL pc : Nat} {Ts : List Cond} {own : String} {Dd : va_G} {Y : yT} {A : Nat → Prop} {ls : Array Slot} {rest st : List Value} {ws : va_W} {a : Nat}
theorem pf_ (X : cx p s m args c cc nL Ts own Dd Y A) (hin2 : meth.name = "<init>") {C ref : String} {T : u_T} {N ci index : Nat} (hin : ∀ w ∈ u_ws C T N, w ∈ Ts) (ty0 : Nat → FieldType) (hty : ∀ k, k < N → parseFieldDescriptor (T k).2.2.1 = some (ty0 k)) (hnm : ∀ a, a < N → ∀ b, b < N → a ≠ b → (T a).2.1 ≠ (T b).2.1) (hW : Wd Dd A s.heap ws H locs) (q0 : Nat) {fs : List Value} (he : ws[q0]? = some (a, .inr (ci, fs))) (hc : vwCl[ci]? = some (C, T, N)) (k : Nat) (hk : k < N) (i : Nat) (hlink : Ts[i]? = some (Cond.fieldLink own index ref (T k).2.1 (T k).2.2.1)) (href : (T k).1 = ref) (hfin : (T k).2.2.2 = true) (hdecl : (T k).1 = own) {ty : FieldType} {v : Value} (hd : parseFieldDescriptor (T k).2.2.1 = some ty) (hn : narrow ty v = v) (hfit : fits ty v = true) (hl : k < fs.length)
    (hdg : decode cc pc = .ok (.putfield index, 3)) {ws' : va_W} (hset : ws.set q0 (a, .inr (ci, fs.set k v)) = ws') (kk : ∀ (H : Heap) (locs : List Loc), Wd Dd A s.heap ws' H locs → W p l e R s m args below meth c H locs cells slots Q (F0 m (pc + 3) ls rest)) : W p l e R s m args below meth c H locs cells slots Q (F0 m pc ls (v :: .ref a :: rest)) := by
  subst hset
  exact va_putF X.x X.b X.1.2.2.2.2 hin ty0 hty hnm X.1.2.2.2.1 X.2.1 hW.1 hW.2.1 hW.2.2 q0 he hc k hk (X.w hlink) (fun x h => by rw [← href]; exact h) hfin hin2 hdecl hd hn hfit hl hdg (fun H1 locs1 h1 h2 h3 => kk H1 locs1 ⟨h1, h2, h3⟩)
theorem gN_ (X : cx p s m args c cc nL Ts own Dd Y A) {C ref host : String} {T : u_T} {N ci index : Nat} (hin : ∀ w ∈ u_ws C T N, w ∈ Ts) (hW : Wd Dd A s.heap ws H locs) (q0 : Nat) {fs : List Value} (he : ws[q0]? = some (a, .inr (ci, fs))) (hc : vwCl[ci]? = some (C, T, N)) (k : Nat) (hk : k < N) (j : Nat) (hj : fWs[j]? = some (own, index, ref, (T k).2.1, (T k).2.2.1, host)) (href : (T k).1 = ref) {v : Value} (hv : fs[k]? = some v) (hdg : decode cc pc = .ok (.getfield index, 3))
    (kk : W p l e R s m args below meth c H locs cells slots Q (F0 m (pc + 3) ls (v :: rest))) : W p l e R s m args below meth c H locs cells slots Q (F0 m pc ls (.ref a :: rest)) :=
  va_getN (host := host) X.x X.b X.1.2.2.2.2 hin X.1.2.2.2.1 X.2.1 hW.1 q0 he hc k hk (va_Nw.use rfl (X.2.2.2.1.2.2.2.2.2.1.2.1 _ (List.mem_of_getElem? hj))) (fun x h => by rw [← href]; exact h) hv hdg kk
theorem pN_ (X : cx p s m args c cc nL Ts own Dd Y A) {C ref host : String} {T : u_T} {N ci index : Nat} (hin : ∀ w ∈ u_ws C T N, w ∈ Ts) (ty0 : Nat → FieldType) (hty : ∀ k, k < N → parseFieldDescriptor (T k).2.2.1 = some (ty0 k)) (hnm : ∀ a, a < N → ∀ b, b < N → a ≠ b → (T a).2.1 ≠ (T b).2.1) (hW : Wd Dd A s.heap ws H locs) (q0 : Nat) {fs : List Value} (he : ws[q0]? = some (a, .inr (ci, fs))) (hc : vwCl[ci]? = some (C, T, N)) (k : Nat) (hk : k < N) (j : Nat) (hj : fWs[j]? = some (own, index, ref, (T k).2.1, (T k).2.2.1, host)) (href : (T k).1 = ref) (hfin : (T k).2.2.2 = false) {ty : FieldType} {v : Value} (hd : parseFieldDescriptor (T k).2.2.1 = some ty) (hn : narrow ty v = v) (hfit : fits ty v = true) (hl : k < fs.length)
    (hdg : decode cc pc = .ok (.putfield index, 3)) {ws' : va_W} (hset : ws.set q0 (a, .inr (ci, fs.set k v)) = ws') (kk : ∀ (H : Heap) (locs : List Loc), Wd Dd A s.heap ws' H locs → W p l e R s m args below meth c H locs cells slots Q (F0 m (pc + 3) ls rest)) : W p l e R s m args below meth c H locs cells slots Q (F0 m pc ls (v :: .ref a :: rest)) := by
  subst hset
  exact va_putN (host := host) X.x X.b X.1.2.2.2.2 hin ty0 hty hnm X.1.2.2.2.1 X.2.1 hW.1 hW.2.1 hW.2.2 q0 he hc k hk (va_Nw.use rfl (X.2.2.2.1.2.2.2.2.2.1.2.1 _ (List.mem_of_getElem? hj))) (fun x h => by rw [← href]; exact h) hfin hd hn hfit hl hdg (fun H1 locs1 h1 h2 h3 => kk H1 locs1 ⟨h1, h2, h3⟩)
theorem gS_ (X : cx p s m args c cc nL Ts own Dd Y A) {C ref : String} {T : u_T} {N ci index : Nat} (hin : ∀ w ∈ u_ws C T N, w ∈ Ts) (hW : Wd Dd A s.heap ws H locs) (q0 : Nat) {fs : List Value} (he : ws[q0]? = some (a, .inr (ci, fs))) (hc : vwCl[ci]? = some (C, T, N)) (k : Nat) (hk : k < N) (i iS : Nat) (hlink : Ts[i]? = some (Cond.fieldLink own index ref (T k).2.1 (T k).2.2.1)) (hsm : Ts[iS]? = some (.sameField ref (T k).1 (T k).2.1 (T k).2.2.1)) {v : Value} (hv : fs[k]? = some v) (hdg : decode cc pc = .ok (.getfield index, 3))
    (kk : W p l e R s m args below meth c H locs cells slots Q (F0 m (pc + 3) ls (v :: rest))) : W p l e R s m args below meth c H locs cells slots Q (F0 m pc ls (.ref a :: rest)) :=
  va_get X.x X.b X.1.2.2.2.2 hin X.1.2.2.2.1 X.2.1 hW.1 q0 he hc k hk (X.w hlink) (u_same (X.w hsm)) hv hdg kk
theorem pS_ (X : cx p s m args c cc nL Ts own Dd Y A) {C ref : String} {T : u_T} {N ci index : Nat} (hin : ∀ w ∈ u_ws C T N, w ∈ Ts) (ty0 : Nat → FieldType) (hty : ∀ k, k < N → parseFieldDescriptor (T k).2.2.1 = some (ty0 k)) (hnm : ∀ a, a < N → ∀ b, b < N → a ≠ b → (T a).2.1 ≠ (T b).2.1) (hW : Wd Dd A s.heap ws H locs) (q0 : Nat) {fs : List Value} (he : ws[q0]? = some (a, .inr (ci, fs))) (hc : vwCl[ci]? = some (C, T, N)) (k : Nat) (hk : k < N) (i iS : Nat) (hlink : Ts[i]? = some (Cond.fieldLink own index ref (T k).2.1 (T k).2.2.1)) (hsm : Ts[iS]? = some (.sameField ref (T k).1 (T k).2.1 (T k).2.2.1)) (hfin : (T k).2.2.2 = false) {ty : FieldType} {v : Value} (hd : parseFieldDescriptor (T k).2.2.1 = some ty) (hn : narrow ty v = v) (hfit : fits ty v = true) (hl : k < fs.length)
    (hdg : decode cc pc = .ok (.putfield index, 3)) {ws' : va_W} (hset : ws.set q0 (a, .inr (ci, fs.set k v)) = ws') (kk : ∀ (H : Heap) (locs : List Loc), Wd Dd A s.heap ws' H locs → W p l e R s m args below meth c H locs cells slots Q (F0 m (pc + 3) ls rest)) : W p l e R s m args below meth c H locs cells slots Q (F0 m pc ls (v :: .ref a :: rest)) := by
  subst hset
  exact va_put X.x X.b X.1.2.2.2.2 hin ty0 hty hnm X.1.2.2.2.1 X.2.1 hW.1 hW.2.1 hW.2.2 q0 he hc k hk (X.w hlink) (u_same (X.w hsm)) hfin hd hn hfit hl hdg (fun H1 locs1 h1 h2 h3 => kk H1 locs1 ⟨h1, h2, h3⟩)
theorem nw_ (X : cx p s m args c cc nL Ts own Dd Y A) {C : String} {T : u_T} {N ci index : Nat} (hin : ∀ w ∈ u_ws C T N, w ∈ Ts) (ty : Nat → FieldType) (hty : ∀ k, k < N → parseFieldDescriptor (T k).2.2.1 = some (ty k)) (i1 i2 i3 : Nat) (h1 : Ts[i1]? = some (.classLink own index C)) (h2 : Ts[i2]? = some (.instantiable C N)) (h3 : Ts[i3]? = some (.initialized C)) (hW : Wd Dd A s.heap ws H locs) (hc : vwCl[ci]? = some (C, T, N)) (fs : List Value) (hfs : ∀ j, j < N → defaultValue (ty j) = vp_V fs j) (hcells : cells + 1 ≤ R.cells) (hslots : slots + N ≤ R.slots) (hdg : decode cc pc = .ok (.new index, 3))
    (kk : ∀ (q : Nat) (H : Heap), Wd Dd A s.heap (ws ++ [(q, .inr (ci, fs))]) H locs → W p l e R s m args below meth c H locs (cells + 1) (slots + N) Q (F0 m (pc + 3) ls (.ref q :: rest))) : W p l e R s m args below meth c H locs cells slots Q (F0 m pc ls rest) :=
  va_new X.x X.b X.1.2.2.2.2 hin ty hty X.1.2.2.2.1 (X.w h1) (X.w h2) (X.w h3) X.2.1 hW.1 hW.2.1 hW.2.2 X.2.2.1 hc hfs hcells hslots hdg (fun q H1 h1 h2 h3 => kk q H1 ⟨h1, h2, h3⟩)
theorem ni_ (X : cx p s m args c cc nL Ts own Dd Y A) (iw : Nat) (hw : Ts[iw]? = some (.arrayClass .int)) (hW : Wd Dd A s.heap ws H locs) {n : Int32} {N' : Nat} (hn : ¬ n < 0) (hN : n.toNatClampNeg = N') (hbytes : N' * 4 ≤ 536870912) (hcells : cells + 1 ≤ R.cells) (hslots : slots + N' ≤ R.slots) (hdg : decode cc pc = .ok (.newarray .int, 2))
    (kk : ∀ (q : Nat) (H : Heap), Wd Dd A s.heap (ws ++ [(q, .inl (Y.1, N', .inl (fun _ => 0)))]) H locs → W p l e R s m args below meth c H locs (cells + 1) (slots + N') Q (F0 m (pc + 2) ls (.ref q :: rest))) : W p l e R s m args below meth c H locs cells slots Q (F0 m pc ls (.int n :: rest)) := by
  refine va_newa (atype := .int) (ty := .int) (a0 := (N', .inl (fun _ => 0))) X.x X.b (X.w hw) rfl X.2.1 hW.1 hW.2.1 hW.2.2 X.2.2.1 (fun cA => rfl) hn hN hbytes hcells hslots hdg (fun q cA H1 hK2 h1 h2 h3 => ?_)
  have e1 : s.vm.findClass ("[" ++ FieldType.int.toString) = some cA := (hK2.2 6 (cA, .int) rfl).2
  have e2 : s.vm.findClass ("[" ++ FieldType.int.toString) = some Y.1 := (X.2.1.2 0 (Y.1, .int) rfl).2
  obtain rfl : Y.1 = cA := Option.some.inj (e2.symm.trans e1)
  exact kk q H1 ⟨h1, h2, h3⟩
theorem nb_ (X : cx p s m args c cc nL Ts own Dd Y A) (iw : Nat) (hw : Ts[iw]? = some (.arrayClass .byte)) (hW : Wd Dd A s.heap ws H locs) {n : Int32} {N' : Nat} (hn : ¬ n < 0) (hN : n.toNatClampNeg = N') (hbytes : N' * 1 ≤ 536870912) (hcells : cells + 1 ≤ R.cells) (hslots : slots + N' ≤ R.slots) (hdg : decode cc pc = .ok (.newarray .byte, 2))
    (kk : ∀ (q : Nat) (H : Heap), Wd Dd A s.heap (ws ++ [(q, .inl (Y.2.1 0, N', .inl (fun _ => 0)))]) H locs → W p l e R s m args below meth c H locs (cells + 1) (slots + N') Q (F0 m (pc + 2) ls (.ref q :: rest))) : W p l e R s m args below meth c H locs cells slots Q (F0 m pc ls (.int n :: rest)) := by
  refine va_newa (atype := .byte) (ty := .byte) (a0 := (N', .inl (fun _ => 0))) X.x X.b (X.w hw) rfl X.2.1 hW.1 hW.2.1 hW.2.2 X.2.2.1 (fun cA => rfl) hn hN hbytes hcells hslots hdg (fun q cA H1 hK2 h1 h2 h3 => ?_)
  have e1 : s.vm.findClass ("[" ++ FieldType.byte.toString) = some cA := (hK2.2 6 (cA, .byte) rfl).2
  have e2 : s.vm.findClass ("[" ++ FieldType.byte.toString) = some (Y.2.1 0) := (X.2.1.2 1 (Y.2.1 0, .byte) rfl).2
  obtain rfl : Y.2.1 0 = cA := Option.some.inj (e2.symm.trans e1)
  exact kk q H1 ⟨h1, h2, h3⟩
/-- a new array of Objects -/
theorem nq_ (X : cx p s m args c cc nL Ts own Dd Y A) {index : Nat} (iw : Nat) (hw : Ts[iw]? = some (.classLink own index "java/lang/Object")) (hW : Wd Dd A s.heap ws H locs) {n : Int32} {N' : Nat} (hn : ¬ n < 0) (hN : n.toNatClampNeg = N') (hbytes : N' * 4 ≤ 536870912) (hcells : cells + 1 ≤ R.cells) (hslots : slots + N' ≤ R.slots) (hdg : decode cc pc = .ok (.anewarray index, 3))
    (kk : ∀ (q : Nat) (H : Heap), Wd Dd A s.heap (ws ++ [(q, .inl (Y.2.1 2, N', .inr (.inr (.inr (.inr (fun _ => none))))))]) H locs → W p l e R s m args below meth c H locs (cells + 1) (slots + N') Q (F0 m (pc + 3) ls (.ref q :: rest))) : W p l e R s m args below meth c H locs cells slots Q (F0 m pc ls (.int n :: rest)) := by
  refine va_newq X.x X.b X.1.2.2.2.1 (X.w hw) X.2.2.2.1.2.2.2.2.2.1.2.2.2.2.2.1 X.2.1 hW.1 hW.2.1 hW.2.2 X.2.2.1 hn hN hbytes hcells hslots hdg (fun q cA H1 hK2 h1 h2 h3 => ?_)
  have e1 : s.vm.findClass ("[" ++ (FieldType.object "java/lang/Object").toString) = some cA := (hK2.2 6 (cA, .object "java/lang/Object") rfl).2.elim (fun _ q => q.elim (fun _ q => q.2.2.2))
  have e2 : s.vm.findClass ("[" ++ (FieldType.object "java/lang/Object").toString) = some (Y.2.1 2) := (X.2.1.2 4 (Y.2.1 2, .object "java/lang/Object") rfl).2.elim (fun _ q => q.elim (fun _ q => q.2.2.2))
  obtain rfl : Y.2.1 2 = cA := Option.some.inj (e2.symm.trans e1)
  exact kk q H1 ⟨h1, h2, h3⟩
/-- a thing that may lie in an array of Objects -/
theorem any_ (X : cx p s m args c cc nL Ts own Dd Y A) (hW : Wd Dd A s.heap ws H locs) {q0 ci : Nat} {fs : List Value} {r : vw_C} (he : ws[q0]? = some (a, .inr (ci, fs))) (hc : vwCl[ci]? = some r) (hk : (r.1, "java/lang/Object") ∈ kWs) : va_Any "java/lang/Object" s H a := by
  refine va_rAny X.2.1 hW.1 he hc (fun comp c0 h1 h2 => ?_)
  obtain ⟨c1, t1, f1, f2, f3⟩ := Cond.castable_spec (va_Nw.use (A := args) rfl (X.2.2.2.1.2.2.2.2.2.1.2.2.2.1 _ hk))
  cases f1.symm.trans h2
  cases f2.symm.trans h1
  exact f3
theorem alq_ (X : cx p s m args c cc nL Ts own Dd Y A) (hW : Wd Dd A s.heap ws H locs) (q0 t0 : Nat) {cA : ClassId} {C : String} {n : Nat} {f : Nat → Option Nat} (ha : ws[q0]? = some (a, .inl (cA, n, .inr (.inr (.inr (.inr f)))))) (ht : (TY Y)[t0]? = some (cA, .object C)) {i : Int32} (hin : vp_in i n) (hdg : decode cc pc = .ok (.aaload, 1))
    (kk : W p l e R s m args below meth c H locs cells slots Q (F0 m (pc + 1) ls (va_rf (f i.toNatClampNeg) :: rest))) : W p l e R s m args below meth c H locs cells slots Q (F0 m pc ls (.int i :: .ref a :: rest)) :=
  va_aldq X.x X.b X.2.1 hW.1 q0 t0 ha ht hin hdg kk
theorem asq_ (X : cx p s m args c cc nL Ts own Dd Y A) (hW : Wd Dd A s.heap ws H locs) (q0 : Nat) {n v : Nat} {f : Nat → Option Nat} (ha : ws[q0]? = some (a, .inl (Y.2.1 2, n, .inr (.inr (.inr (.inr f)))))) (hr : va_Any "java/lang/Object" s H v) {i : Int32} (hin : vp_in i n) (hdg : decode cc pc = .ok (.aastore, 1)) {ws' : va_W} (hset : ws.set q0 (a, .inl (Y.2.1 2, n, .inr (.inr (.inr (.inr (va_up f i.toNatClampNeg (some v))))))) = ws')
    (kk : ∀ (H : Heap) (locs : List Loc), Wd Dd A s.heap ws' H locs → W p l e R s m args below meth c H locs cells slots Q (F0 m (pc + 1) ls rest)) : W p l e R s m args below meth c H locs cells slots Q (F0 m pc ls (.ref v :: .int i :: .ref a :: rest)) := by
  subst hset
  exact va_astqM X.x X.b X.2.1 hW.1 hW.2.1 hW.2.2 q0 4 ha rfl hr hin hdg (fun H1 locs1 h1 h2 h3 => kk H1 locs1 ⟨h1, h2, h3⟩)
theorem asqN_ (X : cx p s m args c cc nL Ts own Dd Y A) (hW : Wd Dd A s.heap ws H locs) (q0 : Nat) {n : Nat} {f : Nat → Option Nat} (ha : ws[q0]? = some (a, .inl (Y.2.1 2, n, .inr (.inr (.inr (.inr f)))))) {i : Int32} (hin : vp_in i n) (hdg : decode cc pc = .ok (.aastore, 1)) {ws' : va_W} (hset : ws.set q0 (a, .inl (Y.2.1 2, n, .inr (.inr (.inr (.inr (va_up f i.toNatClampNeg none)))))) = ws')
    (kk : ∀ (H : Heap) (locs : List Loc), Wd Dd A s.heap ws' H locs → W p l e R s m args below meth c H locs cells slots Q (F0 m (pc + 1) ls rest)) : W p l e R s m args below meth c H locs cells slots Q (F0 m pc ls (.null :: .int i :: .ref a :: rest)) := by
  subst hset
  exact va_astqN X.x X.b X.2.1 hW.1 hW.2.1 hW.2.2 q0 4 ha rfl hin hdg (fun H1 locs1 h1 h2 h3 => kk H1 locs1 ⟨h1, h2, h3⟩)
/-- arraycopy between (or within) arrays of Objects -/
theorem cpq_ (X : cx p s m args c cc nL Ts own Dd Y A) (hz : ls.size = nL) {index : Nat} (i1 i2 i3 i4 : Nat) (h1 : Ts[i1]? = some (Cond.methodLink own index arraycopyName)) (h2 : Ts[i2]? = some (Cond.native arraycopyName)) (h3 : Ts[i3]? = some (Cond.static arraycopyName)) (h4 : Ts[i4]? = some (Cond.initialized "java/lang/System"))
    (hR : 1 ≤ R.frames ∧ 26 ≤ R.locals) (hr : (rest.map fun v => v.category).sum ≤ 8) (hW : Wd Dd A s.heap ws H locs) (q0 q1 : Nat) {a0 n0 n1 : Nat} {f g : Nat → Option Nat} (ha0 : ws[q0]? = some (a0, .inl (Y.2.1 2, n0, .inr (.inr (.inr (.inr f)))))) (ha1 : ws[q1]? = some (a, .inl (Y.2.1 2, n1, .inr (.inr (.inr (.inr g)))))) {sp dp n : Int32} {sp' dp' n' : Nat} (e1 : sp = nI sp') (e2 : dp = nI dp') (e3 : n = nI n') (hn0 : sp' + n' ≤ n0) (hn1 : dp' + n' ≤ n1) (hb0 : n0 < 2 ^ 31) (hb1 : n1 < 2 ^ 31) (hel : ∀ i : Nat, i < n' → ∀ y : Nat, f (sp' + i) = some y → va_Any "java/lang/Object" s H y) (hdg : decode cc pc = .ok (.invokestatic index, 3))
    {ws' : va_W} (hset : ws.set q1 (a, .inl (Y.2.1 2, n1, .inr (.inr (.inr (.inr (va_cpy f g sp' dp' n')))))) = ws') (kk : ∀ (H : Heap) (locs : List Loc), Wd Dd A s.heap ws' H locs → W p l e R s m args below meth c H locs cells slots Q (F0 m (pc + 3) ls rest)) : W p l e R s m args below meth c H locs cells slots Q (F0 m pc ls (.int n :: .int dp :: .ref a :: .int sp :: .ref a0 :: rest)) := by
  subst hset e1 e2 e3
  have c1 : (nI sp').toNatClampNeg = sp' := nI_clamp (by omega)
  have c2 : (nI dp').toNatClampNeg = dp' := nI_clamp (by omega)
  have c3 : (nI n').toNatClampNeg = n' := nI_clamp (by omega)
  refine va_copyM X.x X.b (X.1.2.2.1.trans hz.symm) X.1.2.2.2.1 (X.w h1) (X.w h2) (X.w h3) (X.w h4) X.2.1 hW.1 hW.2.1 hW.2.2 q0 q1 4 4 ha0 ha1 rfl rfl (nI_pos (by omega)) (nI_pos (by omega)) (nI_pos (by omega)) (by rw [c1, c3]; exact hn0) (by rw [c2, c3]; exact hn1) (fun i hi y h => hel i (by rw [c3] at hi; exact hi) y (by rw [c1] at h; exact h)) hR.1 (Nat.le_trans (Nat.add_le_add_right hr _) hR.2) hdg (fun H1 locs1 g1 g2 g3 => ?_)
  rw [c1, c2, c3] at g1 g2
  exact kk H1 locs1 ⟨g1, g2, g3⟩
/-- arraycopy of bytes -/
theorem cpb_ (X : cx p s m args c cc nL Ts own Dd Y A) (hz : ls.size = nL) {index : Nat} (i1 i2 i3 i4 : Nat) (h1 : Ts[i1]? = some (Cond.methodLink own index arraycopyName)) (h2 : Ts[i2]? = some (Cond.native arraycopyName)) (h3 : Ts[i3]? = some (Cond.static arraycopyName)) (h4 : Ts[i4]? = some (Cond.initialized "java/lang/System"))
    (hR : 1 ≤ R.frames ∧ 26 ≤ R.locals) (hr : (rest.map fun v => v.category).sum ≤ 8) (hW : Wd Dd A s.heap ws H locs) (q0 q1 : Nat) {a0 n0 n1 : Nat} {f g : Nat → Int32} (ha0 : ws[q0]? = some (a0, .inl (Y.2.1 0, n0, .inl f))) (ha1 : ws[q1]? = some (a, .inl (Y.2.1 0, n1, .inl g))) {sp dp n : Int32} {sp' dp' n' : Nat} (e1 : sp = nI sp') (e2 : dp = nI dp') (e3 : n = nI n') (hn0 : sp' + n' ≤ n0) (hn1 : dp' + n' ≤ n1) (hb0 : n0 < 2 ^ 31) (hb1 : n1 < 2 ^ 31) (hfit : ∀ i, i < n' → fits .byte (.int (f (sp' + i))) = true) (hdg : decode cc pc = .ok (.invokestatic index, 3))
    {ws' : va_W} (hset : ws.set q1 (a, .inl (Y.2.1 0, n1, .inl (va_cpy f g sp' dp' n'))) = ws') (kk : ∀ (H : Heap) (locs : List Loc), Wd Dd A s.heap ws' H locs → W p l e R s m args below meth c H locs cells slots Q (F0 m (pc + 3) ls rest)) : W p l e R s m args below meth c H locs cells slots Q (F0 m pc ls (.int n :: .int dp :: .ref a :: .int sp :: .ref a0 :: rest)) := by
  subst hset e1 e2 e3
  have c1 : (nI sp').toNatClampNeg = sp' := nI_clamp (by omega)
  have c2 : (nI dp').toNatClampNeg = dp' := nI_clamp (by omega)
  have c3 : (nI n').toNatClampNeg = n' := nI_clamp (by omega)
  refine va_copyi X.x X.b (X.1.2.2.1.trans hz.symm) X.1.2.2.2.1 (X.w h1) (X.w h2) (X.w h3) (X.w h4) X.2.1 hW.1 hW.2.1 hW.2.2 q0 q1 1 1 ha0 ha1 rfl rfl rfl (nI_pos (by omega)) (nI_pos (by omega)) (nI_pos (by omega)) (by rw [c1, c3]; exact hn0) (by rw [c2, c3]; exact hn1) (fun i hi => by rw [c1]; exact hfit i (by rw [c3] at hi; exact hi)) hR.1 (Nat.le_trans (Nat.add_le_add_right hr _) hR.2) hdg (fun H1 locs1 g1 g2 g3 => ?_)
  rw [c1, c2, c3] at g1 g2
  exact kk H1 locs1 ⟨g1, g2, g3⟩
theorem sb_ (X : cx p s m args c cc nL Ts own Dd Y A) (hW : Wd Dd A s.heap ws H locs) (q0 : Nat) {n : Nat} {f : Nat → Int32} (ha : ws[q0]? = some (a, .inl (Y.2.1 0, n, .inl f))) {i x : Int32} {i' : Nat} (ei : i = nI i') (hin : i' < n) (hn : n < 2 ^ 31) (hx : vp_nar .byte x = x) (hdg : decode cc pc = .ok (.bastore, 1)) {ws' : va_W} (hset : ws.set q0 (a, .inl (Y.2.1 0, n, .inl (upd f i' x))) = ws')
    (kk : ∀ (H : Heap) (locs : List Loc), Wd Dd A s.heap ws' H locs → W p l e R s m args below meth c H locs cells slots Q (F0 m (pc + 1) ls rest)) : W p l e R s m args below meth c H locs cells slots Q (F0 m pc ls (.int x :: .int i :: .ref a :: rest)) := by
  subst hset ei
  refine va_bast X.x X.b X.2.1 hW.1 hW.2.1 hW.2.2 q0 1 ha rfl (vp_in_nI hin hn) hdg (fun H1 locs1 h1 h2 h3 => ?_)
  rw [nI_clamp (by omega), hx] at h1 h2
  exact kk H1 locs1 ⟨h1, h2, h3⟩
theorem lb_ (X : cx p s m args c cc nL Ts own Dd Y A) (hW : Wd Dd A s.heap ws H locs) (q0 : Nat) {n : Nat} {f : Nat → Int32} (ha : ws[q0]? = some (a, .inl (Y.2.1 0, n, .inl f))) {i : Int32} {i' : Nat} (ei : i = nI i') (hin : i' < n) (hn : n < 2 ^ 31) (hdg : decode cc pc = .ok (.baload, 1))
    (kk : W p l e R s m args below meth c H locs cells slots Q (F0 m (pc + 1) ls (.int (f i') :: rest))) : W p l e R s m args below meth c H locs cells slots Q (F0 m pc ls (.int i :: .ref a :: rest)) := by
  subst ei
  refine va_bald X.x X.b X.2.1 hW.1 q0 1 ha rfl (vp_in_nI hin hn) hdg ?_
  rw [nI_clamp (by omega)]
  exact kk
theorem gz_ (X : cx p s m args c cc nL Ts own Dd Y A) (hW : Wd Dd A s.heap ws H locs) {C n d : String} {v : Value} {index : Nat} (hZ : va_Z C n d v A s s.heap) (i : Nat) (hlink : Ts[i]? = some (Cond.fieldLink own index C n d)) (hdg : decode cc pc = .ok (.getstatic index, 3))
    (kk : W p l e R s m args below meth c H locs cells slots Q (F0 m (pc + 3) ls (v :: rest))) : W p l e R s m args below meth c H locs cells slots Q (F0 m pc ls rest) :=
  va_gets X.x X.b hZ hW.2.2 X.1.2.2.2.1 (X.w hlink) (fun _ h => h) hdg kk
/-- a thing that the tail of the world holds, of a class whose things may lie in an array of Objects -/
def inx (ex : va_W) (y : Nat) : Prop := ∃ (k ci : Nat) (fs : List Value) (r : vw_C), ex[k]? = some (y, .inr (ci, fs)) ∧ vwCl[ci]? = some r ∧ (r.1, "java/lang/Object") ∈ kWs
theorem anyx_ (X : cx p s m args c cc nL Ts own Dd Y A) {w ex : va_W} (hW : Wd Dd A s.heap (w ++ ex) H locs) {y : Nat} (h : inx ex y) : va_Any "java/lang/Object" s H y := by
  obtain ⟨k, ci, fs, r, h1, h2, h3⟩ := h
  exact any_ (q0 := w.length + k) X hW (by rw [List.getElem?_append_right (Nat.le_add_right _ _), Nat.add_sub_cancel_left]; exact h1) h2 h3
theorem pm_new {w ex : va_W} {c : Addr × va_E} : ((w ++ ex) ++ [c]).Perm ((w ++ [c]) ++ ex) := by
  rw [List.append_assoc, List.append_assoc]
  exact List.Perm.append_left _ List.perm_append_comm
theorem pmA {α : Type} (a b : List α) (h : ∀ [DecidableEq α] (x : α), a.count x = b.count x) : a.Perm b := by
  classical
  exact List.perm_iff_count.mpr (fun x => h x)
end GP
section GP2
variable {p : Program} {l : Launch} {e : Env} {R : Room} {s : State} {m : MethodId} {args : Array Value} {below : List Frame} {meth : Method} {c : Code} {H : Heap} {locs : List Loc} {cells slots : Nat} {Q : State → Prop}
variable {cc : ByteArray} {nL pc : Nat} {Ts : List Cond} {own : String} {Dd : va_G} {Y : yT} {A : Nat → Prop} {ls : Array Slot} {rest st : List Value} {ws : va_W} {a : Nat}
/-- an array of Objects, as a thing of its class -/
theorem aro_ (X : cx p s m args c cc nL Ts own Dd Y A) (hW : Wd Dd A s.heap ws H locs) (q0 : Nat) {x : vp_A} (ha : ws[q0]? = some (a, .inl (Y.2.1 2, x))) : ∃ cell : Cell, H[a]? = some cell ∧ cell.vm.isStatics = false ∧ s.vm.findClass oAr = some cell.cls := by
  refine ⟨vp_cell (Y.2.1 2) x, hW.1 q0 _ ha, ?_, ?_⟩
  · obtain ⟨n, f | f | f | f | f⟩ := x <;> rfl
  · rw [show (vp_cell (Y.2.1 2) x).cls = Y.2.1 2 from by obtain ⟨n, f | f | f | f | f⟩ := x <;> rfl]
    have q := (X.2.1.2 4 (Y.2.1 2, .object "java/lang/Object") rfl).2.elim (fun _ q => q.elim (fun _ q => q.2.2.2))
    rw [show oAr = "[" ++ (FieldType.object "java/lang/Object").toString from by decide +kernel]
    exact q
end GP2
