/-! contracts whose end is one of several: the world grows, the answer is said by a relation -/
def Qr (Dd : va_G) (Y : yT) (A : Nat → Prop) (post : Option Value → va_W → Prop) : Array Value → State → Outcome → State → Prop := fun _ st oc t => (∃ rv w, post rv w ∧ oc = .returned rv ∧ sEnd Dd Y A w t) ∧ va_F A st t
def MR (l : Launch) (y : MethodName) (words : List Cond) (rm : Room) (Dd : va_G) (Y : yT) (av : List Value) (ws : va_W) (post : Option Value → va_W → Prop) (mc ms : Nat) : Prop :=
  ∀ sz : Nat, Met l y words rm (va_Pc av (sPre Dd Y sz ws)) (Qr Dd Y (va_A ws sz) post) mc ms (va_A ws sz)
section MRS
variable {p : Program} {l : Launch} {e : Env} {R : Room} {s : State} {m : MethodId} {args : Array Value} {below : List Frame} {meth : Method} {c : Code} {H : Heap} {locs : List Loc} {cells slots : Nat} {Q : State → Prop}
variable {cc : ByteArray} {nL pc : Nat} {Ts : List Cond} {own : String} {Dd : va_G} {Y : yT} {A : Nat → Prop} {ls : Array Slot} {rest st : List Value} {ws : va_W} {a : Nat}
theorem va_P.permA {w1 w2 : va_W} (hp : w1.Perm w2) (h : va_P Dd vwCl w1 H) : va_P Dd vwCl w2 H := fun k q hk => by
  obtain ⟨i, hi⟩ := List.getElem?_of_mem (hp.symm.subset (List.mem_of_getElem? hk))
  exact h i q hi
theorem va_D.permA {w1 w2 : va_W} (hp : w1.Perm w2) (h : va_D A w1) : va_D A w2 := by
  obtain ⟨d1, d2⟩ := bk_D.mp h
  exact bk_D.mpr ⟨(hp.map _).nodup_iff.mp d1, fun q hq => d2 q (hp.symm.subset hq)⟩
theorem Wd.permA {H0 : Heap} {w1 w2 : va_W} (hp : w1.Perm w2) (h : Wd Dd A H0 w1 H locs) : Wd Dd A H0 w2 H locs := ⟨h.1.permA hp, h.2.1.permA hp, h.2.2⟩
theorem Wd.drop {H0 : Heap} {w1 w2 : va_W} (h : Wd Dd A H0 (w1 ++ w2) H locs) : Wd Dd A H0 w1 H locs := by
  obtain ⟨hP, hD, hS⟩ := h
  obtain ⟨d1, d2⟩ := bk_D.mp hD
  rw [List.map_append] at d1
  exact ⟨(bk_P (pre := []).mp (show va_P Dd vwCl ([] ++ (w1 ++ w2)) H from hP)).2.1, bk_D.mpr ⟨(List.nodup_append.mp d1).1, fun q hq => d2 q (List.mem_append_left _ hq)⟩, hS⟩
theorem MRk {y : MethodName} {words ws9 : List Cond} {rm : Room} {maxL : Nat} {ret : Option FieldType} {av : List Value} {post : Option Value → va_W → Prop} {mc ms : Nat} (hy : plainName y.cls = true) (hw : words = .code y cc maxL ret :: ws9) (hlen : (lg_sl av).length ≤ maxL)
    (k : ∀ {p : Program} {e : Env} {s : State} {m : MethodId} {args : Array Value} {below : List Frame} {meth : Method} {c : Code} {A : Nat → Prop} (ls : Array Slot) (Q : State → Prop), cx p s m args c cc maxL words y.cls Dd Y A → (meth.name = y.name) → Wd Dd A s.heap ws s.heap [] → lv_has ls maxL (lv_args 0 av) →
      (∀ (cells slots : Nat) (H : Heap) (locs : List Loc) (ls : Array Slot) (pc : Nat) (r : Int32) (ty : FieldType) (w : va_W), post (some (.int r)) w → ret = some ty → narrow ty (.int r) = .int r → cells ≤ mc → slots ≤ ms → Wd Dd A s.heap w H locs → decode cc pc = .ok (.ireturn, 1) → W p l e rm s m args below meth c H locs cells slots Q (F0 m pc ls [.int r])) →
      (∀ (cells slots : Nat) (H : Heap) (locs : List Loc) (ls : Array Slot) (pc : Nat) (w : va_W), post none w → ret = none → cells ≤ mc → slots ≤ ms → Wd Dd A s.heap w H locs → decode cc pc = .ok (.return_, 1) → W p l e rm s m args below meth c H locs cells slots Q (F0 m pc ls [])) →
      (∀ (cells slots : Nat) (H : Heap) (locs : List Loc) (ls : Array Slot) (pc : Nat) (r : Option Nat) (ty : FieldType) (w : va_W), post (some (va_rf r)) w → ret = some ty → ((∃ C, ty = .object C) ∨ ∃ t, ty = .array t) → cells ≤ mc → slots ≤ ms → Wd Dd A s.heap w H locs → decode cc pc = .ok (.areturn, 1) → W p l e rm s m args below meth c H locs cells slots Q (F0 m pc ls [va_rf r])) →
      W p l e rm s m args below meth c s.heap [] 0 0 Q (F0 m 0 ls [])) : MR l y words rm Dd Y av ws post mc ms := by
  intro sz
  refine Met.ofW (cc := cc) (maxL := maxL) (ret := ret) hy hw ?_
  intro p e s m args below meth c s₁ B hml hv
  obtain ⟨rfl, hsz, hP, hK, hD0, hX, hZ⟩ := hv
  subst hsz
  have hD : va_D (va_A ws s.heap.size) ws := hD0.self
  have hts := atoms_spec (ws := words) B.pre
  have hown : s.vm.findClass y.cls = some m.cls := findClass_of_methodNamed B.named
  rw [lg_entry_eq]
  refine k _ _ ⟨⟨B.exec, B.bytes, hml, hown, hts⟩, hK, fun q h => Or.inr h, hX, hZ⟩ (name_of_methodNamed B.named B.method).1 ⟨hP, hD, va_S.rf⟩ (lv_entry av hlen) ?_ ?_ ?_
  · intro cells slots H locs ls pc r ty w ho hret hn hc hs hW hdg
    refine W.widen hc hs ?_
    exact W.zret B.exec B.bytes (hret ▸ B.returns) hn (fun t ht hWm => ⟨⟨_, w, ho, rfl, by rw [ht]; exact hW.1, va_K.moved hWm.alike hK, hW.2.1⟩, hW.2.2.F ht⟩) hW.2.2.2.2 hdg B.notSynchronized
  · intro cells slots H locs ls pc w ho hret hc hs hW hdg
    refine W.widen hc hs ?_
    exact W.vret B.exec B.bytes (hret ▸ B.returns) (fun t ht hWm => ⟨⟨_, w, ho, rfl, by rw [ht]; exact hW.1, va_K.moved hWm.alike hK, hW.2.1⟩, hW.2.2.F ht⟩) hW.2.2.2.2 hdg B.notSynchronized
  · intro cells slots H locs ls pc r ty w ho hret hty hc hs hW hdg
    refine W.widen hc hs ?_
    exact W.aret B.exec B.bytes (hret ▸ B.returns) hty (by cases r with | none => exact Or.inl rfl | some a => exact Or.inr ⟨a, rfl⟩) (fun t ht hWm => ⟨⟨_, w, ho, rfl, by rw [ht]; exact hW.1, va_K.moved hWm.alike hK, hW.2.1⟩, hW.2.2.F ht⟩) hW.2.2.2.2 hdg B.notSynchronized
/-- what a part of a world is -/
theorem wd_part {wc post : va_W} (hW : Wd Dd A s.heap (wc ++ post) H locs) : Wd Dd A s.heap wc H locs := hW.drop
theorem run_r {mc ms : Nat} {a9 : Array Value} {st0 : List Value} {free : Addr → Prop} {wc w9 : va_W} {post : Option Value → va_W → Prop} (hr : va_Run p l e R s m args below meth c H locs cells slots mc ms (F0 m pc ls st0) rest (Qr Dd Y (va_A wc H.size) post a9) free) (hW : Wd Dd A s.heap (wc ++ w9) H locs) (hF : ∀ q, va_A wc H.size q → A q) (hf : ∀ q, free q → va_A wc H.size q)
    (kk : ∀ (rv : Option Value) (w : va_W) (H : Heap) (locs : List Loc), post rv w → Wd Dd A s.heap (w ++ w9) H locs → W p l e R s m args below meth c H locs (cells + mc) (slots + ms) Q (F0 m (pc + 3) ls (rv.toList ++ rest))) : W p l e R s m args below meth c H locs cells slots Q (F0 m pc ls st0) := by
  intro T hT XS
  obtain ⟨v, st₀, t, T', L, h0, X', hL, e1, e2, ⟨⟨rv, w, hp, hv, hP1, -, hD1⟩, hFr⟩, stp⟩ := hr T hT XS
  obtain rfl : v = rv := by cases hv; rfl
  obtain ⟨k1, k2, k3⟩ := vx_keep h0 e1 hW.2.2 (fun q _ h => hF q h) (fun q h => hF q (hf q h)) hL hFr
  obtain ⟨g1, g2⟩ := bk_call (pre := []) hW.1 hW.2.1 k2 hF (by rw [e1]; exact hP1) hD1
  obtain ⟨t2, a1, b1⟩ := kk v w T'.heap (locs ++ L) hp ⟨g1, g2, k3⟩ T' rfl X'
  exact ⟨t2, stp t2 a1, b1⟩
theorem run_r5 {mc ms : Nat} {a9 : Array Value} {st0 : List Value} {free : Addr → Prop} {wc w9 : va_W} {post : Option Value → va_W → Prop} (hr : va_Run5 p l e R s m args below meth c H locs cells slots mc ms (F0 m pc ls st0) rest (Qr Dd Y (va_A wc H.size) post a9) free) (hW : Wd Dd A s.heap (wc ++ w9) H locs) (hF : ∀ q, va_A wc H.size q → A q) (hf : ∀ q, free q → va_A wc H.size q)
    (kk : ∀ (rv : Option Value) (w : va_W) (H : Heap) (locs : List Loc), post rv w → Wd Dd A s.heap (w ++ w9) H locs → W p l e R s m args below meth c H locs (cells + mc) (slots + ms) Q (F0 m (pc + 5) ls (rv.toList ++ rest))) : W p l e R s m args below meth c H locs cells slots Q (F0 m pc ls st0) := by
  intro T hT XS
  obtain ⟨v, st₀, t, T', L, h0, X', hL, e1, e2, ⟨⟨rv, w, hp, hv, hP1, -, hD1⟩, hFr⟩, stp⟩ := hr T hT XS
  obtain rfl : v = rv := by cases hv; rfl
  obtain ⟨k1, k2, k3⟩ := vx_keep h0 e1 hW.2.2 (fun q _ h => hF q h) (fun q h => hF q (hf q h)) hL hFr
  obtain ⟨g1, g2⟩ := bk_call (pre := []) hW.1 hW.2.1 k2 hF (by rw [e1]; exact hP1) hD1
  obtain ⟨t2, a1, b1⟩ := kk v w T'.heap (locs ++ L) hp ⟨g1, g2, k3⟩ T' rfl X'
  exact ⟨t2, stp t2 a1, b1⟩
theorem pre_r {wc w9 : va_W} {As : List Value} (X : cx p s m args c cc nL Ts own Dd Y A) (hW : Wd Dd A s.heap (wc ++ w9) H locs) : FrameBlind (va_Pc As (sPre Dd Y H.size wc)) ∧ ∀ U : State, U.heap = H → s.WarmedH U.vm → va_Pc As (sPre Dd Y H.size wc) As.toArray U := by
  have hw := hW.drop
  have hF := wd_free X.2.2.1 hw
  exact ⟨sPre.blind _ _ _ _ _, fun U hU hWm => ⟨rfl, by rw [hU], by rw [hU]; exact hw.1, va_K.moved hWm.alike X.2.1, hw.2.1.weaken (fun _ _ _ _ => trivial), X.2.2.2.1.warm hWm, cx.z X hw.2.2 hF hU hWm⟩⟩
/-- a virtual call -/
theorem rV_ (X : cx p s m args c cc nL Ts own Dd Y A) {y : MethodName} {words : List Cond} {rm : Room} {As : List Value} {wc w9 : va_W} {post : Option Value → va_W → Prop} {bytes : ByteArray} {maxL n index b mc ms : Nat} {ret : Option FieldType} {C : String} (hM : MR l y words rm Dd Y (.ref b :: As) wc post mc ms) (cw : CallW R s args own C index y bytes maxL ret words rm mc ms n) (hW : Wd Dd A s.heap ws H locs) (hsp : ws.Perm (wc ++ w9)) (q0 ci : Nat) {q : vw_C} {fs : List Value} (hc : vwCl[ci]? = some q) (hq : q.1 = C) (he : wc[q0]? = some (b, .inr (ci, fs))) (hn : As.length = n) (hl : ls.size = nL) (hst : st = As.reverse ++ .ref b :: rest) (hr : (rest.map fun v => v.category).sum ≤ 8) (hdg : decode cc pc = .ok (.invokevirtual index, 3)) (hf : cells + mc ≤ R.cells ∧ slots + ms ≤ R.slots)
    (kk : ∀ (rv : Option Value) (w : va_W) (H : Heap) (locs : List Loc), post rv w → Wd Dd A s.heap (w ++ w9) H locs → W p l e R s m args below meth c H locs (cells + mc) (slots + ms) Q (F0 m (pc + 3) ls (rv.toList ++ rest))) : W p l e R s m args below meth c H locs cells slots Q (F0 m pc ls st) := by
  subst hq
  have hW2 := hW.permA hsp
  exact run_r (va_runV (l := l) (below := below) (e := e) (meth := meth) (locs := locs) (cells := cells) (slots := slots) (As := As) (rest := rest) (H := H) X.1 (hM H.size) cw ⟨(pre_r X hW2).1, va_recv X.2.1 hW2.drop.1 hc he, (pre_r X hW2).2⟩ (g := F0 m pc ls st) rfl hn hl hst (lv_room hr) hdg hf) hW2 (wd_free X.2.2.1 hW2.drop) (fun _ h => h) kk
/-- a virtual call of an inherited or private method, the receiver's class another -/
theorem rI_ (X : cx p s m args c cc nL Ts own Dd Y A) {y : MethodName} {words : List Cond} {rm : Room} {As : List Value} {wc w9 : va_W} {post : Option Value → va_W → Prop} {bytes : ByteArray} {maxL n index b mc ms : Nat} (hM : MR l y words rm Dd Y (.ref b :: As) wc post mc ms) (cw : CallB R s args own index y bytes maxL none words rm mc ms n ∧ y.name = "<init>" ∧ (Cond.instanceMethod y).before args s = true) (hW : Wd Dd A s.heap ws H locs) (hsp : ws.Perm (wc ++ w9)) (hn : As.length = n) (hl : ls.size = nL) (hst : st = As.reverse ++ .ref b :: rest) (hr : (rest.map fun v => v.category).sum ≤ 8) (hdg : decode cc pc = .ok (.invokespecial index, 3)) (hf : cells + mc ≤ R.cells ∧ slots + ms ≤ R.slots)
    (kk : ∀ (rv : Option Value) (w : va_W) (H : Heap) (locs : List Loc), post rv w → Wd Dd A s.heap (w ++ w9) H locs → W p l e R s m args below meth c H locs (cells + mc) (slots + ms) Q (F0 m (pc + 3) ls (rv.toList ++ rest))) : W p l e R s m args below meth c H locs cells slots Q (F0 m pc ls st) := by
  have hW2 := hW.permA hsp
  exact run_r (va_runI (l := l) (below := below) (e := e) (meth := meth) (locs := locs) (cells := cells) (slots := slots) (As := As) (rest := rest) (H := H) (b := b) X.1 (hM H.size) cw (pre_r X hW2) (g := F0 m pc ls st) rfl hn hl hst (lv_room hr) hdg hf) hW2 (wd_free X.2.2.1 hW2.drop) (fun _ h => h) kk
/-- a static call -/
theorem rS_ (X : cx p s m args c cc nL Ts own Dd Y A) {y : MethodName} {words : List Cond} {rm : Room} {As : List Value} {wc w9 : va_W} {post : Option Value → va_W → Prop} {bytes : ByteArray} {maxL n index mc ms : Nat} {ret : Option FieldType} (hM : MR l y words rm Dd Y As wc post mc ms) (cw : CallB R s args own index y bytes maxL ret words rm mc ms n ∧ (Cond.static y).before args s = true) (hW : Wd Dd A s.heap ws H locs) (hsp : ws.Perm (wc ++ w9)) (hn : As.length = n) (hl : ls.size = nL) (hst : st = As.reverse ++ rest) (hr : (rest.map fun v => v.category).sum ≤ 8) (hdg : decode cc pc = .ok (.invokestatic index, 3)) (hf : cells + mc ≤ R.cells ∧ slots + ms ≤ R.slots)
    (kk : ∀ (rv : Option Value) (w : va_W) (H : Heap) (locs : List Loc), post rv w → Wd Dd A s.heap (w ++ w9) H locs → W p l e R s m args below meth c H locs (cells + mc) (slots + ms) Q (F0 m (pc + 3) ls (rv.toList ++ rest))) : W p l e R s m args below meth c H locs cells slots Q (F0 m pc ls st) := by
  have hW2 := hW.permA hsp
  exact run_r (va_runS (l := l) (below := below) (e := e) (meth := meth) (locs := locs) (cells := cells) (slots := slots) (As := As) (rest := rest) (H := H) X.1 (hM H.size) cw (pre_r X hW2) (g := F0 m pc ls st) rfl hn hl hst (lv_room hr) hdg hf) hW2 (wd_free X.2.2.1 hW2.drop) (fun _ h => h) kk
/-- a call through an interface -/
theorem rF_ (X : cx p s m args c cc nL Ts own Dd Y A) {x y : MethodName} {words ws9 : List Cond} {rm : Room} {As : List Value} {wc w9 : va_W} {post : Option Value → va_W → Prop} {bytes : ByteArray} {maxL index count b mc ms : Nat} {ret : Option FieldType} {C : String} (n : Nat) (hM : MR l y words rm Dd Y (.ref b :: As) wc post mc ms) (hT : GoodIn Ts (va_wsF own index C x y words)) (hw : words = Cond.code y bytes maxL ret :: ws9) (hrc : rm.cells = mc) (hrs : rm.slots = ms) (hI : (C, x, y) ∈ iWs) (hd : x.cls ≠ "java/lang/invoke/MethodHandle" ∧ x.cls ≠ "java/lang/invoke/VarHandle" ∧ (parseMethodDescriptor x.desc).map (fun d => d.parameters.length) = some n) (hR : rm.frames + 1 ≤ R.frames ∧ 8 + (maxL + 11) + rm.locals ≤ R.locals) (hW : Wd Dd A s.heap ws H locs) (hsp : ws.Perm (wc ++ w9)) (q0 ci : Nat) {q : vw_C} {fs : List Value} (hc : vwCl[ci]? = some q) (hq : q.1 = C) (he : wc[q0]? = some (b, .inr (ci, fs))) (hn : As.length = n) (hl : ls.size = nL) (hst : st = As.reverse ++ .ref b :: rest) (hr : (rest.map fun v => v.category).sum ≤ 8) (hdg : decode cc pc = .ok (.invokeinterface index count, 5)) (hf : cells + mc ≤ R.cells ∧ slots + ms ≤ R.slots)
    (kk : ∀ (rv : Option Value) (w : va_W) (H : Heap) (locs : List Loc), post rv w → Wd Dd A s.heap (w ++ w9) H locs → W p l e R s m args below meth c H locs (cells + mc) (slots + ms) Q (F0 m (pc + 5) ls (rv.toList ++ rest))) : W p l e R s m args below meth c H locs cells slots Q (F0 m pc ls st) := by
  subst hq
  have hW2 := hW.permA hsp
  have hF := X.2.2.2.1.2.2.2.2.2.1.1 _ hI
  exact run_r5 (va_runF (l := l) (below := below) (e := e) (meth := meth) (locs := locs) (cells := cells) (slots := slots) (As := As) (rest := rest) (H := H) (X.2.1.1 ci q hc).2 X.1 (hM H.size) (va_cwF n X.1.2.2.2.2 hT hw hrc hrs hF hd hR) ⟨(pre_r X hW2).1, va_recv X.2.1 hW2.drop.1 hc he, (pre_r X hW2).2⟩ (g := F0 m pc ls st) rfl hn hl hst (lv_room hr) hdg hf) hW2 (wd_free X.2.2.1 hW2.drop) (fun _ h => h) kk
/-- a virtual call of a member that the receiver's class inherits, or has over the one that is named -/
theorem rU_ (X : cx p s m args c cc nL Ts own Dd Y A) {x y : MethodName} {words : List Cond} {rm : Room} {As : List Value} {wc w9 : va_W} {post : Option Value → va_W → Prop} {bytes : ByteArray} {maxL n index b mc ms : Nat} {ret : Option FieldType} {C owner : String} (hM : MR l y words rm Dd Y (.ref b :: As) wc post mc ms) (cw : va_CU R s args own C owner index x y bytes maxL ret words rm mc ms n) (hW : Wd Dd A s.heap ws H locs) (hsp : ws.Perm (wc ++ w9)) (q0 ci : Nat) {q : vw_C} {fs : List Value} (hc : vwCl[ci]? = some q) (hq : q.1 = C) (he : wc[q0]? = some (b, .inr (ci, fs))) (hn : As.length = n) (hl : ls.size = nL) (hst : st = As.reverse ++ .ref b :: rest) (hr : (rest.map fun v => v.category).sum ≤ 8) (hdg : decode cc pc = .ok (.invokevirtual index, 3)) (hf : cells + mc ≤ R.cells ∧ slots + ms ≤ R.slots)
    (kk : ∀ (rv : Option Value) (w : va_W) (H : Heap) (locs : List Loc), post rv w → Wd Dd A s.heap (w ++ w9) H locs → W p l e R s m args below meth c H locs (cells + mc) (slots + ms) Q (F0 m (pc + 3) ls (rv.toList ++ rest))) : W p l e R s m args below meth c H locs cells slots Q (F0 m pc ls st) := by
  subst hq
  have hW2 := hW.permA hsp
  exact run_r (va_runU (l := l) (below := below) (e := e) (meth := meth) (locs := locs) (cells := cells) (slots := slots) (As := As) (rest := rest) (H := H) X.1 (hM H.size) cw ⟨(pre_r X hW2).1, va_recv X.2.1 hW2.drop.1 hc he, (pre_r X hW2).2⟩ (g := F0 m pc ls st) rfl hn hl hst (lv_room hr) hdg hf) hW2 (wd_free X.2.2.1 hW2.drop) (fun _ h => h) kk
/-- super.member(..) -/
theorem rX_ (X : cx p s m args c cc nL Ts own Dd Y A) {y : MethodName} {words : List Cond} {rm : Room} {As : List Value} {wc w9 : va_W} {post : Option Value → va_W → Prop} {bytes : ByteArray} {maxL n index b mc ms : Nat} {ret : Option FieldType} (hM : MR l y words rm Dd Y (.ref b :: As) wc post mc ms) (cw : va_CS R s args own index y bytes maxL ret words rm mc ms n) (hW : Wd Dd A s.heap ws H locs) (hsp : ws.Perm (wc ++ w9)) (q0 ci : Nat) {q : vw_C} {fs : List Value} (hc : vwCl[ci]? = some q) (he : wc[q0]? = some (b, .inr (ci, fs))) (hn : As.length = n) (hl : ls.size = nL) (hst : st = As.reverse ++ .ref b :: rest) (hr : (rest.map fun v => v.category).sum ≤ 8) (hdg : decode cc pc = .ok (.invokespecial index, 3)) (hf : cells + mc ≤ R.cells ∧ slots + ms ≤ R.slots)
    (kk : ∀ (rv : Option Value) (w : va_W) (H : Heap) (locs : List Loc), post rv w → Wd Dd A s.heap (w ++ w9) H locs → W p l e R s m args below meth c H locs (cells + mc) (slots + ms) Q (F0 m (pc + 3) ls (rv.toList ++ rest))) : W p l e R s m args below meth c H locs cells slots Q (F0 m pc ls st) := by
  have hW2 := hW.permA hsp
  exact run_r (va_runSU (l := l) (below := below) (e := e) (meth := meth) (locs := locs) (cells := cells) (slots := slots) (As := As) (rest := rest) (H := H) (X.2.1.1 ci q hc).2 X.1 (hM H.size) cw ⟨(pre_r X hW2).1, va_recv X.2.1 hW2.drop.1 hc he, (pre_r X hW2).2⟩ (g := F0 m pc ls st) rfl hn hl hst (lv_room hr) hdg hf) hW2 (wd_free X.2.2.1 hW2.drop) (fun _ h => h) kk
end MRS
