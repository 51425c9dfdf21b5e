/-! the law's own methods: they call the class, catch, and keep the answer in a row of one long -/
def cdN : List String → String → Int32 → Int32
  | [], _, _ => 0
  | a :: l, E, n => if E = a then n else cdN l E (n + 1)
def lwI (es : List String) (V : gX) (fo : Nat → Int64) (o : oX Int32) : Int32 × gX × (Nat → Int64) := match o with
  | .inl E => (cdN es E 1, V, fo)
  | .inr r => (0, V, vp_updL fo 0 r.toInt64)
def lwW (es : List String) (V : gX) (fo : Nat → Int64) (o : oX Int32) : Int32 × gX × (Nat → Int64) := match o with
  | .inl E => (cdN es E 1, V, fo)
  | .inr r => (0, V, vp_updL fo 0 (if r = 0 then 0 else 1))
def lwS (es : List String) (V : gX) (fo : Nat → Int64) (o : oX (Int32 × gX)) : Int32 × gX × (Nat → Int64) := match o with
  | .inl E => (cdN es E 1, V, fo)
  | .inr r => (0, r.2, vp_updL fo 0 r.1.toInt64)
def WQ (Y : yT) (ad : Nat → Nat → Nat) (q : Nat) (cL : ClassId) (V : gX) (fo : Nat → Int64) : va_W := WX Y ad V ++ [(q, .inl (cL, 1, .inr (.inl fo)))]
def sPreL (Dd : va_G) (Y : yT) (cL : ClassId) (sz : Nat) (ws : va_W) (U : State) : Prop := sPre Dd Y sz ws U ∧ va_K Dd vwCl [(cL, .long)] U
def ML (l : Launch) (y : MethodName) (words : List Cond) (rm : Room) (Dd : va_G) (Y : yT) (cL : ClassId) (av : List Value) (ws ws' : va_W) (r : Int32) (mc ms : Nat) : Prop :=
  ∀ sz : Nat, vx_Met l y words rm (va_Pc av (sPreL Dd Y cL sz ws)) (Qg Dd Y (va_A ws sz) ws' (some (.int r))) (fun _ _ _ => False) mc ms (va_A ws sz)
section LAWS
variable {p : Program} {l : Launch} {e : Env} {R : Room} {s : State} {m : MethodId} {args : Array Value} {below : List Frame} {meth : Method} {c : Code} {H : Heap} {locs : List Loc} {cells slots : Nat} {Q : State → Prop}
variable {cc : ByteArray} {nL pc : Nat} {Ts : List Cond} {own : String} {Dd : va_G} {Y : yT} {A : Nat → Prop} {ls : Array Slot} {rest st : List Value} {ws : va_W} {a : Nat}
theorem lst_ (X : cx p s m args c cc nL Ts own Dd Y A) {cL : ClassId} (hKL : va_K Dd vwCl [(cL, .long)] s) (hW : Wd Dd A s.heap ws H locs) (q0 : Nat) {f : Nat → Int64} (ha : ws[q0]? = some (a, .inl (cL, 1, .inr (.inl f)))) {x : Int64} (hdg : decode cc pc = .ok (.lastore, 1)) {ws' : va_W} (hset : ws.set q0 (a, .inl (cL, 1, .inr (.inl (vp_updL f 0 x)))) = ws')
    (kk : ∀ (H : Heap) (locs : List Loc), Wd Dd A s.heap ws' H locs → W p l e R s m args below meth c H locs cells slots Q (F0 m (pc + 1) ls rest)) : W p l e R s m args below meth c H locs cells slots Q (F0 m pc ls (.long x :: .int 0 :: .ref a :: rest)) := by
  subst hset
  exact va_last X.x X.b hKL hW.1 hW.2.1 hW.2.2 q0 0 ha rfl (vp_in_nI (n := 0) (by decide) (by decide)) hdg (fun H1 locs1 h1 h2 h3 => kk H1 locs1 ⟨h1, h2, h3⟩)
theorem MLk {y : MethodName} {words ws9 : List Cond} {rm : Room} {maxL : Nat} {av : List Value} {ws' : va_W} {r : Int32} {mc ms : Nat} {cL : ClassId} {hh : List (Nat × Nat × Nat × Nat)} (hy : plainName y.cls = true) (hw : words = .codeWith y cc maxL (some .int) hh :: ws9) (hlen : (lg_sl av).length ≤ maxL) (hmc : mc = rm.cells) (hms : ms = rm.slots)
    (k : ∀ {p : Program} {e : Env} {s : State} {m : MethodId} {args : Array Value} {below : List Frame} {meth : Method} {c : Code} {A : Nat → Prop} (ls : Array Slot) (Q : State → Prop), cx p s m args c cc maxL words y.cls Dd Y A → va_K Dd vwCl [(cL, .long)] s → c.exceptionTable.toList = tableOf hh → Wd Dd A s.heap ws s.heap [] → lv_has ls maxL (lv_args 0 av) →
      (∀ (cells slots : Nat) (H : Heap) (locs : List Loc) (ls : Array Slot) (pc : Nat), narrow .int (.int r) = .int r → cells ≤ mc → slots ≤ ms → Wd Dd A s.heap ws' H locs → decode cc pc = .ok (.ireturn, 1) → W p l e rm s m args below meth c H locs cells slots Q (F0 m pc ls [.int r])) →
      W p l e rm s m args below meth c s.heap [] 0 0 Q (F0 m 0 ls [])) : ML l y words rm Dd Y cL av ws ws' r mc ms := by
  intro sz
  refine vx_ofWH (cc := cc) (maxL := maxL) (ret := some .int) (hh := hh) hy hw ?_
  intro p e s m args below meth c s₁ B hml hv
  obtain ⟨rfl, ⟨hsz, hP, hK, hD0, hX, hZ⟩, hKL⟩ := hv
  subst hsz
  have hD : va_D (va_A ws s.heap.size) ws := hD0.self
  have hts := atoms_spec (ws := words) B.pre
  have hown : s.vm.findClass y.cls = some m.cls := findClass_of_methodNamed B.named
  have ht := vx_table (x := y) B (hts _ (by rw [hw]; exact List.mem_cons_self))
  rw [lg_entry_eq]
  refine k _ _ ⟨⟨B.exec, B.bytes, hml, hown, hts⟩, hK, fun q h => Or.inr h, hX, hZ⟩ hKL ht ⟨hP, hD, va_S.rf⟩ (lv_entry av hlen) (fun cells slots H locs ls pc hn hc hs hW hdg => ?_)
  refine W.widen hc hs (vx_ret ?_)
  exact W.zret B.exec B.bytes B.returns hn (fun t ht hWm => ⟨⟨rfl, by rw [ht]; exact hW.1, va_K.moved hWm.alike hK, hW.2.1⟩, hW.2.2.F ht⟩) hW.2.2.2.2 hdg B.notSynchronized
/-- a call of a method that may throw, over a part of the world -/
theorem xVm_ (X : cx p s m args c cc nL Ts own Dd Y A) {y : MethodName} {words : List Cond} {rm : Room} {As : List Value} {o : oW} {wc post : va_W} {bytes : ByteArray} {maxL n index b mc ms : Nat} {ret : Option FieldType} {C : String} (hM : MX l y words rm Dd Y (.ref b :: As) wc o mc ms) (cw : CallW R s args own C index y bytes maxL ret words rm mc ms n) (hW : Wd Dd A s.heap ws H locs) (hsp : ws.Perm (wc ++ post)) (q0 ci : Nat) {q : vw_C} {fs : List Value} (hc : vwCl[ci]? = some q) (hq : q.1 = C) (he : wc[q0]? = some (b, .inr (ci, fs))) (hn : As.length = n) (hl : ls.size = nL) (hst : st = As.reverse ++ .ref b :: rest) (hr : (rest.map fun v => v.category).sum ≤ 8) (hdg : decode cc pc = .ok (.invokevirtual index, 3)) (hf : cells + mc ≤ R.cells ∧ slots + ms ≤ R.slots)
    (kx : ∀ (E : String) (H : Heap) (locs : List Loc) (ce : Cell) (q9 : Addr), o = .inl E → Wd Dd A s.heap ws H locs → H[q9]? = some ce → ce.vm = .none → s.vm.findClass E = some ce.cls → vx_W p l e R s m args below meth c H locs (cells + mc) (slots + ms) Q (F0 m pc ls rest) q9)
    (kk : ∀ (rv : Option Value) (w : va_W) (H : Heap) (locs : List Loc), o = .inr (rv, w) → Wd Dd A s.heap (w ++ post) H locs → W p l e R s m args below meth c H locs (cells + mc) (slots + ms) Q (F0 m (pc + 3) ls (rv.toList ++ rest))) : W p l e R s m args below meth c H locs cells slots Q (F0 m pc ls st) := by
  subst hq
  have hW2 : Wd Dd A s.heap ([] ++ (wc ++ post)) H locs := hW.perm hsp
  obtain ⟨hP, hD, hS⟩ := hW2
  have hPc := (bk_P.mp hP).2.1
  have hDc : va_D A wc := by
    obtain ⟨d1, d2⟩ := bk_D.mp hD
    rw [List.map_append, List.map_append] at d1
    exact bk_D.mpr ⟨(List.nodup_append.mp (List.nodup_append.mp d1).2.1).1, fun q hq => d2 q (List.mem_append_right _ (List.mem_append_left _ hq))⟩
  have hF := wd_free X.2.2.1 ⟨hPc, hDc, hS⟩
  have hrun := vx_runV (l := l) (below := below) (e := e) (meth := meth) (locs := locs) (cells := cells) (slots := slots) (As := As) (rest := rest) (H := H) X.1 (hM H.size) cw ⟨sPre.blind _ _ _ _ _, va_recv X.2.1 hPc hc he, fun U hU hWm => ⟨rfl, by rw [hU], by rw [hU]; exact hPc, va_K.moved hWm.alike X.2.1, hDc.weaken (fun _ _ _ _ => trivial), X.2.2.2.1.warm hWm, cx.z X hS hF hU hWm⟩⟩ (g := F0 m pc ls st) rfl hn hl hst (lv_room hr) hdg hf
  intro T hT XS
  rcases hrun T hT XS with ⟨v, st₀, t, T', L, h0, X', hL, e1, e2, ⟨rv9, w, ho, ⟨hv, hP1, -, hD1⟩, hFr⟩, stp⟩ | ⟨q, st₀, t, T', L, E, ce, h0, X', hL, e1, e2, ⟨ho, ⟨hP1, -, hD1⟩, hFr⟩, hce, hcv, hcl, stp⟩
  · obtain rfl : v = rv9 := by cases hv; rfl
    obtain ⟨k1, k2, k3⟩ := vx_keep h0 e1 hS (fun q _ h => hF q h) hF hL hFr
    obtain ⟨g1, g2⟩ := bk_call hP hD k2 hF (by rw [e1]; exact hP1) hD1
    obtain ⟨t2, a1, b1⟩ := kk v w T'.heap (locs ++ L) ho ⟨g1, g2, k3⟩ T' rfl X'
    exact ⟨t2, stp t2 a1, b1⟩
  · obtain ⟨k1, k2, k3⟩ := vx_keep h0 e1 hS (fun q _ h => hF q h) hF hL hFr
    obtain ⟨g1, g2⟩ := bk_call hP hD k2 hF (by rw [e1]; exact hP1) hD1
    obtain ⟨t2, a1, b1⟩ := kx E T'.heap (locs ++ L) ce q ho (Wd.perm hsp.symm ⟨g1, g2, k3⟩) (by rw [e1]; exact hce) hcv hcl T' rfl X'
    exact ⟨t2, stp.trans a1, b1⟩
end LAWS
abbrev rmL_load : Room := { frames := 8, cells := 1, slots := 6, locals := 179 }
set_option maxRecDepth 100000 in
set_option maxHeartbeats 4000000 in
theorem kL_load (l : Launch) (hst : l.stackTraces = false) (Dd : va_G) (Y : yT) (cL : ClassId) (ad : Nat → Nat → Nat) (q : Nat) (V : gX) (fo : Nat → Int64) (x1 : Int32) (o : oX (Int32 × gX)) (hd : dnX4_load V x1 = some o) (hE : ∀ E, o = .inl E → E ∈ (["java/lang/IllegalArgumentException"] : List String)) : ML l yL_load wsL_load rmL_load Dd Y cL [.ref (ad 0 0), .int x1, .ref q] (WQ Y ad q cL V fo) (WQ Y ad q cL (lwS ["java/lang/IllegalArgumentException"] V fo o).2.1 (lwS ["java/lang/IllegalArgumentException"] V fo o).2.2) (lwS ["java/lang/IllegalArgumentException"] V fo o).1 1 6 := by
  refine MLk (cc := cL_load) (maxL := 4) (hh := [(0, 9, 12, 13)]) (by decide) rfl (Nat.le_of_ble_eq_true rfl) rfl rfl (fun {p e s m args below meth c A} ls Q X hKL ht hW hl hI => ?_)
  have hx := X.x
  have hb := X.b
  have hl : lv_has ls 4 [(0, .ref (ad 0 0)), (1, .int x1), (2, .ref q)] := hl
  refine lv_aload_n hx hb dL_load_0 rfl (lv_at hl 2 rfl) ?_
  refine lv_iconst (v := 0) hx hb dL_load_1 (by decide) ?_
  refine lv_aload_n hx hb dL_load_2 rfl (lv_at hl 0 rfl) ?_
  refine lv_iload_n hx hb dL_load_3 rfl (lv_at hl 1 rfl) ?_
  refine xVm_ (As := [.int x1]) (rest := [.int 0, .ref q]) (wc := WX Y ad V) (post := [(q, .inl (cL, 1, .inr (.inl fo)))]) X (kX4_load l hst Dd Y ad V x1 o hd) (cwV 1 X.1.2.2.2.2 gL_load_X4_load rfl rfl rfl (by decide +kernel) ⟨(Nat.le_of_ble_eq_true rfl), (Nat.le_of_ble_eq_true rfl)⟩) hW (List.Perm.refl _) 0 4 rfl rfl rfl rfl hl.1 rfl (Nat.le_of_ble_eq_true rfl) dL_load_4 ⟨(Nat.le_of_ble_eq_true rfl), (Nat.le_of_ble_eq_true rfl)⟩ (fun E H locs ce q9 ho hW g1 g2 g3 => ?_) (fun rv w H locs ho hW => ?_)
  · cases o with
    | inr r => cases ho
    | inl E2 =>
      have ho : (.inl E2 : oW) = .inl E := ho
      cases ho
      have hm := hE E rfl
      simp only [List.mem_cons, List.not_mem_nil, or_false] at hm
      rcases hm with rfl
      · refine vx_catch X.1.2.2.2.1 ([] : List ExceptionTableEntry) ⟨0, 9, 12, 13⟩ [] (by rw [ht]; rfl) (fun z hz => by cases hz) (by decide) (by decide) (X.w (i := 1) rfl) (va_Nw.use rfl (X.2.2.2.1.2.2.2.2.1 _ (by decide))) g1 g2 g3 ?_
        refine lv_astore_n (lv' := [(3, .ref q9), (0, .ref (ad 0 0)), (1, .int x1), (2, .ref q)]) hx hb dL_load_12 rfl hl (by decide) rfl (fun ls hl => ?_)
        refine lv_iconst (v := 1) hx hb dL_load_13 (by decide) ?_
        exact hI _ _ _ _ _ _ rfl (Nat.le_of_ble_eq_true rfl) (Nat.le_of_ble_eq_true rfl) hW dL_load_14
  · cases o with
    | inl E => cases ho
    | inr r =>
      have ho : (.inr (some (.int r.1), WX Y ad r.2) : oW) = .inr (rv, w) := ho
      cases ho
      refine W.eq (g2 := F0 m 7 ls [.int r.1, .int 0, .ref q]) rfl ?_
      refine lv_i2l (v := r.1.toInt64) hx hb dL_load_7 rfl ?_
      refine lst_ X hKL hW 65 rfl dL_load_8 (ws' := WQ Y ad q cL r.2 (vp_updL fo 0 r.1.toInt64)) rfl (fun H locs hW => ?_)
      refine lv_goto (tgt := 15) hx hb dL_load_9 (by decide) ?_
      refine lv_iconst (v := 0) hx hb dL_load_15 (by decide) ?_
      exact hI _ _ _ _ _ _ rfl (Nat.le_of_ble_eq_true rfl) (Nat.le_of_ble_eq_true rfl) hW dL_load_16
abbrev rmL_state : Room := { frames := 7, cells := 1, slots := 6, locals := 111 }
set_option maxRecDepth 100000 in
set_option maxHeartbeats 4000000 in
theorem kL_state (l : Launch) (hst : l.stackTraces = false) (Dd : va_G) (Y : yT) (cL : ClassId) (ad : Nat → Nat → Nat) (q : Nat) (V : gX) (fo : Nat → Int64) (x1 : Int32) (o : oX Int32) (hd : dnX4_state V x1 = some o) (hE : ∀ E, o = .inl E → E ∈ (["java/lang/IllegalArgumentException"] : List String)) : ML l yL_state wsL_state rmL_state Dd Y cL [.ref (ad 0 0), .int x1, .ref q] (WQ Y ad q cL V fo) (WQ Y ad q cL (lwI ["java/lang/IllegalArgumentException"] V fo o).2.1 (lwI ["java/lang/IllegalArgumentException"] V fo o).2.2) (lwI ["java/lang/IllegalArgumentException"] V fo o).1 1 6 := by
  refine MLk (cc := cL_state) (maxL := 4) (hh := [(0, 9, 12, 13)]) (by decide) rfl (Nat.le_of_ble_eq_true rfl) rfl rfl (fun {p e s m args below meth c A} ls Q X hKL ht hW hl hI => ?_)
  have hx := X.x
  have hb := X.b
  have hl : lv_has ls 4 [(0, .ref (ad 0 0)), (1, .int x1), (2, .ref q)] := hl
  refine lv_aload_n hx hb dL_state_0 rfl (lv_at hl 2 rfl) ?_
  refine lv_iconst (v := 0) hx hb dL_state_1 (by decide) ?_
  refine lv_aload_n hx hb dL_state_2 rfl (lv_at hl 0 rfl) ?_
  refine lv_iload_n hx hb dL_state_3 rfl (lv_at hl 1 rfl) ?_
  refine xVm_ (As := [.int x1]) (rest := [.int 0, .ref q]) (wc := WX Y ad V) (post := [(q, .inl (cL, 1, .inr (.inl fo)))]) X (kX4_state l hst Dd Y ad V x1 o hd) (cwV 1 X.1.2.2.2.2 gL_state_X4_state rfl rfl rfl (by decide +kernel) ⟨(Nat.le_of_ble_eq_true rfl), (Nat.le_of_ble_eq_true rfl)⟩) hW (List.Perm.refl _) 0 4 rfl rfl rfl rfl hl.1 rfl (Nat.le_of_ble_eq_true rfl) dL_state_4 ⟨(Nat.le_of_ble_eq_true rfl), (Nat.le_of_ble_eq_true rfl)⟩ (fun E H locs ce q9 ho hW g1 g2 g3 => ?_) (fun rv w H locs ho hW => ?_)
  · cases o with
    | inr r => cases ho
    | inl E2 =>
      have ho : (.inl E2 : oW) = .inl E := ho
      cases ho
      have hm := hE E rfl
      simp only [List.mem_cons, List.not_mem_nil, or_false] at hm
      rcases hm with rfl
      · refine vx_catch X.1.2.2.2.1 ([] : List ExceptionTableEntry) ⟨0, 9, 12, 13⟩ [] (by rw [ht]; rfl) (fun z hz => by cases hz) (by decide) (by decide) (X.w (i := 1) rfl) (va_Nw.use rfl (X.2.2.2.1.2.2.2.2.1 _ (by decide))) g1 g2 g3 ?_
        refine lv_astore_n (lv' := [(3, .ref q9), (0, .ref (ad 0 0)), (1, .int x1), (2, .ref q)]) hx hb dL_state_12 rfl hl (by decide) rfl (fun ls hl => ?_)
        refine lv_iconst (v := 1) hx hb dL_state_13 (by decide) ?_
        exact hI _ _ _ _ _ _ rfl (Nat.le_of_ble_eq_true rfl) (Nat.le_of_ble_eq_true rfl) hW dL_state_14
  · cases o with
    | inl E => cases ho
    | inr r =>
      have ho : (.inr (some (.int r), WX Y ad V) : oW) = .inr (rv, w) := ho
      cases ho
      refine W.eq (g2 := F0 m 7 ls [.int r, .int 0, .ref q]) rfl ?_
      refine lv_i2l (v := r.toInt64) hx hb dL_state_7 rfl ?_
      refine lst_ X hKL hW 65 rfl dL_state_8 (ws' := WQ Y ad q cL V (vp_updL fo 0 r.toInt64)) rfl (fun H locs hW => ?_)
      refine lv_goto (tgt := 15) hx hb dL_state_9 (by decide) ?_
      refine lv_iconst (v := 0) hx hb dL_state_15 (by decide) ?_
      exact hI _ _ _ _ _ _ rfl (Nat.le_of_ble_eq_true rfl) (Nat.le_of_ble_eq_true rfl) hW dL_state_16
abbrev rmL_value : Room := { frames := 8, cells := 1, slots := 6, locals := 132 }
set_option maxRecDepth 100000 in
set_option maxHeartbeats 4000000 in
theorem kL_value (l : Launch) (hst : l.stackTraces = false) (Dd : va_G) (Y : yT) (cL : ClassId) (ad : Nat → Nat → Nat) (q : Nat) (V : gX) (fo : Nat → Int64) (x1 : Int32) (o : oX Int32) (hd : dnX4_value V x1 = some o) (hE : ∀ E, o = .inl E → E ∈ (["java/lang/IndexOutOfBoundsException"] : List String)) : ML l yL_value wsL_value rmL_value Dd Y cL [.ref (ad 0 0), .int x1, .ref q] (WQ Y ad q cL V fo) (WQ Y ad q cL (lwI ["java/lang/IndexOutOfBoundsException"] V fo o).2.1 (lwI ["java/lang/IndexOutOfBoundsException"] V fo o).2.2) (lwI ["java/lang/IndexOutOfBoundsException"] V fo o).1 1 6 := by
  refine MLk (cc := cL_value) (maxL := 4) (hh := [(0, 9, 12, 21)]) (by decide) rfl (Nat.le_of_ble_eq_true rfl) rfl rfl (fun {p e s m args below meth c A} ls Q X hKL ht hW hl hI => ?_)
  have hx := X.x
  have hb := X.b
  have hl : lv_has ls 4 [(0, .ref (ad 0 0)), (1, .int x1), (2, .ref q)] := hl
  refine lv_aload_n hx hb dL_value_0 rfl (lv_at hl 2 rfl) ?_
  refine lv_iconst (v := 0) hx hb dL_value_1 (by decide) ?_
  refine lv_aload_n hx hb dL_value_2 rfl (lv_at hl 0 rfl) ?_
  refine lv_iload_n hx hb dL_value_3 rfl (lv_at hl 1 rfl) ?_
  refine xVm_ (As := [.int x1]) (rest := [.int 0, .ref q]) (wc := WX Y ad V) (post := [(q, .inl (cL, 1, .inr (.inl fo)))]) X (kX4_value l hst Dd Y ad V x1 o hd) (cwV 1 X.1.2.2.2.2 gL_value_X4_value rfl rfl rfl (by decide +kernel) ⟨(Nat.le_of_ble_eq_true rfl), (Nat.le_of_ble_eq_true rfl)⟩) hW (List.Perm.refl _) 0 4 rfl rfl rfl rfl hl.1 rfl (Nat.le_of_ble_eq_true rfl) dL_value_4 ⟨(Nat.le_of_ble_eq_true rfl), (Nat.le_of_ble_eq_true rfl)⟩ (fun E H locs ce q9 ho hW g1 g2 g3 => ?_) (fun rv w H locs ho hW => ?_)
  · cases o with
    | inr r => cases ho
    | inl E2 =>
      have ho : (.inl E2 : oW) = .inl E := ho
      cases ho
      have hm := hE E rfl
      simp only [List.mem_cons, List.not_mem_nil, or_false] at hm
      rcases hm with rfl
      · refine vx_catch X.1.2.2.2.1 ([] : List ExceptionTableEntry) ⟨0, 9, 12, 21⟩ [] (by rw [ht]; rfl) (fun z hz => by cases hz) (by decide) (by decide) (X.w (i := 1) rfl) (va_Nw.use rfl (X.2.2.2.1.2.2.2.2.1 _ (by decide))) g1 g2 g3 ?_
        refine lv_astore_n (lv' := [(3, .ref q9), (0, .ref (ad 0 0)), (1, .int x1), (2, .ref q)]) hx hb dL_value_12 rfl hl (by decide) rfl (fun ls hl => ?_)
        refine lv_iconst (v := 1) hx hb dL_value_13 (by decide) ?_
        exact hI _ _ _ _ _ _ rfl (Nat.le_of_ble_eq_true rfl) (Nat.le_of_ble_eq_true rfl) hW dL_value_14
  · cases o with
    | inl E => cases ho
    | inr r =>
      have ho : (.inr (some (.int r), WX Y ad V) : oW) = .inr (rv, w) := ho
      cases ho
      refine W.eq (g2 := F0 m 7 ls [.int r, .int 0, .ref q]) rfl ?_
      refine lv_i2l (v := r.toInt64) hx hb dL_value_7 rfl ?_
      refine lst_ X hKL hW 65 rfl dL_value_8 (ws' := WQ Y ad q cL V (vp_updL fo 0 r.toInt64)) rfl (fun H locs hW => ?_)
      refine lv_goto (tgt := 15) hx hb dL_value_9 (by decide) ?_
      refine lv_iconst (v := 0) hx hb dL_value_15 (by decide) ?_
      exact hI _ _ _ _ _ _ rfl (Nat.le_of_ble_eq_true rfl) (Nat.le_of_ble_eq_true rfl) hW dL_value_16
abbrev rmL_cell : Room := { frames := 8, cells := 2, slots := 12, locals := 133 }
set_option maxRecDepth 100000 in
set_option maxHeartbeats 4000000 in
theorem kL_cell (l : Launch) (hst : l.stackTraces = false) (Dd : va_G) (Y : yT) (cL : ClassId) (ad : Nat → Nat → Nat) (q : Nat) (V : gX) (fo : Nat → Int64) (x1 : Int32) (x2 : Int32) (o : oX Int32) (hd : dnX4_cell V x1 x2 = some o) (hE : ∀ E, o = .inl E → E ∈ (["java/lang/IndexOutOfBoundsException", "java/util/NoSuchElementException"] : List String)) : ML l yL_cell wsL_cell rmL_cell Dd Y cL [.ref (ad 0 0), .int x1, .int x2, .ref q] (WQ Y ad q cL V fo) (WQ Y ad q cL (lwI ["java/lang/IndexOutOfBoundsException", "java/util/NoSuchElementException"] V fo o).2.1 (lwI ["java/lang/IndexOutOfBoundsException", "java/util/NoSuchElementException"] V fo o).2.2) (lwI ["java/lang/IndexOutOfBoundsException", "java/util/NoSuchElementException"] V fo o).1 2 12 := by
  refine MLk (cc := cL_cell) (maxL := 5) (hh := [(0, 10, 13, 21), (0, 10, 17, 27)]) (by decide) rfl (Nat.le_of_ble_eq_true rfl) rfl rfl (fun {p e s m args below meth c A} ls Q X hKL ht hW hl hI => ?_)
  have hx := X.x
  have hb := X.b
  have hl : lv_has ls 5 [(0, .ref (ad 0 0)), (1, .int x1), (2, .int x2), (3, .ref q)] := hl
  refine lv_aload_n hx hb dL_cell_0 rfl (lv_at hl 3 rfl) ?_
  refine lv_iconst (v := 0) hx hb dL_cell_1 (by decide) ?_
  refine lv_aload_n hx hb dL_cell_2 rfl (lv_at hl 0 rfl) ?_
  refine lv_iload_n hx hb dL_cell_3 rfl (lv_at hl 1 rfl) ?_
  refine lv_iload_n hx hb dL_cell_4 rfl (lv_at hl 2 rfl) ?_
  refine xVm_ (As := [.int x1, .int x2]) (rest := [.int 0, .ref q]) (wc := WX Y ad V) (post := [(q, .inl (cL, 1, .inr (.inl fo)))]) X (kX4_cell l hst Dd Y ad V x1 x2 o hd) (cwV 2 X.1.2.2.2.2 gL_cell_X4_cell rfl rfl rfl (by decide +kernel) ⟨(Nat.le_of_ble_eq_true rfl), (Nat.le_of_ble_eq_true rfl)⟩) hW (List.Perm.refl _) 0 4 rfl rfl rfl rfl hl.1 rfl (Nat.le_of_ble_eq_true rfl) dL_cell_5 ⟨(Nat.le_of_ble_eq_true rfl), (Nat.le_of_ble_eq_true rfl)⟩ (fun E H locs ce q9 ho hW g1 g2 g3 => ?_) (fun rv w H locs ho hW => ?_)
  · cases o with
    | inr r => cases ho
    | inl E2 =>
      have ho : (.inl E2 : oW) = .inl E := ho
      cases ho
      have hm := hE E rfl
      simp only [List.mem_cons, List.not_mem_nil, or_false] at hm
      rcases hm with rfl | rfl
      · refine vx_catch X.1.2.2.2.1 ([] : List ExceptionTableEntry) ⟨0, 10, 13, 21⟩ [⟨0, 10, 17, 27⟩] (by rw [ht]; rfl) (fun z hz => by cases hz) (by decide) (by decide) (X.w (i := 1) rfl) (va_Nw.use rfl (X.2.2.2.1.2.2.2.2.1 _ (by decide))) g1 g2 g3 ?_
        refine lv_astore (lv' := [(4, .ref q9), (0, .ref (ad 0 0)), (1, .int x1), (2, .int x2), (3, .ref q)]) hx hb dL_cell_13 hl (by decide) rfl (fun ls hl => ?_)
        refine lv_iconst (v := 1) hx hb dL_cell_15 (by decide) ?_
        exact hI _ _ _ _ _ _ rfl (Nat.le_of_ble_eq_true rfl) (Nat.le_of_ble_eq_true rfl) hW dL_cell_16
      · refine vx_catch X.1.2.2.2.1 ([⟨0, 10, 13, 21⟩] : List ExceptionTableEntry) ⟨0, 10, 17, 27⟩ [] (by rw [ht]; rfl) (fun z hz => by
            simp only [List.mem_cons, List.not_mem_nil, or_false] at hz
            rcases hz with rfl
            · exact Or.inr ⟨by decide, "java/lang/IndexOutOfBoundsException", X.w (i := 1) rfl, X.2.2.2.1.2.2.2.2.2.1 _ (by decide) _ (by decide) (by decide)⟩) (by decide) (by decide) (X.w (i := 2) rfl) (va_Nw.use rfl (X.2.2.2.1.2.2.2.2.1 _ (by decide))) g1 g2 g3 ?_
        refine lv_astore (lv' := [(4, .ref q9), (0, .ref (ad 0 0)), (1, .int x1), (2, .int x2), (3, .ref q)]) hx hb dL_cell_17 hl (by decide) rfl (fun ls hl => ?_)
        refine lv_iconst (v := 2) hx hb dL_cell_19 (by decide) ?_
        exact hI _ _ _ _ _ _ rfl (Nat.le_of_ble_eq_true rfl) (Nat.le_of_ble_eq_true rfl) hW dL_cell_20
  · cases o with
    | inl E => cases ho
    | inr r =>
      have ho : (.inr (some (.int r), WX Y ad V) : oW) = .inr (rv, w) := ho
      cases ho
      refine W.eq (g2 := F0 m 8 ls [.int r, .int 0, .ref q]) rfl ?_
      refine lv_i2l (v := r.toInt64) hx hb dL_cell_8 rfl ?_
      refine lst_ X hKL hW 65 rfl dL_cell_9 (ws' := WQ Y ad q cL V (vp_updL fo 0 r.toInt64)) rfl (fun H locs hW => ?_)
      refine lv_goto (tgt := 21) hx hb dL_cell_10 (by decide) ?_
      refine lv_iconst (v := 0) hx hb dL_cell_21 (by decide) ?_
      exact hI _ _ _ _ _ _ rfl (Nat.le_of_ble_eq_true rfl) (Nat.le_of_ble_eq_true rfl) hW dL_cell_22
abbrev rmL_waits : Room := { frames := 8, cells := 1, slots := 6, locals := 132 }
set_option maxRecDepth 100000 in
set_option maxHeartbeats 4000000 in
theorem kL_waits (l : Launch) (hst : l.stackTraces = false) (Dd : va_G) (Y : yT) (cL : ClassId) (ad : Nat → Nat → Nat) (q : Nat) (V : gX) (fo : Nat → Int64) (x1 : Int32) (o : oX Int32) (hd : dnX4_waits V x1 = some o) (hE : ∀ E, o = .inl E → E ∈ (["java/lang/IndexOutOfBoundsException"] : List String)) : ML l yL_waits wsL_waits rmL_waits Dd Y cL [.ref (ad 0 0), .int x1, .ref q] (WQ Y ad q cL V fo) (WQ Y ad q cL (lwW ["java/lang/IndexOutOfBoundsException"] V fo o).2.1 (lwW ["java/lang/IndexOutOfBoundsException"] V fo o).2.2) (lwW ["java/lang/IndexOutOfBoundsException"] V fo o).1 1 6 := by
  refine MLk (cc := cL_waits) (maxL := 4) (hh := [(0, 16, 19, 21)]) (by decide) rfl (Nat.le_of_ble_eq_true rfl) rfl rfl (fun {p e s m args below meth c A} ls Q X hKL ht hW hl hI => ?_)
  have hx := X.x
  have hb := X.b
  have hl : lv_has ls 4 [(0, .ref (ad 0 0)), (1, .int x1), (2, .ref q)] := hl
  refine lv_aload_n hx hb dL_waits_0 rfl (lv_at hl 2 rfl) ?_
  refine lv_iconst (v := 0) hx hb dL_waits_1 (by decide) ?_
  refine lv_aload_n hx hb dL_waits_2 rfl (lv_at hl 0 rfl) ?_
  refine lv_iload_n hx hb dL_waits_3 rfl (lv_at hl 1 rfl) ?_
  refine xVm_ (As := [.int x1]) (rest := [.int 0, .ref q]) (wc := WX Y ad V) (post := [(q, .inl (cL, 1, .inr (.inl fo)))]) X (kX4_waits l hst Dd Y ad V x1 o hd) (cwV 1 X.1.2.2.2.2 gL_waits_X4_waits rfl rfl rfl (by decide +kernel) ⟨(Nat.le_of_ble_eq_true rfl), (Nat.le_of_ble_eq_true rfl)⟩) hW (List.Perm.refl _) 0 4 rfl rfl rfl rfl hl.1 rfl (Nat.le_of_ble_eq_true rfl) dL_waits_4 ⟨(Nat.le_of_ble_eq_true rfl), (Nat.le_of_ble_eq_true rfl)⟩ (fun E H locs ce q9 ho hW g1 g2 g3 => ?_) (fun rv w H locs ho hW => ?_)
  · cases o with
    | inr r => cases ho
    | inl E2 =>
      have ho : (.inl E2 : oW) = .inl E := ho
      cases ho
      have hm := hE E rfl
      simp only [List.mem_cons, List.not_mem_nil, or_false] at hm
      rcases hm with rfl
      · refine vx_catch X.1.2.2.2.1 ([] : List ExceptionTableEntry) ⟨0, 16, 19, 21⟩ [] (by rw [ht]; rfl) (fun z hz => by cases hz) (by decide) (by decide) (X.w (i := 1) rfl) (va_Nw.use rfl (X.2.2.2.1.2.2.2.2.1 _ (by decide))) g1 g2 g3 ?_
        refine lv_astore_n (lv' := [(3, .ref q9), (0, .ref (ad 0 0)), (1, .int x1), (2, .ref q)]) hx hb dL_waits_19 rfl hl (by decide) rfl (fun ls hl => ?_)
        refine lv_iconst (v := 1) hx hb dL_waits_20 (by decide) ?_
        exact hI _ _ _ _ _ _ rfl (Nat.le_of_ble_eq_true rfl) (Nat.le_of_ble_eq_true rfl) hW dL_waits_21
  · cases o with
    | inl E => cases ho
    | inr r =>
      have ho : (.inr (some (.int r), WX Y ad V) : oW) = .inr (rv, w) := ho
      cases ho
      refine W.eq (g2 := F0 m 7 ls [.int r, .int 0, .ref q]) rfl ?_
      refine lv_if_eq (tgt := 14) hx hb dL_waits_7 (by decide) (fun hz => ?_) (fun hz => ?_)
      · refine lv_lconst (v := 0) hx hb dL_waits_14 (by decide) ?_
        refine lst_ X hKL hW 65 rfl dL_waits_15 (ws' := WQ Y ad q cL V (vp_updL fo 0 0)) rfl (fun H locs hW => ?_)
        refine lv_goto (tgt := 22) hx hb dL_waits_16 (by decide) ?_
        refine lv_iconst (v := 0) hx hb dL_waits_22 (by decide) ?_
        exact hI _ _ _ _ _ _ rfl (Nat.le_of_ble_eq_true rfl) (Nat.le_of_ble_eq_true rfl) (by simp only [lwW, if_pos hz]; exact hW) dL_waits_23
      · refine lv_lconst (v := 1) hx hb dL_waits_10 (by decide) ?_
        refine lv_goto (tgt := 15) hx hb dL_waits_11 (by decide) ?_
        refine lst_ X hKL hW 65 rfl dL_waits_15 (ws' := WQ Y ad q cL V (vp_updL fo 0 1)) rfl (fun H locs hW => ?_)
        refine lv_goto (tgt := 22) hx hb dL_waits_16 (by decide) ?_
        refine lv_iconst (v := 0) hx hb dL_waits_22 (by decide) ?_
        exact hI _ _ _ _ _ _ rfl (Nat.le_of_ble_eq_true rfl) (Nat.le_of_ble_eq_true rfl) (by simp only [lwW, if_neg hz]; exact hW) dL_waits_23
abbrev rmL_least : Room := { frames := 9, cells := 3, slots := 18, locals := 155 }
set_option maxRecDepth 100000 in
set_option maxHeartbeats 4000000 in
theorem kL_least (l : Launch) (hst : l.stackTraces = false) (Dd : va_G) (Y : yT) (cL : ClassId) (ad : Nat → Nat → Nat) (q : Nat) (V : gX) (fo : Nat → Int64) (x1 : Int32) (x2 : Int32) (o : oX Int32) (hd : dnX4_least V x1 x2 = some o) (hE : ∀ E, o = .inl E → E ∈ (["java/lang/IndexOutOfBoundsException", "java/lang/IllegalArgumentException"] : List String)) : ML l yL_least wsL_least rmL_least Dd Y cL [.ref (ad 0 0), .int x1, .int x2, .ref q] (WQ Y ad q cL V fo) (WQ Y ad q cL (lwI ["java/lang/IndexOutOfBoundsException", "java/lang/IllegalArgumentException"] V fo o).2.1 (lwI ["java/lang/IndexOutOfBoundsException", "java/lang/IllegalArgumentException"] V fo o).2.2) (lwI ["java/lang/IndexOutOfBoundsException", "java/lang/IllegalArgumentException"] V fo o).1 3 18 := by
  refine MLk (cc := cL_least) (maxL := 5) (hh := [(0, 10, 13, 21), (0, 10, 17, 13)]) (by decide) rfl (Nat.le_of_ble_eq_true rfl) rfl rfl (fun {p e s m args below meth c A} ls Q X hKL ht hW hl hI => ?_)
  have hx := X.x
  have hb := X.b
  have hl : lv_has ls 5 [(0, .ref (ad 0 0)), (1, .int x1), (2, .int x2), (3, .ref q)] := hl
  refine lv_aload_n hx hb dL_least_0 rfl (lv_at hl 3 rfl) ?_
  refine lv_iconst (v := 0) hx hb dL_least_1 (by decide) ?_
  refine lv_aload_n hx hb dL_least_2 rfl (lv_at hl 0 rfl) ?_
  refine lv_iload_n hx hb dL_least_3 rfl (lv_at hl 1 rfl) ?_
  refine lv_iload_n hx hb dL_least_4 rfl (lv_at hl 2 rfl) ?_
  refine xVm_ (As := [.int x1, .int x2]) (rest := [.int 0, .ref q]) (wc := WX Y ad V) (post := [(q, .inl (cL, 1, .inr (.inl fo)))]) X (kX4_least l hst Dd Y ad V x1 x2 o hd) (cwV 2 X.1.2.2.2.2 gL_least_X4_least rfl rfl rfl (by decide +kernel) ⟨(Nat.le_of_ble_eq_true rfl), (Nat.le_of_ble_eq_true rfl)⟩) hW (List.Perm.refl _) 0 4 rfl rfl rfl rfl hl.1 rfl (Nat.le_of_ble_eq_true rfl) dL_least_5 ⟨(Nat.le_of_ble_eq_true rfl), (Nat.le_of_ble_eq_true rfl)⟩ (fun E H locs ce q9 ho hW g1 g2 g3 => ?_) (fun rv w H locs ho hW => ?_)
  · cases o with
    | inr r => cases ho
    | inl E2 =>
      have ho : (.inl E2 : oW) = .inl E := ho
      cases ho
      have hm := hE E rfl
      simp only [List.mem_cons, List.not_mem_nil, or_false] at hm
      rcases hm with rfl | rfl
      · refine vx_catch X.1.2.2.2.1 ([] : List ExceptionTableEntry) ⟨0, 10, 13, 21⟩ [⟨0, 10, 17, 13⟩] (by rw [ht]; rfl) (fun z hz => by cases hz) (by decide) (by decide) (X.w (i := 1) rfl) (va_Nw.use rfl (X.2.2.2.1.2.2.2.2.1 _ (by decide))) g1 g2 g3 ?_
        refine lv_astore (lv' := [(4, .ref q9), (0, .ref (ad 0 0)), (1, .int x1), (2, .int x2), (3, .ref q)]) hx hb dL_least_13 hl (by decide) rfl (fun ls hl => ?_)
        refine lv_iconst (v := 1) hx hb dL_least_15 (by decide) ?_
        exact hI _ _ _ _ _ _ rfl (Nat.le_of_ble_eq_true rfl) (Nat.le_of_ble_eq_true rfl) hW dL_least_16
      · refine vx_catch X.1.2.2.2.1 ([⟨0, 10, 13, 21⟩] : List ExceptionTableEntry) ⟨0, 10, 17, 13⟩ [] (by rw [ht]; rfl) (fun z hz => by
            simp only [List.mem_cons, List.not_mem_nil, or_false] at hz
            rcases hz with rfl
            · exact Or.inr ⟨by decide, "java/lang/IndexOutOfBoundsException", X.w (i := 1) rfl, X.2.2.2.1.2.2.2.2.2.1 _ (by decide) _ (by decide) (by decide)⟩) (by decide) (by decide) (X.w (i := 2) rfl) (va_Nw.use rfl (X.2.2.2.1.2.2.2.2.1 _ (by decide))) g1 g2 g3 ?_
        refine lv_astore (lv' := [(4, .ref q9), (0, .ref (ad 0 0)), (1, .int x1), (2, .int x2), (3, .ref q)]) hx hb dL_least_17 hl (by decide) rfl (fun ls hl => ?_)
        refine lv_iconst (v := 2) hx hb dL_least_19 (by decide) ?_
        exact hI _ _ _ _ _ _ rfl (Nat.le_of_ble_eq_true rfl) (Nat.le_of_ble_eq_true rfl) hW dL_least_20
  · cases o with
    | inl E => cases ho
    | inr r =>
      have ho : (.inr (some (.int r), WX Y ad V) : oW) = .inr (rv, w) := ho
      cases ho
      refine W.eq (g2 := F0 m 8 ls [.int r, .int 0, .ref q]) rfl ?_
      refine lv_i2l (v := r.toInt64) hx hb dL_least_8 rfl ?_
      refine lst_ X hKL hW 65 rfl dL_least_9 (ws' := WQ Y ad q cL V (vp_updL fo 0 r.toInt64)) rfl (fun H locs hW => ?_)
      refine lv_goto (tgt := 21) hx hb dL_least_10 (by decide) ?_
      refine lv_iconst (v := 0) hx hb dL_least_21 (by decide) ?_
      exact hI _ _ _ _ _ _ rfl (Nat.le_of_ble_eq_true rfl) (Nat.le_of_ble_eq_true rfl) hW dL_least_22
abbrev rmL_looks : Room := { frames := 9, cells := 3, slots := 18, locals := 155 }
set_option maxRecDepth 100000 in
set_option maxHeartbeats 4000000 in
theorem kL_looks (l : Launch) (hst : l.stackTraces = false) (Dd : va_G) (Y : yT) (cL : ClassId) (ad : Nat → Nat → Nat) (q : Nat) (V : gX) (fo : Nat → Int64) (x1 : Int32) (x2 : Int32) (o : oX Int32) (hd : dnX4_looks V x1 x2 = some o) (hE : ∀ E, o = .inl E → E ∈ (["java/lang/IndexOutOfBoundsException", "java/lang/IllegalArgumentException"] : List String)) : ML l yL_looks wsL_looks rmL_looks Dd Y cL [.ref (ad 0 0), .int x1, .int x2, .ref q] (WQ Y ad q cL V fo) (WQ Y ad q cL (lwI ["java/lang/IndexOutOfBoundsException", "java/lang/IllegalArgumentException"] V fo o).2.1 (lwI ["java/lang/IndexOutOfBoundsException", "java/lang/IllegalArgumentException"] V fo o).2.2) (lwI ["java/lang/IndexOutOfBoundsException", "java/lang/IllegalArgumentException"] V fo o).1 3 18 := by
  refine MLk (cc := cL_looks) (maxL := 5) (hh := [(0, 10, 13, 21), (0, 10, 17, 13)]) (by decide) rfl (Nat.le_of_ble_eq_true rfl) rfl rfl (fun {p e s m args below meth c A} ls Q X hKL ht hW hl hI => ?_)
  have hx := X.x
  have hb := X.b
  have hl : lv_has ls 5 [(0, .ref (ad 0 0)), (1, .int x1), (2, .int x2), (3, .ref q)] := hl
  refine lv_aload_n hx hb dL_looks_0 rfl (lv_at hl 3 rfl) ?_
  refine lv_iconst (v := 0) hx hb dL_looks_1 (by decide) ?_
  refine lv_aload_n hx hb dL_looks_2 rfl (lv_at hl 0 rfl) ?_
  refine lv_iload_n hx hb dL_looks_3 rfl (lv_at hl 1 rfl) ?_
  refine lv_iload_n hx hb dL_looks_4 rfl (lv_at hl 2 rfl) ?_
  refine xVm_ (As := [.int x1, .int x2]) (rest := [.int 0, .ref q]) (wc := WX Y ad V) (post := [(q, .inl (cL, 1, .inr (.inl fo)))]) X (kX4_looks l hst Dd Y ad V x1 x2 o hd) (cwV 2 X.1.2.2.2.2 gL_looks_X4_looks rfl rfl rfl (by decide +kernel) ⟨(Nat.le_of_ble_eq_true rfl), (Nat.le_of_ble_eq_true rfl)⟩) hW (List.Perm.refl _) 0 4 rfl rfl rfl rfl hl.1 rfl (Nat.le_of_ble_eq_true rfl) dL_looks_5 ⟨(Nat.le_of_ble_eq_true rfl), (Nat.le_of_ble_eq_true rfl)⟩ (fun E H locs ce q9 ho hW g1 g2 g3 => ?_) (fun rv w H locs ho hW => ?_)
  · cases o with
    | inr r => cases ho
    | inl E2 =>
      have ho : (.inl E2 : oW) = .inl E := ho
      cases ho
      have hm := hE E rfl
      simp only [List.mem_cons, List.not_mem_nil, or_false] at hm
      rcases hm with rfl | rfl
      · refine vx_catch X.1.2.2.2.1 ([] : List ExceptionTableEntry) ⟨0, 10, 13, 21⟩ [⟨0, 10, 17, 13⟩] (by rw [ht]; rfl) (fun z hz => by cases hz) (by decide) (by decide) (X.w (i := 1) rfl) (va_Nw.use rfl (X.2.2.2.1.2.2.2.2.1 _ (by decide))) g1 g2 g3 ?_
        refine lv_astore (lv' := [(4, .ref q9), (0, .ref (ad 0 0)), (1, .int x1), (2, .int x2), (3, .ref q)]) hx hb dL_looks_13 hl (by decide) rfl (fun ls hl => ?_)
        refine lv_iconst (v := 1) hx hb dL_looks_15 (by decide) ?_
        exact hI _ _ _ _ _ _ rfl (Nat.le_of_ble_eq_true rfl) (Nat.le_of_ble_eq_true rfl) hW dL_looks_16
      · refine vx_catch X.1.2.2.2.1 ([⟨0, 10, 13, 21⟩] : List ExceptionTableEntry) ⟨0, 10, 17, 13⟩ [] (by rw [ht]; rfl) (fun z hz => by
            simp only [List.mem_cons, List.not_mem_nil, or_false] at hz
            rcases hz with rfl
            · exact Or.inr ⟨by decide, "java/lang/IndexOutOfBoundsException", X.w (i := 1) rfl, X.2.2.2.1.2.2.2.2.2.1 _ (by decide) _ (by decide) (by decide)⟩) (by decide) (by decide) (X.w (i := 2) rfl) (va_Nw.use rfl (X.2.2.2.1.2.2.2.2.1 _ (by decide))) g1 g2 g3 ?_
        refine lv_astore (lv' := [(4, .ref q9), (0, .ref (ad 0 0)), (1, .int x1), (2, .int x2), (3, .ref q)]) hx hb dL_looks_17 hl (by decide) rfl (fun ls hl => ?_)
        refine lv_iconst (v := 2) hx hb dL_looks_19 (by decide) ?_
        exact hI _ _ _ _ _ _ rfl (Nat.le_of_ble_eq_true rfl) (Nat.le_of_ble_eq_true rfl) hW dL_looks_20
  · cases o with
    | inl E => cases ho
    | inr r =>
      have ho : (.inr (some (.int r), WX Y ad V) : oW) = .inr (rv, w) := ho
      cases ho
      refine W.eq (g2 := F0 m 8 ls [.int r, .int 0, .ref q]) rfl ?_
      refine lv_i2l (v := r.toInt64) hx hb dL_looks_8 rfl ?_
      refine lst_ X hKL hW 65 rfl dL_looks_9 (ws' := WQ Y ad q cL V (vp_updL fo 0 r.toInt64)) rfl (fun H locs hW => ?_)
      refine lv_goto (tgt := 21) hx hb dL_looks_10 (by decide) ?_
      refine lv_iconst (v := 0) hx hb dL_looks_21 (by decide) ?_
      exact hI _ _ _ _ _ _ rfl (Nat.le_of_ble_eq_true rfl) (Nat.le_of_ble_eq_true rfl) hW dL_looks_22
abbrev rmL_above : Room := { frames := 8, cells := 1, slots := 6, locals := 132 }
set_option maxRecDepth 100000 in
set_option maxHeartbeats 4000000 in
theorem kL_above (l : Launch) (hst : l.stackTraces = false) (Dd : va_G) (Y : yT) (cL : ClassId) (ad : Nat → Nat → Nat) (q : Nat) (V : gX) (fo : Nat → Int64) (x1 : Int32) (o : oX Int32) (hd : dnX4_above V x1 = some o) (hE : ∀ E, o = .inl E → E ∈ (["java/lang/IndexOutOfBoundsException"] : List String)) : ML l yL_above wsL_above rmL_above Dd Y cL [.ref (ad 0 0), .int x1, .ref q] (WQ Y ad q cL V fo) (WQ Y ad q cL (lwI ["java/lang/IndexOutOfBoundsException"] V fo o).2.1 (lwI ["java/lang/IndexOutOfBoundsException"] V fo o).2.2) (lwI ["java/lang/IndexOutOfBoundsException"] V fo o).1 1 6 := by
  refine MLk (cc := cL_above) (maxL := 4) (hh := [(0, 9, 12, 21)]) (by decide) rfl (Nat.le_of_ble_eq_true rfl) rfl rfl (fun {p e s m args below meth c A} ls Q X hKL ht hW hl hI => ?_)
  have hx := X.x
  have hb := X.b
  have hl : lv_has ls 4 [(0, .ref (ad 0 0)), (1, .int x1), (2, .ref q)] := hl
  refine lv_aload_n hx hb dL_above_0 rfl (lv_at hl 2 rfl) ?_
  refine lv_iconst (v := 0) hx hb dL_above_1 (by decide) ?_
  refine lv_aload_n hx hb dL_above_2 rfl (lv_at hl 0 rfl) ?_
  refine lv_iload_n hx hb dL_above_3 rfl (lv_at hl 1 rfl) ?_
  refine xVm_ (As := [.int x1]) (rest := [.int 0, .ref q]) (wc := WX Y ad V) (post := [(q, .inl (cL, 1, .inr (.inl fo)))]) X (kX4_above l hst Dd Y ad V x1 o hd) (cwV 1 X.1.2.2.2.2 gL_above_X4_above rfl rfl rfl (by decide +kernel) ⟨(Nat.le_of_ble_eq_true rfl), (Nat.le_of_ble_eq_true rfl)⟩) hW (List.Perm.refl _) 0 4 rfl rfl rfl rfl hl.1 rfl (Nat.le_of_ble_eq_true rfl) dL_above_4 ⟨(Nat.le_of_ble_eq_true rfl), (Nat.le_of_ble_eq_true rfl)⟩ (fun E H locs ce q9 ho hW g1 g2 g3 => ?_) (fun rv w H locs ho hW => ?_)
  · cases o with
    | inr r => cases ho
    | inl E2 =>
      have ho : (.inl E2 : oW) = .inl E := ho
      cases ho
      have hm := hE E rfl
      simp only [List.mem_cons, List.not_mem_nil, or_false] at hm
      rcases hm with rfl
      · refine vx_catch X.1.2.2.2.1 ([] : List ExceptionTableEntry) ⟨0, 9, 12, 21⟩ [] (by rw [ht]; rfl) (fun z hz => by cases hz) (by decide) (by decide) (X.w (i := 1) rfl) (va_Nw.use rfl (X.2.2.2.1.2.2.2.2.1 _ (by decide))) g1 g2 g3 ?_
        refine lv_astore_n (lv' := [(3, .ref q9), (0, .ref (ad 0 0)), (1, .int x1), (2, .ref q)]) hx hb dL_above_12 rfl hl (by decide) rfl (fun ls hl => ?_)
        refine lv_iconst (v := 1) hx hb dL_above_13 (by decide) ?_
        exact hI _ _ _ _ _ _ rfl (Nat.le_of_ble_eq_true rfl) (Nat.le_of_ble_eq_true rfl) hW dL_above_14
  · cases o with
    | inl E => cases ho
    | inr r =>
      have ho : (.inr (some (.int r), WX Y ad V) : oW) = .inr (rv, w) := ho
      cases ho
      refine W.eq (g2 := F0 m 7 ls [.int r, .int 0, .ref q]) rfl ?_
      refine lv_i2l (v := r.toInt64) hx hb dL_above_7 rfl ?_
      refine lst_ X hKL hW 65 rfl dL_above_8 (ws' := WQ Y ad q cL V (vp_updL fo 0 r.toInt64)) rfl (fun H locs hW => ?_)
      refine lv_goto (tgt := 15) hx hb dL_above_9 (by decide) ?_
      refine lv_iconst (v := 0) hx hb dL_above_15 (by decide) ?_
      exact hI _ _ _ _ _ _ rfl (Nat.le_of_ble_eq_true rfl) (Nat.le_of_ble_eq_true rfl) hW dL_above_16
abbrev rmL_lessBehind : Room := { frames := 8, cells := 1, slots := 6, locals := 133 }
set_option maxRecDepth 100000 in
set_option maxHeartbeats 4000000 in
theorem kL_lessBehind (l : Launch) (hst : l.stackTraces = false) (Dd : va_G) (Y : yT) (cL : ClassId) (ad : Nat → Nat → Nat) (q : Nat) (V : gX) (fo : Nat → Int64) (x1 : Int32) (o : oX Int32) (hd : dnX4_lessBehind V x1 = some o) (hE : ∀ E, o = .inl E → E ∈ (["java/lang/IndexOutOfBoundsException"] : List String)) : ML l yL_lessBehind wsL_lessBehind rmL_lessBehind Dd Y cL [.ref (ad 0 0), .int x1, .ref q] (WQ Y ad q cL V fo) (WQ Y ad q cL (lwI ["java/lang/IndexOutOfBoundsException"] V fo o).2.1 (lwI ["java/lang/IndexOutOfBoundsException"] V fo o).2.2) (lwI ["java/lang/IndexOutOfBoundsException"] V fo o).1 1 6 := by
  refine MLk (cc := cL_lessBehind) (maxL := 4) (hh := [(0, 9, 12, 21)]) (by decide) rfl (Nat.le_of_ble_eq_true rfl) rfl rfl (fun {p e s m args below meth c A} ls Q X hKL ht hW hl hI => ?_)
  have hx := X.x
  have hb := X.b
  have hl : lv_has ls 4 [(0, .ref (ad 0 0)), (1, .int x1), (2, .ref q)] := hl
  refine lv_aload_n hx hb dL_lessBehind_0 rfl (lv_at hl 2 rfl) ?_
  refine lv_iconst (v := 0) hx hb dL_lessBehind_1 (by decide) ?_
  refine lv_aload_n hx hb dL_lessBehind_2 rfl (lv_at hl 0 rfl) ?_
  refine lv_iload_n hx hb dL_lessBehind_3 rfl (lv_at hl 1 rfl) ?_
  refine xVm_ (As := [.int x1]) (rest := [.int 0, .ref q]) (wc := WX Y ad V) (post := [(q, .inl (cL, 1, .inr (.inl fo)))]) X (kX4_lessBehind l hst Dd Y ad V x1 o hd) (cwV 1 X.1.2.2.2.2 gL_lessBehind_X4_lessBehind rfl rfl rfl (by decide +kernel) ⟨(Nat.le_of_ble_eq_true rfl), (Nat.le_of_ble_eq_true rfl)⟩) hW (List.Perm.refl _) 0 4 rfl rfl rfl rfl hl.1 rfl (Nat.le_of_ble_eq_true rfl) dL_lessBehind_4 ⟨(Nat.le_of_ble_eq_true rfl), (Nat.le_of_ble_eq_true rfl)⟩ (fun E H locs ce q9 ho hW g1 g2 g3 => ?_) (fun rv w H locs ho hW => ?_)
  · cases o with
    | inr r => cases ho
    | inl E2 =>
      have ho : (.inl E2 : oW) = .inl E := ho
      cases ho
      have hm := hE E rfl
      simp only [List.mem_cons, List.not_mem_nil, or_false] at hm
      rcases hm with rfl
      · refine vx_catch X.1.2.2.2.1 ([] : List ExceptionTableEntry) ⟨0, 9, 12, 21⟩ [] (by rw [ht]; rfl) (fun z hz => by cases hz) (by decide) (by decide) (X.w (i := 1) rfl) (va_Nw.use rfl (X.2.2.2.1.2.2.2.2.1 _ (by decide))) g1 g2 g3 ?_
        refine lv_astore_n (lv' := [(3, .ref q9), (0, .ref (ad 0 0)), (1, .int x1), (2, .ref q)]) hx hb dL_lessBehind_12 rfl hl (by decide) rfl (fun ls hl => ?_)
        refine lv_iconst (v := 1) hx hb dL_lessBehind_13 (by decide) ?_
        exact hI _ _ _ _ _ _ rfl (Nat.le_of_ble_eq_true rfl) (Nat.le_of_ble_eq_true rfl) hW dL_lessBehind_14
  · cases o with
    | inl E => cases ho
    | inr r =>
      have ho : (.inr (some (.int r), WX Y ad V) : oW) = .inr (rv, w) := ho
      cases ho
      refine W.eq (g2 := F0 m 7 ls [.int r, .int 0, .ref q]) rfl ?_
      refine lv_i2l (v := r.toInt64) hx hb dL_lessBehind_7 rfl ?_
      refine lst_ X hKL hW 65 rfl dL_lessBehind_8 (ws' := WQ Y ad q cL V (vp_updL fo 0 r.toInt64)) rfl (fun H locs hW => ?_)
      refine lv_goto (tgt := 15) hx hb dL_lessBehind_9 (by decide) ?_
      refine lv_iconst (v := 0) hx hb dL_lessBehind_15 (by decide) ?_
      exact hI _ _ _ _ _ _ rfl (Nat.le_of_ble_eq_true rfl) (Nat.le_of_ble_eq_true rfl) hW dL_lessBehind_16
abbrev rmL_rules : Room := { frames := 8, cells := 1, slots := 6, locals := 135 }
set_option maxRecDepth 100000 in
set_option maxHeartbeats 4000000 in
theorem kL_rules (l : Launch) (hst : l.stackTraces = false) (Dd : va_G) (Y : yT) (cL : ClassId) (ad : Nat → Nat → Nat) (q : Nat) (V : gX) (fo : Nat → Int64) (x1 : Int32) (o : oX Int32) (hd : dnX4_rules V x1 = some o) (hE : ∀ E, o = .inl E → E ∈ (["java/lang/IndexOutOfBoundsException"] : List String)) : ML l yL_rules wsL_rules rmL_rules Dd Y cL [.ref (ad 0 0), .int x1, .ref q] (WQ Y ad q cL V fo) (WQ Y ad q cL (lwI ["java/lang/IndexOutOfBoundsException"] V fo o).2.1 (lwI ["java/lang/IndexOutOfBoundsException"] V fo o).2.2) (lwI ["java/lang/IndexOutOfBoundsException"] V fo o).1 1 6 := by
  refine MLk (cc := cL_rules) (maxL := 4) (hh := [(0, 9, 12, 21)]) (by decide) rfl (Nat.le_of_ble_eq_true rfl) rfl rfl (fun {p e s m args below meth c A} ls Q X hKL ht hW hl hI => ?_)
  have hx := X.x
  have hb := X.b
  have hl : lv_has ls 4 [(0, .ref (ad 0 0)), (1, .int x1), (2, .ref q)] := hl
  refine lv_aload_n hx hb dL_rules_0 rfl (lv_at hl 2 rfl) ?_
  refine lv_iconst (v := 0) hx hb dL_rules_1 (by decide) ?_
  refine lv_aload_n hx hb dL_rules_2 rfl (lv_at hl 0 rfl) ?_
  refine lv_iload_n hx hb dL_rules_3 rfl (lv_at hl 1 rfl) ?_
  refine xVm_ (As := [.int x1]) (rest := [.int 0, .ref q]) (wc := WX Y ad V) (post := [(q, .inl (cL, 1, .inr (.inl fo)))]) X (kX4_rules l hst Dd Y ad V x1 o hd) (cwV 1 X.1.2.2.2.2 gL_rules_X4_rules rfl rfl rfl (by decide +kernel) ⟨(Nat.le_of_ble_eq_true rfl), (Nat.le_of_ble_eq_true rfl)⟩) hW (List.Perm.refl _) 0 4 rfl rfl rfl rfl hl.1 rfl (Nat.le_of_ble_eq_true rfl) dL_rules_4 ⟨(Nat.le_of_ble_eq_true rfl), (Nat.le_of_ble_eq_true rfl)⟩ (fun E H locs ce q9 ho hW g1 g2 g3 => ?_) (fun rv w H locs ho hW => ?_)
  · cases o with
    | inr r => cases ho
    | inl E2 =>
      have ho : (.inl E2 : oW) = .inl E := ho
      cases ho
      have hm := hE E rfl
      simp only [List.mem_cons, List.not_mem_nil, or_false] at hm
      rcases hm with rfl
      · refine vx_catch X.1.2.2.2.1 ([] : List ExceptionTableEntry) ⟨0, 9, 12, 21⟩ [] (by rw [ht]; rfl) (fun z hz => by cases hz) (by decide) (by decide) (X.w (i := 1) rfl) (va_Nw.use rfl (X.2.2.2.1.2.2.2.2.1 _ (by decide))) g1 g2 g3 ?_
        refine lv_astore_n (lv' := [(3, .ref q9), (0, .ref (ad 0 0)), (1, .int x1), (2, .ref q)]) hx hb dL_rules_12 rfl hl (by decide) rfl (fun ls hl => ?_)
        refine lv_iconst (v := 1) hx hb dL_rules_13 (by decide) ?_
        exact hI _ _ _ _ _ _ rfl (Nat.le_of_ble_eq_true rfl) (Nat.le_of_ble_eq_true rfl) hW dL_rules_14
  · cases o with
    | inl E => cases ho
    | inr r =>
      have ho : (.inr (some (.int r), WX Y ad V) : oW) = .inr (rv, w) := ho
      cases ho
      refine W.eq (g2 := F0 m 7 ls [.int r, .int 0, .ref q]) rfl ?_
      refine lv_i2l (v := r.toInt64) hx hb dL_rules_7 rfl ?_
      refine lst_ X hKL hW 65 rfl dL_rules_8 (ws' := WQ Y ad q cL V (vp_updL fo 0 r.toInt64)) rfl (fun H locs hW => ?_)
      refine lv_goto (tgt := 15) hx hb dL_rules_9 (by decide) ?_
      refine lv_iconst (v := 0) hx hb dL_rules_15 (by decide) ?_
      exact hI _ _ _ _ _ _ rfl (Nat.le_of_ble_eq_true rfl) (Nat.le_of_ble_eq_true rfl) hW dL_rules_16
abbrev rmL_sum : Room := { frames := 9, cells := 3, slots := 18, locals := 157 }
set_option maxRecDepth 100000 in
set_option maxHeartbeats 4000000 in
theorem kL_sum (l : Launch) (hst : l.stackTraces = false) (Dd : va_G) (Y : yT) (cL : ClassId) (ad : Nat → Nat → Nat) (q : Nat) (V : gX) (fo : Nat → Int64) (x1 : Int32) (x2 : Int32) (o : oX Int32) (hd : dnX4_sum V x1 x2 = some o) (hE : ∀ E, o = .inl E → E ∈ (["java/lang/IndexOutOfBoundsException", "java/lang/IllegalArgumentException"] : List String)) : ML l yL_sum wsL_sum rmL_sum Dd Y cL [.ref (ad 0 0), .int x1, .int x2, .ref q] (WQ Y ad q cL V fo) (WQ Y ad q cL (lwI ["java/lang/IndexOutOfBoundsException", "java/lang/IllegalArgumentException"] V fo o).2.1 (lwI ["java/lang/IndexOutOfBoundsException", "java/lang/IllegalArgumentException"] V fo o).2.2) (lwI ["java/lang/IndexOutOfBoundsException", "java/lang/IllegalArgumentException"] V fo o).1 3 18 := by
  refine MLk (cc := cL_sum) (maxL := 5) (hh := [(0, 10, 13, 21), (0, 10, 17, 13)]) (by decide) rfl (Nat.le_of_ble_eq_true rfl) rfl rfl (fun {p e s m args below meth c A} ls Q X hKL ht hW hl hI => ?_)
  have hx := X.x
  have hb := X.b
  have hl : lv_has ls 5 [(0, .ref (ad 0 0)), (1, .int x1), (2, .int x2), (3, .ref q)] := hl
  refine lv_aload_n hx hb dL_sum_0 rfl (lv_at hl 3 rfl) ?_
  refine lv_iconst (v := 0) hx hb dL_sum_1 (by decide) ?_
  refine lv_aload_n hx hb dL_sum_2 rfl (lv_at hl 0 rfl) ?_
  refine lv_iload_n hx hb dL_sum_3 rfl (lv_at hl 1 rfl) ?_
  refine lv_iload_n hx hb dL_sum_4 rfl (lv_at hl 2 rfl) ?_
  refine xVm_ (As := [.int x1, .int x2]) (rest := [.int 0, .ref q]) (wc := WX Y ad V) (post := [(q, .inl (cL, 1, .inr (.inl fo)))]) X (kX4_sum l hst Dd Y ad V x1 x2 o hd) (cwV 2 X.1.2.2.2.2 gL_sum_X4_sum rfl rfl rfl (by decide +kernel) ⟨(Nat.le_of_ble_eq_true rfl), (Nat.le_of_ble_eq_true rfl)⟩) hW (List.Perm.refl _) 0 4 rfl rfl rfl rfl hl.1 rfl (Nat.le_of_ble_eq_true rfl) dL_sum_5 ⟨(Nat.le_of_ble_eq_true rfl), (Nat.le_of_ble_eq_true rfl)⟩ (fun E H locs ce q9 ho hW g1 g2 g3 => ?_) (fun rv w H locs ho hW => ?_)
  · cases o with
    | inr r => cases ho
    | inl E2 =>
      have ho : (.inl E2 : oW) = .inl E := ho
      cases ho
      have hm := hE E rfl
      simp only [List.mem_cons, List.not_mem_nil, or_false] at hm
      rcases hm with rfl | rfl
      · refine vx_catch X.1.2.2.2.1 ([] : List ExceptionTableEntry) ⟨0, 10, 13, 21⟩ [⟨0, 10, 17, 13⟩] (by rw [ht]; rfl) (fun z hz => by cases hz) (by decide) (by decide) (X.w (i := 1) rfl) (va_Nw.use rfl (X.2.2.2.1.2.2.2.2.1 _ (by decide))) g1 g2 g3 ?_
        refine lv_astore (lv' := [(4, .ref q9), (0, .ref (ad 0 0)), (1, .int x1), (2, .int x2), (3, .ref q)]) hx hb dL_sum_13 hl (by decide) rfl (fun ls hl => ?_)
        refine lv_iconst (v := 1) hx hb dL_sum_15 (by decide) ?_
        exact hI _ _ _ _ _ _ rfl (Nat.le_of_ble_eq_true rfl) (Nat.le_of_ble_eq_true rfl) hW dL_sum_16
      · refine vx_catch X.1.2.2.2.1 ([⟨0, 10, 13, 21⟩] : List ExceptionTableEntry) ⟨0, 10, 17, 13⟩ [] (by rw [ht]; rfl) (fun z hz => by
            simp only [List.mem_cons, List.not_mem_nil, or_false] at hz
            rcases hz with rfl
            · exact Or.inr ⟨by decide, "java/lang/IndexOutOfBoundsException", X.w (i := 1) rfl, X.2.2.2.1.2.2.2.2.2.1 _ (by decide) _ (by decide) (by decide)⟩) (by decide) (by decide) (X.w (i := 2) rfl) (va_Nw.use rfl (X.2.2.2.1.2.2.2.2.1 _ (by decide))) g1 g2 g3 ?_
        refine lv_astore (lv' := [(4, .ref q9), (0, .ref (ad 0 0)), (1, .int x1), (2, .int x2), (3, .ref q)]) hx hb dL_sum_17 hl (by decide) rfl (fun ls hl => ?_)
        refine lv_iconst (v := 2) hx hb dL_sum_19 (by decide) ?_
        exact hI _ _ _ _ _ _ rfl (Nat.le_of_ble_eq_true rfl) (Nat.le_of_ble_eq_true rfl) hW dL_sum_20
  · cases o with
    | inl E => cases ho
    | inr r =>
      have ho : (.inr (some (.int r), WX Y ad V) : oW) = .inr (rv, w) := ho
      cases ho
      refine W.eq (g2 := F0 m 8 ls [.int r, .int 0, .ref q]) rfl ?_
      refine lv_i2l (v := r.toInt64) hx hb dL_sum_8 rfl ?_
      refine lst_ X hKL hW 65 rfl dL_sum_9 (ws' := WQ Y ad q cL V (vp_updL fo 0 r.toInt64)) rfl (fun H locs hW => ?_)
      refine lv_goto (tgt := 21) hx hb dL_sum_10 (by decide) ?_
      refine lv_iconst (v := 0) hx hb dL_sum_21 (by decide) ?_
      exact hI _ _ _ _ _ _ rfl (Nat.le_of_ble_eq_true rfl) (Nat.le_of_ble_eq_true rfl) hW dL_sum_22
abbrev rmL_kept : Room := { frames := 8, cells := 1, slots := 6, locals := 132 }
set_option maxRecDepth 100000 in
set_option maxHeartbeats 4000000 in
theorem kL_kept (l : Launch) (hst : l.stackTraces = false) (Dd : va_G) (Y : yT) (cL : ClassId) (ad : Nat → Nat → Nat) (q : Nat) (V : gX) (fo : Nat → Int64) (x1 : Int32) (o : oX Int32) (hd : dnX4_kept V x1 = some o) (hE : ∀ E, o = .inl E → E ∈ (["java/util/NoSuchElementException"] : List String)) : ML l yL_kept wsL_kept rmL_kept Dd Y cL [.ref (ad 0 0), .int x1, .ref q] (WQ Y ad q cL V fo) (WQ Y ad q cL (lwI ["java/util/NoSuchElementException"] V fo o).2.1 (lwI ["java/util/NoSuchElementException"] V fo o).2.2) (lwI ["java/util/NoSuchElementException"] V fo o).1 1 6 := by
  refine MLk (cc := cL_kept) (maxL := 4) (hh := [(0, 9, 12, 27)]) (by decide) rfl (Nat.le_of_ble_eq_true rfl) rfl rfl (fun {p e s m args below meth c A} ls Q X hKL ht hW hl hI => ?_)
  have hx := X.x
  have hb := X.b
  have hl : lv_has ls 4 [(0, .ref (ad 0 0)), (1, .int x1), (2, .ref q)] := hl
  refine lv_aload_n hx hb dL_kept_0 rfl (lv_at hl 2 rfl) ?_
  refine lv_iconst (v := 0) hx hb dL_kept_1 (by decide) ?_
  refine lv_aload_n hx hb dL_kept_2 rfl (lv_at hl 0 rfl) ?_
  refine lv_iload_n hx hb dL_kept_3 rfl (lv_at hl 1 rfl) ?_
  refine xVm_ (As := [.int x1]) (rest := [.int 0, .ref q]) (wc := WX Y ad V) (post := [(q, .inl (cL, 1, .inr (.inl fo)))]) X (kX4_kept l hst Dd Y ad V x1 o hd) (cwV 1 X.1.2.2.2.2 gL_kept_X4_kept rfl rfl rfl (by decide +kernel) ⟨(Nat.le_of_ble_eq_true rfl), (Nat.le_of_ble_eq_true rfl)⟩) hW (List.Perm.refl _) 0 4 rfl rfl rfl rfl hl.1 rfl (Nat.le_of_ble_eq_true rfl) dL_kept_4 ⟨(Nat.le_of_ble_eq_true rfl), (Nat.le_of_ble_eq_true rfl)⟩ (fun E H locs ce q9 ho hW g1 g2 g3 => ?_) (fun rv w H locs ho hW => ?_)
  · cases o with
    | inr r => cases ho
    | inl E2 =>
      have ho : (.inl E2 : oW) = .inl E := ho
      cases ho
      have hm := hE E rfl
      simp only [List.mem_cons, List.not_mem_nil, or_false] at hm
      rcases hm with rfl
      · refine vx_catch X.1.2.2.2.1 ([] : List ExceptionTableEntry) ⟨0, 9, 12, 27⟩ [] (by rw [ht]; rfl) (fun z hz => by cases hz) (by decide) (by decide) (X.w (i := 1) rfl) (va_Nw.use rfl (X.2.2.2.1.2.2.2.2.1 _ (by decide))) g1 g2 g3 ?_
        refine lv_astore_n (lv' := [(3, .ref q9), (0, .ref (ad 0 0)), (1, .int x1), (2, .ref q)]) hx hb dL_kept_12 rfl hl (by decide) rfl (fun ls hl => ?_)
        refine lv_iconst (v := 1) hx hb dL_kept_13 (by decide) ?_
        exact hI _ _ _ _ _ _ rfl (Nat.le_of_ble_eq_true rfl) (Nat.le_of_ble_eq_true rfl) hW dL_kept_14
  · cases o with
    | inl E => cases ho
    | inr r =>
      have ho : (.inr (some (.int r), WX Y ad V) : oW) = .inr (rv, w) := ho
      cases ho
      refine W.eq (g2 := F0 m 7 ls [.int r, .int 0, .ref q]) rfl ?_
      refine lv_i2l (v := r.toInt64) hx hb dL_kept_7 rfl ?_
      refine lst_ X hKL hW 65 rfl dL_kept_8 (ws' := WQ Y ad q cL V (vp_updL fo 0 r.toInt64)) rfl (fun H locs hW => ?_)
      refine lv_goto (tgt := 15) hx hb dL_kept_9 (by decide) ?_
      refine lv_iconst (v := 0) hx hb dL_kept_15 (by decide) ?_
      exact hI _ _ _ _ _ _ rfl (Nat.le_of_ble_eq_true rfl) (Nat.le_of_ble_eq_true rfl) hW dL_kept_16
abbrev rmL_bestRule : Room := { frames := 8, cells := 1, slots := 6, locals := 136 }
set_option maxRecDepth 100000 in
set_option maxHeartbeats 4000000 in
theorem kL_bestRule (l : Launch) (hst : l.stackTraces = false) (Dd : va_G) (Y : yT) (cL : ClassId) (ad : Nat → Nat → Nat) (q : Nat) (V : gX) (fo : Nat → Int64) (x1 : Int32) (o : oX Int32) (hd : dnX4_bestRule V x1 = some o) (hE : ∀ E, o = .inl E → E ∈ (["java/lang/IndexOutOfBoundsException"] : List String)) : ML l yL_bestRule wsL_bestRule rmL_bestRule Dd Y cL [.ref (ad 0 0), .int x1, .ref q] (WQ Y ad q cL V fo) (WQ Y ad q cL (lwI ["java/lang/IndexOutOfBoundsException"] V fo o).2.1 (lwI ["java/lang/IndexOutOfBoundsException"] V fo o).2.2) (lwI ["java/lang/IndexOutOfBoundsException"] V fo o).1 1 6 := by
  refine MLk (cc := cL_bestRule) (maxL := 4) (hh := [(0, 9, 12, 21)]) (by decide) rfl (Nat.le_of_ble_eq_true rfl) rfl rfl (fun {p e s m args below meth c A} ls Q X hKL ht hW hl hI => ?_)
  have hx := X.x
  have hb := X.b
  have hl : lv_has ls 4 [(0, .ref (ad 0 0)), (1, .int x1), (2, .ref q)] := hl
  refine lv_aload_n hx hb dL_bestRule_0 rfl (lv_at hl 2 rfl) ?_
  refine lv_iconst (v := 0) hx hb dL_bestRule_1 (by decide) ?_
  refine lv_aload_n hx hb dL_bestRule_2 rfl (lv_at hl 0 rfl) ?_
  refine lv_iload_n hx hb dL_bestRule_3 rfl (lv_at hl 1 rfl) ?_
  refine xVm_ (As := [.int x1]) (rest := [.int 0, .ref q]) (wc := WX Y ad V) (post := [(q, .inl (cL, 1, .inr (.inl fo)))]) X (kX4_bestRule l hst Dd Y ad V x1 o hd) (cwV 1 X.1.2.2.2.2 gL_bestRule_X4_bestRule rfl rfl rfl (by decide +kernel) ⟨(Nat.le_of_ble_eq_true rfl), (Nat.le_of_ble_eq_true rfl)⟩) hW (List.Perm.refl _) 0 4 rfl rfl rfl rfl hl.1 rfl (Nat.le_of_ble_eq_true rfl) dL_bestRule_4 ⟨(Nat.le_of_ble_eq_true rfl), (Nat.le_of_ble_eq_true rfl)⟩ (fun E H locs ce q9 ho hW g1 g2 g3 => ?_) (fun rv w H locs ho hW => ?_)
  · cases o with
    | inr r => cases ho
    | inl E2 =>
      have ho : (.inl E2 : oW) = .inl E := ho
      cases ho
      have hm := hE E rfl
      simp only [List.mem_cons, List.not_mem_nil, or_false] at hm
      rcases hm with rfl
      · refine vx_catch X.1.2.2.2.1 ([] : List ExceptionTableEntry) ⟨0, 9, 12, 21⟩ [] (by rw [ht]; rfl) (fun z hz => by cases hz) (by decide) (by decide) (X.w (i := 1) rfl) (va_Nw.use rfl (X.2.2.2.1.2.2.2.2.1 _ (by decide))) g1 g2 g3 ?_
        refine lv_astore_n (lv' := [(3, .ref q9), (0, .ref (ad 0 0)), (1, .int x1), (2, .ref q)]) hx hb dL_bestRule_12 rfl hl (by decide) rfl (fun ls hl => ?_)
        refine lv_iconst (v := 1) hx hb dL_bestRule_13 (by decide) ?_
        exact hI _ _ _ _ _ _ rfl (Nat.le_of_ble_eq_true rfl) (Nat.le_of_ble_eq_true rfl) hW dL_bestRule_14
  · cases o with
    | inl E => cases ho
    | inr r =>
      have ho : (.inr (some (.int r), WX Y ad V) : oW) = .inr (rv, w) := ho
      cases ho
      refine W.eq (g2 := F0 m 7 ls [.int r, .int 0, .ref q]) rfl ?_
      refine lv_i2l (v := r.toInt64) hx hb dL_bestRule_7 rfl ?_
      refine lst_ X hKL hW 65 rfl dL_bestRule_8 (ws' := WQ Y ad q cL V (vp_updL fo 0 r.toInt64)) rfl (fun H locs hW => ?_)
      refine lv_goto (tgt := 15) hx hb dL_bestRule_9 (by decide) ?_
      refine lv_iconst (v := 0) hx hb dL_bestRule_15 (by decide) ?_
      exact hI _ _ _ _ _ _ rfl (Nat.le_of_ble_eq_true rfl) (Nat.le_of_ble_eq_true rfl) hW dL_bestRule_16
abbrev rmL_ranked : Room := { frames := 7, cells := 1, slots := 6, locals := 112 }
set_option maxRecDepth 100000 in
set_option maxHeartbeats 4000000 in
theorem kL_ranked (l : Launch) (hst : l.stackTraces = false) (Dd : va_G) (Y : yT) (cL : ClassId) (ad : Nat → Nat → Nat) (q : Nat) (V : gX) (fo : Nat → Int64) (x1 : Int32) (o : oX Int32) (hd : dnX4_ranked V x1 = some o) (hE : ∀ E, o = .inl E → E ∈ (["java/util/NoSuchElementException"] : List String)) : ML l yL_ranked wsL_ranked rmL_ranked Dd Y cL [.ref (ad 0 0), .int x1, .ref q] (WQ Y ad q cL V fo) (WQ Y ad q cL (lwI ["java/util/NoSuchElementException"] V fo o).2.1 (lwI ["java/util/NoSuchElementException"] V fo o).2.2) (lwI ["java/util/NoSuchElementException"] V fo o).1 1 6 := by
  refine MLk (cc := cL_ranked) (maxL := 4) (hh := [(0, 9, 12, 27)]) (by decide) rfl (Nat.le_of_ble_eq_true rfl) rfl rfl (fun {p e s m args below meth c A} ls Q X hKL ht hW hl hI => ?_)
  have hx := X.x
  have hb := X.b
  have hl : lv_has ls 4 [(0, .ref (ad 0 0)), (1, .int x1), (2, .ref q)] := hl
  refine lv_aload_n hx hb dL_ranked_0 rfl (lv_at hl 2 rfl) ?_
  refine lv_iconst (v := 0) hx hb dL_ranked_1 (by decide) ?_
  refine lv_aload_n hx hb dL_ranked_2 rfl (lv_at hl 0 rfl) ?_
  refine lv_iload_n hx hb dL_ranked_3 rfl (lv_at hl 1 rfl) ?_
  refine xVm_ (As := [.int x1]) (rest := [.int 0, .ref q]) (wc := WX Y ad V) (post := [(q, .inl (cL, 1, .inr (.inl fo)))]) X (kX4_ranked l hst Dd Y ad V x1 o hd) (cwV 1 X.1.2.2.2.2 gL_ranked_X4_ranked rfl rfl rfl (by decide +kernel) ⟨(Nat.le_of_ble_eq_true rfl), (Nat.le_of_ble_eq_true rfl)⟩) hW (List.Perm.refl _) 0 4 rfl rfl rfl rfl hl.1 rfl (Nat.le_of_ble_eq_true rfl) dL_ranked_4 ⟨(Nat.le_of_ble_eq_true rfl), (Nat.le_of_ble_eq_true rfl)⟩ (fun E H locs ce q9 ho hW g1 g2 g3 => ?_) (fun rv w H locs ho hW => ?_)
  · cases o with
    | inr r => cases ho
    | inl E2 =>
      have ho : (.inl E2 : oW) = .inl E := ho
      cases ho
      have hm := hE E rfl
      simp only [List.mem_cons, List.not_mem_nil, or_false] at hm
      rcases hm with rfl
      · refine vx_catch X.1.2.2.2.1 ([] : List ExceptionTableEntry) ⟨0, 9, 12, 27⟩ [] (by rw [ht]; rfl) (fun z hz => by cases hz) (by decide) (by decide) (X.w (i := 1) rfl) (va_Nw.use rfl (X.2.2.2.1.2.2.2.2.1 _ (by decide))) g1 g2 g3 ?_
        refine lv_astore_n (lv' := [(3, .ref q9), (0, .ref (ad 0 0)), (1, .int x1), (2, .ref q)]) hx hb dL_ranked_12 rfl hl (by decide) rfl (fun ls hl => ?_)
        refine lv_iconst (v := 1) hx hb dL_ranked_13 (by decide) ?_
        exact hI _ _ _ _ _ _ rfl (Nat.le_of_ble_eq_true rfl) (Nat.le_of_ble_eq_true rfl) hW dL_ranked_14
  · cases o with
    | inl E => cases ho
    | inr r =>
      have ho : (.inr (some (.int r), WX Y ad V) : oW) = .inr (rv, w) := ho
      cases ho
      refine W.eq (g2 := F0 m 7 ls [.int r, .int 0, .ref q]) rfl ?_
      refine lv_i2l (v := r.toInt64) hx hb dL_ranked_7 rfl ?_
      refine lst_ X hKL hW 65 rfl dL_ranked_8 (ws' := WQ Y ad q cL V (vp_updL fo 0 r.toInt64)) rfl (fun H locs hW => ?_)
      refine lv_goto (tgt := 15) hx hb dL_ranked_9 (by decide) ?_
      refine lv_iconst (v := 0) hx hb dL_ranked_15 (by decide) ?_
      exact hI _ _ _ _ _ _ rfl (Nat.le_of_ble_eq_true rfl) (Nat.le_of_ble_eq_true rfl) hW dL_ranked_16
abbrev rmL_set : Room := { frames := 8, cells := 2, slots := 12, locals := 135 }
set_option maxRecDepth 100000 in
set_option maxHeartbeats 4000000 in
theorem kL_set (l : Launch) (hst : l.stackTraces = false) (Dd : va_G) (Y : yT) (cL : ClassId) (ad : Nat → Nat → Nat) (q : Nat) (V : gX) (fo : Nat → Int64) (x1 : Int32) (x2 : Int32) (o : oX (Int32 × gX)) (hd : dnX4_set V x1 x2 = some o) (hE : ∀ E, o = .inl E → E ∈ (["java/lang/IndexOutOfBoundsException", "java/lang/IllegalArgumentException"] : List String)) : ML l yL_set wsL_set rmL_set Dd Y cL [.ref (ad 0 0), .int x1, .int x2, .ref q] (WQ Y ad q cL V fo) (WQ Y ad q cL (lwS ["java/lang/IndexOutOfBoundsException", "java/lang/IllegalArgumentException"] V fo o).2.1 (lwS ["java/lang/IndexOutOfBoundsException", "java/lang/IllegalArgumentException"] V fo o).2.2) (lwS ["java/lang/IndexOutOfBoundsException", "java/lang/IllegalArgumentException"] V fo o).1 2 12 := by
  refine MLk (cc := cL_set) (maxL := 5) (hh := [(0, 10, 13, 21), (0, 10, 17, 13)]) (by decide) rfl (Nat.le_of_ble_eq_true rfl) rfl rfl (fun {p e s m args below meth c A} ls Q X hKL ht hW hl hI => ?_)
  have hx := X.x
  have hb := X.b
  have hl : lv_has ls 5 [(0, .ref (ad 0 0)), (1, .int x1), (2, .int x2), (3, .ref q)] := hl
  refine lv_aload_n hx hb dL_set_0 rfl (lv_at hl 3 rfl) ?_
  refine lv_iconst (v := 0) hx hb dL_set_1 (by decide) ?_
  refine lv_aload_n hx hb dL_set_2 rfl (lv_at hl 0 rfl) ?_
  refine lv_iload_n hx hb dL_set_3 rfl (lv_at hl 1 rfl) ?_
  refine lv_iload_n hx hb dL_set_4 rfl (lv_at hl 2 rfl) ?_
  refine xVm_ (As := [.int x1, .int x2]) (rest := [.int 0, .ref q]) (wc := WX Y ad V) (post := [(q, .inl (cL, 1, .inr (.inl fo)))]) X (kX4_set l hst Dd Y ad V x1 x2 o hd) (cwV 2 X.1.2.2.2.2 gL_set_X4_set rfl rfl rfl (by decide +kernel) ⟨(Nat.le_of_ble_eq_true rfl), (Nat.le_of_ble_eq_true rfl)⟩) hW (List.Perm.refl _) 0 4 rfl rfl rfl rfl hl.1 rfl (Nat.le_of_ble_eq_true rfl) dL_set_5 ⟨(Nat.le_of_ble_eq_true rfl), (Nat.le_of_ble_eq_true rfl)⟩ (fun E H locs ce q9 ho hW g1 g2 g3 => ?_) (fun rv w H locs ho hW => ?_)
  · cases o with
    | inr r => cases ho
    | inl E2 =>
      have ho : (.inl E2 : oW) = .inl E := ho
      cases ho
      have hm := hE E rfl
      simp only [List.mem_cons, List.not_mem_nil, or_false] at hm
      rcases hm with rfl | rfl
      · refine vx_catch X.1.2.2.2.1 ([] : List ExceptionTableEntry) ⟨0, 10, 13, 21⟩ [⟨0, 10, 17, 13⟩] (by rw [ht]; rfl) (fun z hz => by cases hz) (by decide) (by decide) (X.w (i := 1) rfl) (va_Nw.use rfl (X.2.2.2.1.2.2.2.2.1 _ (by decide))) g1 g2 g3 ?_
        refine lv_astore (lv' := [(4, .ref q9), (0, .ref (ad 0 0)), (1, .int x1), (2, .int x2), (3, .ref q)]) hx hb dL_set_13 hl (by decide) rfl (fun ls hl => ?_)
        refine lv_iconst (v := 1) hx hb dL_set_15 (by decide) ?_
        exact hI _ _ _ _ _ _ rfl (Nat.le_of_ble_eq_true rfl) (Nat.le_of_ble_eq_true rfl) hW dL_set_16
      · refine vx_catch X.1.2.2.2.1 ([⟨0, 10, 13, 21⟩] : List ExceptionTableEntry) ⟨0, 10, 17, 13⟩ [] (by rw [ht]; rfl) (fun z hz => by
            simp only [List.mem_cons, List.not_mem_nil, or_false] at hz
            rcases hz with rfl
            · exact Or.inr ⟨by decide, "java/lang/IndexOutOfBoundsException", X.w (i := 1) rfl, X.2.2.2.1.2.2.2.2.2.1 _ (by decide) _ (by decide) (by decide)⟩) (by decide) (by decide) (X.w (i := 2) rfl) (va_Nw.use rfl (X.2.2.2.1.2.2.2.2.1 _ (by decide))) g1 g2 g3 ?_
        refine lv_astore (lv' := [(4, .ref q9), (0, .ref (ad 0 0)), (1, .int x1), (2, .int x2), (3, .ref q)]) hx hb dL_set_17 hl (by decide) rfl (fun ls hl => ?_)
        refine lv_iconst (v := 2) hx hb dL_set_19 (by decide) ?_
        exact hI _ _ _ _ _ _ rfl (Nat.le_of_ble_eq_true rfl) (Nat.le_of_ble_eq_true rfl) hW dL_set_20
  · cases o with
    | inl E => cases ho
    | inr r =>
      have ho : (.inr (some (.int r.1), WX Y ad r.2) : oW) = .inr (rv, w) := ho
      cases ho
      refine W.eq (g2 := F0 m 8 ls [.int r.1, .int 0, .ref q]) rfl ?_
      refine lv_i2l (v := r.1.toInt64) hx hb dL_set_8 rfl ?_
      refine lst_ X hKL hW 65 rfl dL_set_9 (ws' := WQ Y ad q cL r.2 (vp_updL fo 0 r.1.toInt64)) rfl (fun H locs hW => ?_)
      refine lv_goto (tgt := 21) hx hb dL_set_10 (by decide) ?_
      refine lv_iconst (v := 0) hx hb dL_set_21 (by decide) ?_
      exact hI _ _ _ _ _ _ rfl (Nat.le_of_ble_eq_true rfl) (Nat.le_of_ble_eq_true rfl) hW dL_set_22
abbrev rmL_ask : Room := { frames := 9, cells := 3, slots := 18, locals := 155 }
set_option maxRecDepth 100000 in
set_option maxHeartbeats 4000000 in
theorem kL_ask (l : Launch) (hst : l.stackTraces = false) (Dd : va_G) (Y : yT) (cL : ClassId) (ad : Nat → Nat → Nat) (q : Nat) (V : gX) (fo : Nat → Int64) (x1 : Int32) (x2 : Int32) (o : oX (Int32 × gX)) (hd : dnX4_ask V x1 x2 = some o) (hE : ∀ E, o = .inl E → E ∈ (["java/lang/IndexOutOfBoundsException", "java/lang/IllegalArgumentException"] : List String)) : ML l yL_ask wsL_ask rmL_ask Dd Y cL [.ref (ad 0 0), .int x1, .int x2, .ref q] (WQ Y ad q cL V fo) (WQ Y ad q cL (lwS ["java/lang/IndexOutOfBoundsException", "java/lang/IllegalArgumentException"] V fo o).2.1 (lwS ["java/lang/IndexOutOfBoundsException", "java/lang/IllegalArgumentException"] V fo o).2.2) (lwS ["java/lang/IndexOutOfBoundsException", "java/lang/IllegalArgumentException"] V fo o).1 3 18 := by
  refine MLk (cc := cL_ask) (maxL := 5) (hh := [(0, 10, 13, 21), (0, 10, 17, 13)]) (by decide) rfl (Nat.le_of_ble_eq_true rfl) rfl rfl (fun {p e s m args below meth c A} ls Q X hKL ht hW hl hI => ?_)
  have hx := X.x
  have hb := X.b
  have hl : lv_has ls 5 [(0, .ref (ad 0 0)), (1, .int x1), (2, .int x2), (3, .ref q)] := hl
  refine lv_aload_n hx hb dL_ask_0 rfl (lv_at hl 3 rfl) ?_
  refine lv_iconst (v := 0) hx hb dL_ask_1 (by decide) ?_
  refine lv_aload_n hx hb dL_ask_2 rfl (lv_at hl 0 rfl) ?_
  refine lv_iload_n hx hb dL_ask_3 rfl (lv_at hl 1 rfl) ?_
  refine lv_iload_n hx hb dL_ask_4 rfl (lv_at hl 2 rfl) ?_
  refine xVm_ (As := [.int x1, .int x2]) (rest := [.int 0, .ref q]) (wc := WX Y ad V) (post := [(q, .inl (cL, 1, .inr (.inl fo)))]) X (kX4_ask l hst Dd Y ad V x1 x2 o hd) (cwV 2 X.1.2.2.2.2 gL_ask_X4_ask rfl rfl rfl (by decide +kernel) ⟨(Nat.le_of_ble_eq_true rfl), (Nat.le_of_ble_eq_true rfl)⟩) hW (List.Perm.refl _) 0 4 rfl rfl rfl rfl hl.1 rfl (Nat.le_of_ble_eq_true rfl) dL_ask_5 ⟨(Nat.le_of_ble_eq_true rfl), (Nat.le_of_ble_eq_true rfl)⟩ (fun E H locs ce q9 ho hW g1 g2 g3 => ?_) (fun rv w H locs ho hW => ?_)
  · cases o with
    | inr r => cases ho
    | inl E2 =>
      have ho : (.inl E2 : oW) = .inl E := ho
      cases ho
      have hm := hE E rfl
      simp only [List.mem_cons, List.not_mem_nil, or_false] at hm
      rcases hm with rfl | rfl
      · refine vx_catch X.1.2.2.2.1 ([] : List ExceptionTableEntry) ⟨0, 10, 13, 21⟩ [⟨0, 10, 17, 13⟩] (by rw [ht]; rfl) (fun z hz => by cases hz) (by decide) (by decide) (X.w (i := 1) rfl) (va_Nw.use rfl (X.2.2.2.1.2.2.2.2.1 _ (by decide))) g1 g2 g3 ?_
        refine lv_astore (lv' := [(4, .ref q9), (0, .ref (ad 0 0)), (1, .int x1), (2, .int x2), (3, .ref q)]) hx hb dL_ask_13 hl (by decide) rfl (fun ls hl => ?_)
        refine lv_iconst (v := 1) hx hb dL_ask_15 (by decide) ?_
        exact hI _ _ _ _ _ _ rfl (Nat.le_of_ble_eq_true rfl) (Nat.le_of_ble_eq_true rfl) hW dL_ask_16
      · refine vx_catch X.1.2.2.2.1 ([⟨0, 10, 13, 21⟩] : List ExceptionTableEntry) ⟨0, 10, 17, 13⟩ [] (by rw [ht]; rfl) (fun z hz => by
            simp only [List.mem_cons, List.not_mem_nil, or_false] at hz
            rcases hz with rfl
            · exact Or.inr ⟨by decide, "java/lang/IndexOutOfBoundsException", X.w (i := 1) rfl, X.2.2.2.1.2.2.2.2.2.1 _ (by decide) _ (by decide) (by decide)⟩) (by decide) (by decide) (X.w (i := 2) rfl) (va_Nw.use rfl (X.2.2.2.1.2.2.2.2.1 _ (by decide))) g1 g2 g3 ?_
        refine lv_astore (lv' := [(4, .ref q9), (0, .ref (ad 0 0)), (1, .int x1), (2, .int x2), (3, .ref q)]) hx hb dL_ask_17 hl (by decide) rfl (fun ls hl => ?_)
        refine lv_iconst (v := 2) hx hb dL_ask_19 (by decide) ?_
        exact hI _ _ _ _ _ _ rfl (Nat.le_of_ble_eq_true rfl) (Nat.le_of_ble_eq_true rfl) hW dL_ask_20
  · cases o with
    | inl E => cases ho
    | inr r =>
      have ho : (.inr (some (.int r.1), WX Y ad r.2) : oW) = .inr (rv, w) := ho
      cases ho
      refine W.eq (g2 := F0 m 8 ls [.int r.1, .int 0, .ref q]) rfl ?_
      refine lv_i2l (v := r.1.toInt64) hx hb dL_ask_8 rfl ?_
      refine lst_ X hKL hW 65 rfl dL_ask_9 (ws' := WQ Y ad q cL r.2 (vp_updL fo 0 r.1.toInt64)) rfl (fun H locs hW => ?_)
      refine lv_goto (tgt := 21) hx hb dL_ask_10 (by decide) ?_
      refine lv_iconst (v := 0) hx hb dL_ask_21 (by decide) ?_
      exact hI _ _ _ _ _ _ rfl (Nat.le_of_ble_eq_true rfl) (Nat.le_of_ble_eq_true rfl) hW dL_ask_22
abbrev rmL_keep : Room := { frames := 9, cells := 4, slots := 24, locals := 155 }
set_option maxRecDepth 100000 in
set_option maxHeartbeats 4000000 in
theorem kL_keep (l : Launch) (hst : l.stackTraces = false) (Dd : va_G) (Y : yT) (cL : ClassId) (ad : Nat → Nat → Nat) (q : Nat) (V : gX) (fo : Nat → Int64) (x1 : Int32) (x2 : Int32) (o : oX (Int32 × gX)) (hd : dnX4_keep V x1 x2 = some o) (hE : ∀ E, o = .inl E → E ∈ (["java/lang/IndexOutOfBoundsException", "java/lang/IllegalArgumentException", "java/lang/IllegalStateException"] : List String)) : ML l yL_keep wsL_keep rmL_keep Dd Y cL [.ref (ad 0 0), .int x1, .int x2, .ref q] (WQ Y ad q cL V fo) (WQ Y ad q cL (lwS ["java/lang/IndexOutOfBoundsException", "java/lang/IllegalArgumentException", "java/lang/IllegalStateException"] V fo o).2.1 (lwS ["java/lang/IndexOutOfBoundsException", "java/lang/IllegalArgumentException", "java/lang/IllegalStateException"] V fo o).2.2) (lwS ["java/lang/IndexOutOfBoundsException", "java/lang/IllegalArgumentException", "java/lang/IllegalStateException"] V fo o).1 4 24 := by
  refine MLk (cc := cL_keep) (maxL := 5) (hh := [(0, 10, 13, 21), (0, 10, 17, 13), (0, 10, 21, 69)]) (by decide) rfl (Nat.le_of_ble_eq_true rfl) rfl rfl (fun {p e s m args below meth c A} ls Q X hKL ht hW hl hI => ?_)
  have hx := X.x
  have hb := X.b
  have hl : lv_has ls 5 [(0, .ref (ad 0 0)), (1, .int x1), (2, .int x2), (3, .ref q)] := hl
  refine lv_aload_n hx hb dL_keep_0 rfl (lv_at hl 3 rfl) ?_
  refine lv_iconst (v := 0) hx hb dL_keep_1 (by decide) ?_
  refine lv_aload_n hx hb dL_keep_2 rfl (lv_at hl 0 rfl) ?_
  refine lv_iload_n hx hb dL_keep_3 rfl (lv_at hl 1 rfl) ?_
  refine lv_iload_n hx hb dL_keep_4 rfl (lv_at hl 2 rfl) ?_
  refine xVm_ (As := [.int x1, .int x2]) (rest := [.int 0, .ref q]) (wc := WX Y ad V) (post := [(q, .inl (cL, 1, .inr (.inl fo)))]) X (kX4_keep l hst Dd Y ad V x1 x2 o hd) (cwV 2 X.1.2.2.2.2 gL_keep_X4_keep rfl rfl rfl (by decide +kernel) ⟨(Nat.le_of_ble_eq_true rfl), (Nat.le_of_ble_eq_true rfl)⟩) hW (List.Perm.refl _) 0 4 rfl rfl rfl rfl hl.1 rfl (Nat.le_of_ble_eq_true rfl) dL_keep_5 ⟨(Nat.le_of_ble_eq_true rfl), (Nat.le_of_ble_eq_true rfl)⟩ (fun E H locs ce q9 ho hW g1 g2 g3 => ?_) (fun rv w H locs ho hW => ?_)
  · cases o with
    | inr r => cases ho
    | inl E2 =>
      have ho : (.inl E2 : oW) = .inl E := ho
      cases ho
      have hm := hE E rfl
      simp only [List.mem_cons, List.not_mem_nil, or_false] at hm
      rcases hm with rfl | rfl | rfl
      · refine vx_catch X.1.2.2.2.1 ([] : List ExceptionTableEntry) ⟨0, 10, 13, 21⟩ [⟨0, 10, 17, 13⟩, ⟨0, 10, 21, 69⟩] (by rw [ht]; rfl) (fun z hz => by cases hz) (by decide) (by decide) (X.w (i := 1) rfl) (va_Nw.use rfl (X.2.2.2.1.2.2.2.2.1 _ (by decide))) g1 g2 g3 ?_
        refine lv_astore (lv' := [(4, .ref q9), (0, .ref (ad 0 0)), (1, .int x1), (2, .int x2), (3, .ref q)]) hx hb dL_keep_13 hl (by decide) rfl (fun ls hl => ?_)
        refine lv_iconst (v := 1) hx hb dL_keep_15 (by decide) ?_
        exact hI _ _ _ _ _ _ rfl (Nat.le_of_ble_eq_true rfl) (Nat.le_of_ble_eq_true rfl) hW dL_keep_16
      · refine vx_catch X.1.2.2.2.1 ([⟨0, 10, 13, 21⟩] : List ExceptionTableEntry) ⟨0, 10, 17, 13⟩ [⟨0, 10, 21, 69⟩] (by rw [ht]; rfl) (fun z hz => by
            simp only [List.mem_cons, List.not_mem_nil, or_false] at hz
            rcases hz with rfl
            · exact Or.inr ⟨by decide, "java/lang/IndexOutOfBoundsException", X.w (i := 1) rfl, X.2.2.2.1.2.2.2.2.2.1 _ (by decide) _ (by decide) (by decide)⟩) (by decide) (by decide) (X.w (i := 2) rfl) (va_Nw.use rfl (X.2.2.2.1.2.2.2.2.1 _ (by decide))) g1 g2 g3 ?_
        refine lv_astore (lv' := [(4, .ref q9), (0, .ref (ad 0 0)), (1, .int x1), (2, .int x2), (3, .ref q)]) hx hb dL_keep_17 hl (by decide) rfl (fun ls hl => ?_)
        refine lv_iconst (v := 2) hx hb dL_keep_19 (by decide) ?_
        exact hI _ _ _ _ _ _ rfl (Nat.le_of_ble_eq_true rfl) (Nat.le_of_ble_eq_true rfl) hW dL_keep_20
      · refine vx_catch X.1.2.2.2.1 ([⟨0, 10, 13, 21⟩, ⟨0, 10, 17, 13⟩] : List ExceptionTableEntry) ⟨0, 10, 21, 69⟩ [] (by rw [ht]; rfl) (fun z hz => by
            simp only [List.mem_cons, List.not_mem_nil, or_false] at hz
            rcases hz with rfl | rfl
            · exact Or.inr ⟨by decide, "java/lang/IndexOutOfBoundsException", X.w (i := 1) rfl, X.2.2.2.1.2.2.2.2.2.1 _ (by decide) _ (by decide) (by decide)⟩
            · exact Or.inr ⟨by decide, "java/lang/IllegalArgumentException", X.w (i := 2) rfl, X.2.2.2.1.2.2.2.2.2.1 _ (by decide) _ (by decide) (by decide)⟩) (by decide) (by decide) (X.w (i := 3) rfl) (va_Nw.use rfl (X.2.2.2.1.2.2.2.2.1 _ (by decide))) g1 g2 g3 ?_
        refine lv_astore (lv' := [(4, .ref q9), (0, .ref (ad 0 0)), (1, .int x1), (2, .int x2), (3, .ref q)]) hx hb dL_keep_21 hl (by decide) rfl (fun ls hl => ?_)
        refine lv_iconst (v := 3) hx hb dL_keep_23 (by decide) ?_
        exact hI _ _ _ _ _ _ rfl (Nat.le_of_ble_eq_true rfl) (Nat.le_of_ble_eq_true rfl) hW dL_keep_24
  · cases o with
    | inl E => cases ho
    | inr r =>
      have ho : (.inr (some (.int r.1), WX Y ad r.2) : oW) = .inr (rv, w) := ho
      cases ho
      refine W.eq (g2 := F0 m 8 ls [.int r.1, .int 0, .ref q]) rfl ?_
      refine lv_i2l (v := r.1.toInt64) hx hb dL_keep_8 rfl ?_
      refine lst_ X hKL hW 65 rfl dL_keep_9 (ws' := WQ Y ad q cL r.2 (vp_updL fo 0 r.1.toInt64)) rfl (fun H locs hW => ?_)
      refine lv_goto (tgt := 25) hx hb dL_keep_10 (by decide) ?_
      refine lv_iconst (v := 0) hx hb dL_keep_25 (by decide) ?_
      exact hI _ _ _ _ _ _ rfl (Nat.le_of_ble_eq_true rfl) (Nat.le_of_ble_eq_true rfl) hW dL_keep_26
abbrev rmL_forget : Room := { frames := 8, cells := 1, slots := 6, locals := 132 }
set_option maxRecDepth 100000 in
set_option maxHeartbeats 4000000 in
theorem kL_forget (l : Launch) (hst : l.stackTraces = false) (Dd : va_G) (Y : yT) (cL : ClassId) (ad : Nat → Nat → Nat) (q : Nat) (V : gX) (fo : Nat → Int64) (x1 : Int32) (o : oX (Int32 × gX)) (hd : dnX4_forget V x1 = some o) (hE : ∀ E, o = .inl E → E ∈ (["java/util/NoSuchElementException"] : List String)) : ML l yL_forget wsL_forget rmL_forget Dd Y cL [.ref (ad 0 0), .int x1, .ref q] (WQ Y ad q cL V fo) (WQ Y ad q cL (lwS ["java/util/NoSuchElementException"] V fo o).2.1 (lwS ["java/util/NoSuchElementException"] V fo o).2.2) (lwS ["java/util/NoSuchElementException"] V fo o).1 1 6 := by
  refine MLk (cc := cL_forget) (maxL := 4) (hh := [(0, 9, 12, 27)]) (by decide) rfl (Nat.le_of_ble_eq_true rfl) rfl rfl (fun {p e s m args below meth c A} ls Q X hKL ht hW hl hI => ?_)
  have hx := X.x
  have hb := X.b
  have hl : lv_has ls 4 [(0, .ref (ad 0 0)), (1, .int x1), (2, .ref q)] := hl
  refine lv_aload_n hx hb dL_forget_0 rfl (lv_at hl 2 rfl) ?_
  refine lv_iconst (v := 0) hx hb dL_forget_1 (by decide) ?_
  refine lv_aload_n hx hb dL_forget_2 rfl (lv_at hl 0 rfl) ?_
  refine lv_iload_n hx hb dL_forget_3 rfl (lv_at hl 1 rfl) ?_
  refine xVm_ (As := [.int x1]) (rest := [.int 0, .ref q]) (wc := WX Y ad V) (post := [(q, .inl (cL, 1, .inr (.inl fo)))]) X (kX4_forget l hst Dd Y ad V x1 o hd) (cwV 1 X.1.2.2.2.2 gL_forget_X4_forget rfl rfl rfl (by decide +kernel) ⟨(Nat.le_of_ble_eq_true rfl), (Nat.le_of_ble_eq_true rfl)⟩) hW (List.Perm.refl _) 0 4 rfl rfl rfl rfl hl.1 rfl (Nat.le_of_ble_eq_true rfl) dL_forget_4 ⟨(Nat.le_of_ble_eq_true rfl), (Nat.le_of_ble_eq_true rfl)⟩ (fun E H locs ce q9 ho hW g1 g2 g3 => ?_) (fun rv w H locs ho hW => ?_)
  · cases o with
    | inr r => cases ho
    | inl E2 =>
      have ho : (.inl E2 : oW) = .inl E := ho
      cases ho
      have hm := hE E rfl
      simp only [List.mem_cons, List.not_mem_nil, or_false] at hm
      rcases hm with rfl
      · refine vx_catch X.1.2.2.2.1 ([] : List ExceptionTableEntry) ⟨0, 9, 12, 27⟩ [] (by rw [ht]; rfl) (fun z hz => by cases hz) (by decide) (by decide) (X.w (i := 1) rfl) (va_Nw.use rfl (X.2.2.2.1.2.2.2.2.1 _ (by decide))) g1 g2 g3 ?_
        refine lv_astore_n (lv' := [(3, .ref q9), (0, .ref (ad 0 0)), (1, .int x1), (2, .ref q)]) hx hb dL_forget_12 rfl hl (by decide) rfl (fun ls hl => ?_)
        refine lv_iconst (v := 1) hx hb dL_forget_13 (by decide) ?_
        exact hI _ _ _ _ _ _ rfl (Nat.le_of_ble_eq_true rfl) (Nat.le_of_ble_eq_true rfl) hW dL_forget_14
  · cases o with
    | inl E => cases ho
    | inr r =>
      have ho : (.inr (some (.int r.1), WX Y ad r.2) : oW) = .inr (rv, w) := ho
      cases ho
      refine W.eq (g2 := F0 m 7 ls [.int r.1, .int 0, .ref q]) rfl ?_
      refine lv_i2l (v := r.1.toInt64) hx hb dL_forget_7 rfl ?_
      refine lst_ X hKL hW 65 rfl dL_forget_8 (ws' := WQ Y ad q cL r.2 (vp_updL fo 0 r.1.toInt64)) rfl (fun H locs hW => ?_)
      refine lv_goto (tgt := 15) hx hb dL_forget_9 (by decide) ?_
      refine lv_iconst (v := 0) hx hb dL_forget_15 (by decide) ?_
      exact hI _ _ _ _ _ _ rfl (Nat.le_of_ble_eq_true rfl) (Nat.le_of_ble_eq_true rfl) hW dL_forget_16
abbrev rmL_sweep : Room := { frames := 7, cells := 1, slots := 6, locals := 159 }
set_option maxRecDepth 100000 in
set_option maxHeartbeats 4000000 in
theorem kL_sweep (l : Launch) (hst : l.stackTraces = false) (Dd : va_G) (Y : yT) (cL : ClassId) (ad : Nat → Nat → Nat) (q : Nat) (V : gX) (fo : Nat → Int64) (x1 : Int32) (o : oX (Int32 × gX)) (hd : dnX4_sweep V x1 = some o) (hE : ∀ E, o = .inl E → E ∈ (["java/lang/IllegalArgumentException"] : List String)) : ML l yL_sweep wsL_sweep rmL_sweep Dd Y cL [.ref (ad 0 0), .int x1, .ref q] (WQ Y ad q cL V fo) (WQ Y ad q cL (lwS ["java/lang/IllegalArgumentException"] V fo o).2.1 (lwS ["java/lang/IllegalArgumentException"] V fo o).2.2) (lwS ["java/lang/IllegalArgumentException"] V fo o).1 1 6 := by
  refine MLk (cc := cL_sweep) (maxL := 4) (hh := [(0, 9, 12, 13)]) (by decide) rfl (Nat.le_of_ble_eq_true rfl) rfl rfl (fun {p e s m args below meth c A} ls Q X hKL ht hW hl hI => ?_)
  have hx := X.x
  have hb := X.b
  have hl : lv_has ls 4 [(0, .ref (ad 0 0)), (1, .int x1), (2, .ref q)] := hl
  refine lv_aload_n hx hb dL_sweep_0 rfl (lv_at hl 2 rfl) ?_
  refine lv_iconst (v := 0) hx hb dL_sweep_1 (by decide) ?_
  refine lv_aload_n hx hb dL_sweep_2 rfl (lv_at hl 0 rfl) ?_
  refine lv_iload_n hx hb dL_sweep_3 rfl (lv_at hl 1 rfl) ?_
  refine xVm_ (As := [.int x1]) (rest := [.int 0, .ref q]) (wc := WX Y ad V) (post := [(q, .inl (cL, 1, .inr (.inl fo)))]) X (kX4_sweep l hst Dd Y ad V x1 o hd) (cwV 1 X.1.2.2.2.2 gL_sweep_X4_sweep rfl rfl rfl (by decide +kernel) ⟨(Nat.le_of_ble_eq_true rfl), (Nat.le_of_ble_eq_true rfl)⟩) hW (List.Perm.refl _) 0 4 rfl rfl rfl rfl hl.1 rfl (Nat.le_of_ble_eq_true rfl) dL_sweep_4 ⟨(Nat.le_of_ble_eq_true rfl), (Nat.le_of_ble_eq_true rfl)⟩ (fun E H locs ce q9 ho hW g1 g2 g3 => ?_) (fun rv w H locs ho hW => ?_)
  · cases o with
    | inr r => cases ho
    | inl E2 =>
      have ho : (.inl E2 : oW) = .inl E := ho
      cases ho
      have hm := hE E rfl
      simp only [List.mem_cons, List.not_mem_nil, or_false] at hm
      rcases hm with rfl
      · refine vx_catch X.1.2.2.2.1 ([] : List ExceptionTableEntry) ⟨0, 9, 12, 13⟩ [] (by rw [ht]; rfl) (fun z hz => by cases hz) (by decide) (by decide) (X.w (i := 1) rfl) (va_Nw.use rfl (X.2.2.2.1.2.2.2.2.1 _ (by decide))) g1 g2 g3 ?_
        refine lv_astore_n (lv' := [(3, .ref q9), (0, .ref (ad 0 0)), (1, .int x1), (2, .ref q)]) hx hb dL_sweep_12 rfl hl (by decide) rfl (fun ls hl => ?_)
        refine lv_iconst (v := 1) hx hb dL_sweep_13 (by decide) ?_
        exact hI _ _ _ _ _ _ rfl (Nat.le_of_ble_eq_true rfl) (Nat.le_of_ble_eq_true rfl) hW dL_sweep_14
  · cases o with
    | inl E => cases ho
    | inr r =>
      have ho : (.inr (some (.int r.1), WX Y ad r.2) : oW) = .inr (rv, w) := ho
      cases ho
      refine W.eq (g2 := F0 m 7 ls [.int r.1, .int 0, .ref q]) rfl ?_
      refine lv_i2l (v := r.1.toInt64) hx hb dL_sweep_7 rfl ?_
      refine lst_ X hKL hW 65 rfl dL_sweep_8 (ws' := WQ Y ad q cL r.2 (vp_updL fo 0 r.1.toInt64)) rfl (fun H locs hW => ?_)
      refine lv_goto (tgt := 15) hx hb dL_sweep_9 (by decide) ?_
      refine lv_iconst (v := 0) hx hb dL_sweep_15 (by decide) ?_
      exact hI _ _ _ _ _ _ rfl (Nat.le_of_ble_eq_true rfl) (Nat.le_of_ble_eq_true rfl) hW dL_sweep_16
abbrev rmL_put : Room := { frames := 8, cells := 3, slots := 18, locals := 135 }
set_option maxRecDepth 100000 in
set_option maxHeartbeats 4000000 in
theorem kL_put (l : Launch) (hst : l.stackTraces = false) (Dd : va_G) (Y : yT) (cL : ClassId) (ad : Nat → Nat → Nat) (q : Nat) (V : gX) (fo : Nat → Int64) (x1 : Int32) (x2 : Int32) (o : oX (Int32 × gX)) (hd : dnX4_put V x1 x2 = some o) (hE : ∀ E, o = .inl E → E ∈ (["java/lang/IndexOutOfBoundsException", "java/lang/IllegalArgumentException", "java/lang/IllegalStateException"] : List String)) : ML l yL_put wsL_put rmL_put Dd Y cL [.ref (ad 0 0), .int x1, .int x2, .ref q] (WQ Y ad q cL V fo) (WQ Y ad q cL (lwS ["java/lang/IndexOutOfBoundsException", "java/lang/IllegalArgumentException", "java/lang/IllegalStateException"] V fo o).2.1 (lwS ["java/lang/IndexOutOfBoundsException", "java/lang/IllegalArgumentException", "java/lang/IllegalStateException"] V fo o).2.2) (lwS ["java/lang/IndexOutOfBoundsException", "java/lang/IllegalArgumentException", "java/lang/IllegalStateException"] V fo o).1 3 18 := by
  refine MLk (cc := cL_put) (maxL := 5) (hh := [(0, 10, 13, 21), (0, 10, 17, 13), (0, 10, 21, 69)]) (by decide) rfl (Nat.le_of_ble_eq_true rfl) rfl rfl (fun {p e s m args below meth c A} ls Q X hKL ht hW hl hI => ?_)
  have hx := X.x
  have hb := X.b
  have hl : lv_has ls 5 [(0, .ref (ad 0 0)), (1, .int x1), (2, .int x2), (3, .ref q)] := hl
  refine lv_aload_n hx hb dL_put_0 rfl (lv_at hl 3 rfl) ?_
  refine lv_iconst (v := 0) hx hb dL_put_1 (by decide) ?_
  refine lv_aload_n hx hb dL_put_2 rfl (lv_at hl 0 rfl) ?_
  refine lv_iload_n hx hb dL_put_3 rfl (lv_at hl 1 rfl) ?_
  refine lv_iload_n hx hb dL_put_4 rfl (lv_at hl 2 rfl) ?_
  refine xVm_ (As := [.int x1, .int x2]) (rest := [.int 0, .ref q]) (wc := WX Y ad V) (post := [(q, .inl (cL, 1, .inr (.inl fo)))]) X (kX4_put l hst Dd Y ad V x1 x2 o hd) (cwV 2 X.1.2.2.2.2 gL_put_X4_put rfl rfl rfl (by decide +kernel) ⟨(Nat.le_of_ble_eq_true rfl), (Nat.le_of_ble_eq_true rfl)⟩) hW (List.Perm.refl _) 0 4 rfl rfl rfl rfl hl.1 rfl (Nat.le_of_ble_eq_true rfl) dL_put_5 ⟨(Nat.le_of_ble_eq_true rfl), (Nat.le_of_ble_eq_true rfl)⟩ (fun E H locs ce q9 ho hW g1 g2 g3 => ?_) (fun rv w H locs ho hW => ?_)
  · cases o with
    | inr r => cases ho
    | inl E2 =>
      have ho : (.inl E2 : oW) = .inl E := ho
      cases ho
      have hm := hE E rfl
      simp only [List.mem_cons, List.not_mem_nil, or_false] at hm
      rcases hm with rfl | rfl | rfl
      · refine vx_catch X.1.2.2.2.1 ([] : List ExceptionTableEntry) ⟨0, 10, 13, 21⟩ [⟨0, 10, 17, 13⟩, ⟨0, 10, 21, 69⟩] (by rw [ht]; rfl) (fun z hz => by cases hz) (by decide) (by decide) (X.w (i := 1) rfl) (va_Nw.use rfl (X.2.2.2.1.2.2.2.2.1 _ (by decide))) g1 g2 g3 ?_
        refine lv_astore (lv' := [(4, .ref q9), (0, .ref (ad 0 0)), (1, .int x1), (2, .int x2), (3, .ref q)]) hx hb dL_put_13 hl (by decide) rfl (fun ls hl => ?_)
        refine lv_iconst (v := 1) hx hb dL_put_15 (by decide) ?_
        exact hI _ _ _ _ _ _ rfl (Nat.le_of_ble_eq_true rfl) (Nat.le_of_ble_eq_true rfl) hW dL_put_16
      · refine vx_catch X.1.2.2.2.1 ([⟨0, 10, 13, 21⟩] : List ExceptionTableEntry) ⟨0, 10, 17, 13⟩ [⟨0, 10, 21, 69⟩] (by rw [ht]; rfl) (fun z hz => by
            simp only [List.mem_cons, List.not_mem_nil, or_false] at hz
            rcases hz with rfl
            · exact Or.inr ⟨by decide, "java/lang/IndexOutOfBoundsException", X.w (i := 1) rfl, X.2.2.2.1.2.2.2.2.2.1 _ (by decide) _ (by decide) (by decide)⟩) (by decide) (by decide) (X.w (i := 2) rfl) (va_Nw.use rfl (X.2.2.2.1.2.2.2.2.1 _ (by decide))) g1 g2 g3 ?_
        refine lv_astore (lv' := [(4, .ref q9), (0, .ref (ad 0 0)), (1, .int x1), (2, .int x2), (3, .ref q)]) hx hb dL_put_17 hl (by decide) rfl (fun ls hl => ?_)
        refine lv_iconst (v := 2) hx hb dL_put_19 (by decide) ?_
        exact hI _ _ _ _ _ _ rfl (Nat.le_of_ble_eq_true rfl) (Nat.le_of_ble_eq_true rfl) hW dL_put_20
      · refine vx_catch X.1.2.2.2.1 ([⟨0, 10, 13, 21⟩, ⟨0, 10, 17, 13⟩] : List ExceptionTableEntry) ⟨0, 10, 21, 69⟩ [] (by rw [ht]; rfl) (fun z hz => by
            simp only [List.mem_cons, List.not_mem_nil, or_false] at hz
            rcases hz with rfl | rfl
            · exact Or.inr ⟨by decide, "java/lang/IndexOutOfBoundsException", X.w (i := 1) rfl, X.2.2.2.1.2.2.2.2.2.1 _ (by decide) _ (by decide) (by decide)⟩
            · exact Or.inr ⟨by decide, "java/lang/IllegalArgumentException", X.w (i := 2) rfl, X.2.2.2.1.2.2.2.2.2.1 _ (by decide) _ (by decide) (by decide)⟩) (by decide) (by decide) (X.w (i := 3) rfl) (va_Nw.use rfl (X.2.2.2.1.2.2.2.2.1 _ (by decide))) g1 g2 g3 ?_
        refine lv_astore (lv' := [(4, .ref q9), (0, .ref (ad 0 0)), (1, .int x1), (2, .int x2), (3, .ref q)]) hx hb dL_put_21 hl (by decide) rfl (fun ls hl => ?_)
        refine lv_iconst (v := 3) hx hb dL_put_23 (by decide) ?_
        exact hI _ _ _ _ _ _ rfl (Nat.le_of_ble_eq_true rfl) (Nat.le_of_ble_eq_true rfl) hW dL_put_24
  · cases o with
    | inl E => cases ho
    | inr r =>
      have ho : (.inr (some (.int r.1), WX Y ad r.2) : oW) = .inr (rv, w) := ho
      cases ho
      refine W.eq (g2 := F0 m 8 ls [.int r.1, .int 0, .ref q]) rfl ?_
      refine lv_i2l (v := r.1.toInt64) hx hb dL_put_8 rfl ?_
      refine lst_ X hKL hW 65 rfl dL_put_9 (ws' := WQ Y ad q cL r.2 (vp_updL fo 0 r.1.toInt64)) rfl (fun H locs hW => ?_)
      refine lv_goto (tgt := 25) hx hb dL_put_10 (by decide) ?_
      refine lv_iconst (v := 0) hx hb dL_put_25 (by decide) ?_
      exact hI _ _ _ _ _ _ rfl (Nat.le_of_ble_eq_true rfl) (Nat.le_of_ble_eq_true rfl) hW dL_put_26
abbrev rmL_take : Room := { frames := 8, cells := 2, slots := 12, locals := 134 }
set_option maxRecDepth 100000 in
set_option maxHeartbeats 4000000 in
theorem kL_take (l : Launch) (hst : l.stackTraces = false) (Dd : va_G) (Y : yT) (cL : ClassId) (ad : Nat → Nat → Nat) (q : Nat) (V : gX) (fo : Nat → Int64) (x1 : Int32) (o : oX (Int32 × gX)) (hd : dnX4_take V x1 = some o) (hE : ∀ E, o = .inl E → E ∈ (["java/lang/IndexOutOfBoundsException", "java/lang/IllegalStateException"] : List String)) : ML l yL_take wsL_take rmL_take Dd Y cL [.ref (ad 0 0), .int x1, .ref q] (WQ Y ad q cL V fo) (WQ Y ad q cL (lwS ["java/lang/IndexOutOfBoundsException", "java/lang/IllegalStateException"] V fo o).2.1 (lwS ["java/lang/IndexOutOfBoundsException", "java/lang/IllegalStateException"] V fo o).2.2) (lwS ["java/lang/IndexOutOfBoundsException", "java/lang/IllegalStateException"] V fo o).1 2 12 := by
  refine MLk (cc := cL_take) (maxL := 4) (hh := [(0, 9, 12, 21), (0, 9, 15, 69)]) (by decide) rfl (Nat.le_of_ble_eq_true rfl) rfl rfl (fun {p e s m args below meth c A} ls Q X hKL ht hW hl hI => ?_)
  have hx := X.x
  have hb := X.b
  have hl : lv_has ls 4 [(0, .ref (ad 0 0)), (1, .int x1), (2, .ref q)] := hl
  refine lv_aload_n hx hb dL_take_0 rfl (lv_at hl 2 rfl) ?_
  refine lv_iconst (v := 0) hx hb dL_take_1 (by decide) ?_
  refine lv_aload_n hx hb dL_take_2 rfl (lv_at hl 0 rfl) ?_
  refine lv_iload_n hx hb dL_take_3 rfl (lv_at hl 1 rfl) ?_
  refine xVm_ (As := [.int x1]) (rest := [.int 0, .ref q]) (wc := WX Y ad V) (post := [(q, .inl (cL, 1, .inr (.inl fo)))]) X (kX4_take l hst Dd Y ad V x1 o hd) (cwV 1 X.1.2.2.2.2 gL_take_X4_take rfl rfl rfl (by decide +kernel) ⟨(Nat.le_of_ble_eq_true rfl), (Nat.le_of_ble_eq_true rfl)⟩) hW (List.Perm.refl _) 0 4 rfl rfl rfl rfl hl.1 rfl (Nat.le_of_ble_eq_true rfl) dL_take_4 ⟨(Nat.le_of_ble_eq_true rfl), (Nat.le_of_ble_eq_true rfl)⟩ (fun E H locs ce q9 ho hW g1 g2 g3 => ?_) (fun rv w H locs ho hW => ?_)
  · cases o with
    | inr r => cases ho
    | inl E2 =>
      have ho : (.inl E2 : oW) = .inl E := ho
      cases ho
      have hm := hE E rfl
      simp only [List.mem_cons, List.not_mem_nil, or_false] at hm
      rcases hm with rfl | rfl
      · refine vx_catch X.1.2.2.2.1 ([] : List ExceptionTableEntry) ⟨0, 9, 12, 21⟩ [⟨0, 9, 15, 69⟩] (by rw [ht]; rfl) (fun z hz => by cases hz) (by decide) (by decide) (X.w (i := 1) rfl) (va_Nw.use rfl (X.2.2.2.1.2.2.2.2.1 _ (by decide))) g1 g2 g3 ?_
        refine lv_astore_n (lv' := [(3, .ref q9), (0, .ref (ad 0 0)), (1, .int x1), (2, .ref q)]) hx hb dL_take_12 rfl hl (by decide) rfl (fun ls hl => ?_)
        refine lv_iconst (v := 1) hx hb dL_take_13 (by decide) ?_
        exact hI _ _ _ _ _ _ rfl (Nat.le_of_ble_eq_true rfl) (Nat.le_of_ble_eq_true rfl) hW dL_take_14
      · refine vx_catch X.1.2.2.2.1 ([⟨0, 9, 12, 21⟩] : List ExceptionTableEntry) ⟨0, 9, 15, 69⟩ [] (by rw [ht]; rfl) (fun z hz => by
            simp only [List.mem_cons, List.not_mem_nil, or_false] at hz
            rcases hz with rfl
            · exact Or.inr ⟨by decide, "java/lang/IndexOutOfBoundsException", X.w (i := 1) rfl, X.2.2.2.1.2.2.2.2.2.1 _ (by decide) _ (by decide) (by decide)⟩) (by decide) (by decide) (X.w (i := 2) rfl) (va_Nw.use rfl (X.2.2.2.1.2.2.2.2.1 _ (by decide))) g1 g2 g3 ?_
        refine lv_astore_n (lv' := [(3, .ref q9), (0, .ref (ad 0 0)), (1, .int x1), (2, .ref q)]) hx hb dL_take_15 rfl hl (by decide) rfl (fun ls hl => ?_)
        refine lv_iconst (v := 2) hx hb dL_take_16 (by decide) ?_
        exact hI _ _ _ _ _ _ rfl (Nat.le_of_ble_eq_true rfl) (Nat.le_of_ble_eq_true rfl) hW dL_take_17
  · cases o with
    | inl E => cases ho
    | inr r =>
      have ho : (.inr (some (.int r.1), WX Y ad r.2) : oW) = .inr (rv, w) := ho
      cases ho
      refine W.eq (g2 := F0 m 7 ls [.int r.1, .int 0, .ref q]) rfl ?_
      refine lv_i2l (v := r.1.toInt64) hx hb dL_take_7 rfl ?_
      refine lst_ X hKL hW 65 rfl dL_take_8 (ws' := WQ Y ad q cL r.2 (vp_updL fo 0 r.1.toInt64)) rfl (fun H locs hW => ?_)
      refine lv_goto (tgt := 18) hx hb dL_take_9 (by decide) ?_
      refine lv_iconst (v := 0) hx hb dL_take_18 (by decide) ?_
      exact hI _ _ _ _ _ _ rfl (Nat.le_of_ble_eq_true rfl) (Nat.le_of_ble_eq_true rfl) hW dL_take_19
abbrev rmL_rule : Room := { frames := 7, cells := 1, slots := 6, locals := 136 }
set_option maxRecDepth 100000 in
set_option maxHeartbeats 4000000 in
theorem kL_rule (l : Launch) (hst : l.stackTraces = false) (Dd : va_G) (Y : yT) (cL : ClassId) (ad : Nat → Nat → Nat) (q : Nat) (V : gX) (fo : Nat → Int64) (x1 : Int32) (x2 : Int32) (o : oX (Int32 × gX)) (hd : dnX4_rule V x1 x2 = some o) (hE : ∀ E, o = .inl E → E ∈ (["java/lang/IllegalArgumentException"] : List String)) : ML l yL_rule wsL_rule rmL_rule Dd Y cL [.ref (ad 0 0), .int x1, .int x2, .ref q] (WQ Y ad q cL V fo) (WQ Y ad q cL (lwS ["java/lang/IllegalArgumentException"] V fo o).2.1 (lwS ["java/lang/IllegalArgumentException"] V fo o).2.2) (lwS ["java/lang/IllegalArgumentException"] V fo o).1 1 6 := by
  refine MLk (cc := cL_rule) (maxL := 5) (hh := [(0, 10, 13, 13)]) (by decide) rfl (Nat.le_of_ble_eq_true rfl) rfl rfl (fun {p e s m args below meth c A} ls Q X hKL ht hW hl hI => ?_)
  have hx := X.x
  have hb := X.b
  have hl : lv_has ls 5 [(0, .ref (ad 0 0)), (1, .int x1), (2, .int x2), (3, .ref q)] := hl
  refine lv_aload_n hx hb dL_rule_0 rfl (lv_at hl 3 rfl) ?_
  refine lv_iconst (v := 0) hx hb dL_rule_1 (by decide) ?_
  refine lv_aload_n hx hb dL_rule_2 rfl (lv_at hl 0 rfl) ?_
  refine lv_iload_n hx hb dL_rule_3 rfl (lv_at hl 1 rfl) ?_
  refine lv_iload_n hx hb dL_rule_4 rfl (lv_at hl 2 rfl) ?_
  refine xVm_ (As := [.int x1, .int x2]) (rest := [.int 0, .ref q]) (wc := WX Y ad V) (post := [(q, .inl (cL, 1, .inr (.inl fo)))]) X (kX4_rule l hst Dd Y ad V x1 x2 o hd) (cwV 2 X.1.2.2.2.2 gL_rule_X4_rule rfl rfl rfl (by decide +kernel) ⟨(Nat.le_of_ble_eq_true rfl), (Nat.le_of_ble_eq_true rfl)⟩) hW (List.Perm.refl _) 0 4 rfl rfl rfl rfl hl.1 rfl (Nat.le_of_ble_eq_true rfl) dL_rule_5 ⟨(Nat.le_of_ble_eq_true rfl), (Nat.le_of_ble_eq_true rfl)⟩ (fun E H locs ce q9 ho hW g1 g2 g3 => ?_) (fun rv w H locs ho hW => ?_)
  · cases o with
    | inr r => cases ho
    | inl E2 =>
      have ho : (.inl E2 : oW) = .inl E := ho
      cases ho
      have hm := hE E rfl
      simp only [List.mem_cons, List.not_mem_nil, or_false] at hm
      rcases hm with rfl
      · refine vx_catch X.1.2.2.2.1 ([] : List ExceptionTableEntry) ⟨0, 10, 13, 13⟩ [] (by rw [ht]; rfl) (fun z hz => by cases hz) (by decide) (by decide) (X.w (i := 1) rfl) (va_Nw.use rfl (X.2.2.2.1.2.2.2.2.1 _ (by decide))) g1 g2 g3 ?_
        refine lv_astore (lv' := [(4, .ref q9), (0, .ref (ad 0 0)), (1, .int x1), (2, .int x2), (3, .ref q)]) hx hb dL_rule_13 hl (by decide) rfl (fun ls hl => ?_)
        refine lv_iconst (v := 1) hx hb dL_rule_15 (by decide) ?_
        exact hI _ _ _ _ _ _ rfl (Nat.le_of_ble_eq_true rfl) (Nat.le_of_ble_eq_true rfl) hW dL_rule_16
  · cases o with
    | inl E => cases ho
    | inr r =>
      have ho : (.inr (some (.int r.1), WX Y ad r.2) : oW) = .inr (rv, w) := ho
      cases ho
      refine W.eq (g2 := F0 m 8 ls [.int r.1, .int 0, .ref q]) rfl ?_
      refine lv_i2l (v := r.1.toInt64) hx hb dL_rule_8 rfl ?_
      refine lst_ X hKL hW 65 rfl dL_rule_9 (ws' := WQ Y ad q cL r.2 (vp_updL fo 0 r.1.toInt64)) rfl (fun H locs hW => ?_)
      refine lv_goto (tgt := 17) hx hb dL_rule_10 (by decide) ?_
      refine lv_iconst (v := 0) hx hb dL_rule_17 (by decide) ?_
      exact hI _ _ _ _ _ _ rfl (Nat.le_of_ble_eq_true rfl) (Nat.le_of_ble_eq_true rfl) hW dL_rule_18
