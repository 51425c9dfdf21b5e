/-! the whole object of the class, and methods that may throw -/
abbrev gX : Type := gF × gR × gD × gH
def WXo (Y : yT) (ad : Nat → Nat → Nat) (x : gF) : va_W := [(ad 0 0, .inr (4, [.ref (ad 1 0), .ref (ad 2 0), .ref (ad 3 0), .int (x 0 3)]))]
def WX (Y : yT) (ad : Nat → Nat → Nat) (X : gX) : va_W := WXo Y ad X.1 ++ (WR Y (ad 1) X.2.1 ++ (WD Y (ad 3) (ad 4) X.2.2.1 ++ WH Y (ad 2) (fun k => ad (5 + k)) X.2.2.2))
def px_rr (Y : yT) (ad : Nat → Nat → Nat) (X : gX) : va_W := WXo Y ad X.1 ++ (WD Y (ad 3) (ad 4) X.2.2.1 ++ WH Y (ad 2) (fun k => ad (5 + k)) X.2.2.2)
theorem px_r (Y : yT) (ad : Nat → Nat → Nat) (X : gX) : (WX Y ad X).Perm (WR Y (ad 1) X.2.1 ++ px_rr Y ad X) := pm _ _ (fun x => by simp only [WX, px_rr, List.count_append]; omega)
def px_dd (Y : yT) (ad : Nat → Nat → Nat) (X : gX) : va_W := WXo Y ad X.1 ++ (WR Y (ad 1) X.2.1 ++ WH Y (ad 2) (fun k => ad (5 + k)) X.2.2.2)
theorem px_d (Y : yT) (ad : Nat → Nat → Nat) (X : gX) : (WX Y ad X).Perm (WD Y (ad 3) (ad 4) X.2.2.1 ++ px_dd Y ad X) := pm _ _ (fun x => by simp only [WX, px_dd, List.count_append]; omega)
def px_hh (Y : yT) (ad : Nat → Nat → Nat) (X : gX) : va_W := WXo Y ad X.1 ++ WD Y (ad 3) (ad 4) X.2.2.1
theorem px_h (Y : yT) (ad : Nat → Nat → Nat) (X : gX) : (WX Y ad X).Perm ((WHo Y (ad 2) (fun k => ad (5 + k)) X.2.2.2.1 ++ (WRs Y (fun k => ad (5 + k)) X.2.2.2.2 (List.range 8) ++ WR Y (ad 1) X.2.1)) ++ px_hh Y ad X) := pm _ _ (fun x => by simp only [WX, px_hh, WH, List.count_append]; omega)
def WDo (Y : yT) (ad ar : Nat → Nat) (F : gF) : va_W := [(ad 0, .inr (2, [.ref (ad 1), .int (F 0 1), .ref (ar 0), .int (F 0 3), .int (F 0 4), .int (F 0 5), .int (F 0 6), .int (F 0 7), .int (F 0 8), .int (F 0 9), .int (F 0 10)])), (ad 1, .inl (Y.1, 500, .inl (F 1)))]
def px_qq (Y : yT) (ad : Nat → Nat → Nat) (X : gX) : va_W := WXo Y ad X.1 ++ (WDo Y (ad 3) (ad 4) X.2.2.1.1 ++ WH Y (ad 2) (fun k => ad (5 + k)) X.2.2.2)
theorem px_q (Y : yT) (ad : Nat → Nat → Nat) (X : gX) : (WX Y ad X).Perm ((WR Y (ad 1) X.2.1 ++ WR Y (ad 4) X.2.2.1.2) ++ px_qq Y ad X) := pm _ _ (fun x => by
  have e : WD Y (ad 3) (ad 4) X.2.2.1 = WDo Y (ad 3) (ad 4) X.2.2.1.1 ++ WR Y (ad 4) X.2.2.1.2 := rfl
  simp only [WX, px_qq, e, List.count_append]; omega)
/-- threw E, or handed back -/
def oX (α : Type) : Type := String ⊕ α
def bx {α β : Type} (o : Option (oX α)) (f : α → Option (oX β)) : Option (oX β) := match o with
  | none => none
  | some (.inl E) => some (.inl E)
  | some (.inr a) => f a
theorem bx_e {α β : Type} {o : Option (oX α)} {f : α → Option (oX β)} {r : oX β} (h : bx o f = some r) : ∃ q, o = some q ∧ ((∃ E, q = .inl E ∧ r = .inl E) ∨ ∃ a, q = .inr a ∧ f a = some r) := by
  cases o with
  | none => cases h
  | some q =>
    cases q with
    | inl E => exact ⟨_, rfl, Or.inl ⟨E, rfl, (Option.some.inj h).symm⟩⟩
    | inr a => exact ⟨_, rfl, Or.inr ⟨a, rfl, h⟩⟩
def rzx (v : Int32) : Option (oX Int32) := if v = 0 ∨ v = 1 then some (.inr v) else none
theorem rzx_e {v : Int32} {r : oX Int32} (h : rzx v = some r) : (v = 0 ∨ v = 1) ∧ (.inr v : oX Int32) = r := by
  unfold rzx at h
  by_cases c : v = 0 ∨ v = 1
  · rw [if_pos c] at h; exact ⟨c, Option.some.inj h⟩
  · rw [if_neg c] at h; cases h
abbrev oW : Type := String ⊕ (Option Value × va_W)
def oI (Y : yT) (ad : Nat → Nat → Nat) (X : gX) (o : oX Int32) : oW := match o with
  | .inl E => .inl E
  | .inr r => .inr (some (.int r), WX Y ad X)
def oV (Y : yT) (ad : Nat → Nat → Nat) (X : gX) (o : oX Unit) : oW := match o with
  | .inl E => .inl E
  | .inr _ => .inr (none, WX Y ad X)
def oS (Y : yT) (ad : Nat → Nat → Nat) (o : oX (Int32 × gX)) : oW := match o with
  | .inl E => .inl E
  | .inr r => .inr (some (.int r.1), WX Y ad r.2)
/-- a contract of a method that may throw: where it does, the world is what it was -/
def MX (l : Launch) (y : MethodName) (words : List Cond) (rm : Room) (Dd : va_G) (Y : yT) (av : List Value) (ws : va_W) (o : oW) (mc ms : Nat) : Prop :=
  ∀ sz : Nat, vx_Met l y words rm (va_Pc av (sPre Dd Y sz ws)) (fun a st oc t => ∃ rv w, o = .inr (rv, w) ∧ Qg Dd Y (va_A ws sz) w rv a st oc t) (fun E st t => o = .inl E ∧ sEnd Dd Y (va_A ws sz) ws t ∧ va_F (va_A ws sz) st t) mc ms (va_A ws sz)
abbrev NM : List String := ["java/lang/RuntimeException", "java/lang/Exception"]
abbrev nsE : String := "java/util/NoSuchElementException"
/-- what a throw of E needs -/
def atE (ic : Nat) (E : String) : List Cond := if E = nsE then vx_atX RX4 ic E 13 nsC NM else vx_atS RX4 ic E NM
theorem atE_n (ic : Nat) : atE ic nsE = vx_atX RX4 ic nsE 13 nsC NM := if_pos rfl
theorem atE_s {ic : Nat} {E : String} (h : E ≠ nsE) : atE ic E = vx_atS RX4 ic E NM := if_neg h
theorem at_rest : ∀ ic : Nat, ∀ E ∈ eWs, ∀ w ∈ atE ic E, goodWord w = true ∨ w = .castable E E ∨ ∃ d ∈ dWs, w = .declares d := by
  intro ic E hE w hw
  have h0 : ∀ E ∈ eWs, ∀ w ∈ atE 0 E, (goodWord w = true ∨ w = .castable E E ∨ ∃ d ∈ dWs, w = .declares d) := by decide +kernel
  by_cases hl : w = .methodLink RX4 ic (Bundle.initS E)
  · exact Or.inl (by rw [hl]; rfl)
  · refine h0 E hE w ?_
    by_cases hn : E = nsE
    · subst hn
      rw [atE_n] at hw ⊢
      simp only [vx_atX, Bundle.ownAtomsX, List.mem_filter, List.mem_append, List.mem_cons] at hw ⊢
      refine ⟨?_, hw.2⟩
      rcases hw.1 with h | h
      · exact Or.inl h
      · rcases h with h | h
        · exact absurd h hl
        · exact Or.inr (Or.inr h)
    · rw [atE_s hn] at hw ⊢
      simp only [vx_atS, Bundle.ownAtoms, List.mem_filter, List.mem_append, List.mem_cons] at hw ⊢
      refine ⟨?_, hw.2⟩
      rcases hw.1 with h | h
      · exact Or.inl h
      · rcases h with h | h
        · exact absurd h hl
        · exact Or.inr (Or.inr h)
theorem at_ot : ∀ ic : Nat, ∀ E ∈ eWs, ∀ w ∈ atE ic E, vx_ot w = true := by
  intro ic E hE w hw
  rcases at_rest ic E hE w hw with h | rfl | ⟨d, -, rfl⟩
  · simp [vx_ot, h]
  · rfl
  · rfl
section MXS
variable {p : Program} {l : Launch} {e : Env} {R : Room} {s : State} {m : MethodId} {args : Array Value} {below : List Frame} {meth : Method} {c : Code} {H : Heap} {locs : List Loc} {cells slots : Nat} {Q : State → Prop}
variable {cc : ByteArray} {nL pc : Nat} {Ts : List Cond} {own : String} {Dd : va_G} {Y : yT} {A : Nat → Prop} {ls : Array Slot} {rest st : List Value} {ws : va_W} {a : Nat}
/-- the ends of a body that may throw -/
def eT (p : Program) (l : Launch) (e : Env) (rm : Room) (s : State) (m : MethodId) (args : Array Value) (below : List Frame) (meth : Method) (c : Code) (cc : ByteArray) (Q : State → Prop) (Dd : va_G) (A : Nat → Prop) (ws : va_W) (o : oW) (mc ms : Nat) : Prop :=
  ∀ (cells slots : Nat) (H : Heap) (locs : List Loc) (ls : Array Slot) (pc : Nat) (rest : List Value) (E : String) (ce : Cell) (q : Addr), o = .inl E → cells ≤ mc → slots ≤ ms → Wd Dd A s.heap ws H locs → H[q]? = some ce → ce.vm = .none → s.vm.findClass E = some ce.cls → vx_W p l e rm s m args below meth c H locs cells slots Q (F0 m pc ls rest) q
def eN (p : Program) (l : Launch) (e : Env) (rm : Room) (s : State) (m : MethodId) (args : Array Value) (below : List Frame) (meth : Method) (c : Code) (cc : ByteArray) (maxL : Nat) (words : List Cond) (Q : State → Prop) (Dd : va_G) (A : Nat → Prop) (ws : va_W) (o : oW) (mc ms : Nat) : Prop :=
  ∀ (cells slots : Nat) (H : Heap) (locs : List Loc) (ls : Array Slot) (pc : Nat) (rest : List Value) (E text : String) (ik is ic i1 i2 iS : Nat), o = .inl E → E ∈ eWs → words[i1]? = some (.classLink RX4 ik E) → words[i2]? = some (.initialized E) → xWs[iS]? = some (is, text) → (∀ w ∈ (atE ic E).filter goodWord, w ∈ words) → Wd Dd A s.heap ws H locs → ls.size = maxL → (rest.map fun v => v.category).sum ≤ 8 →
    decode cc pc = .ok (.new ik, 3) → decode cc (pc + 3) = .ok (.dup, 1) → decode cc (pc + 4) = .ok (.ldc is, 2) → decode cc (pc + 6) = .ok (.invokespecial ic, 3) → decode cc (pc + 9) = .ok (.athrow, 1) → 6 ≤ rm.frames → 90 ≤ rm.locals → cells + 1 ≤ mc → slots + 6 ≤ ms → W p l e rm s m args below meth c H locs cells slots Q (F0 m pc ls rest)
theorem MXk {y : MethodName} {words ws9 : List Cond} {rm : Room} {maxL : Nat} {ret : Option FieldType} {av : List Value} {o : oW} {mc ms : Nat} (hst : l.stackTraces = false) (hcls : y.cls = RX4) (hy : plainName y.cls = true) (hw : words = .code y cc maxL ret :: ws9) (hlen : (lg_sl av).length ≤ maxL) (hmc : mc = rm.cells) (hms : ms = rm.slots)
    (k : ∀ {p : Program} {e : Env} {s : State} {m : MethodId} {args : Array Value} {below : List Frame} {meth : Method} {c : Code} {A : Nat → Prop} (ls : Array Slot) (Q : State → Prop), cx p s m args c cc maxL words y.cls Dd Y A → Wd Dd A s.heap ws s.heap [] → lv_has ls maxL (lv_args 0 av) →
      (∀ (cells slots : Nat) (H : Heap) (locs : List Loc) (ls : Array Slot) (pc : Nat) (r : Int32) (w : va_W) (ty : FieldType), o = .inr (some (.int r), w) → ret = some ty → narrow ty (.int r) = .int r → cells ≤ mc → slots ≤ ms → Wd Dd A s.heap w H locs → decode cc pc = .ok (.ireturn, 1) → W p l e rm s m args below meth c H locs cells slots Q (F0 m pc ls [.int r])) →
      (∀ (cells slots : Nat) (H : Heap) (locs : List Loc) (ls : Array Slot) (pc : Nat) (w : va_W), o = .inr (none, w) → ret = none → cells ≤ mc → slots ≤ ms → Wd Dd A s.heap w H locs → decode cc pc = .ok (.return_, 1) → W p l e rm s m args below meth c H locs cells slots Q (F0 m pc ls [])) →
      eT p l e rm s m args below meth c cc Q Dd A ws o mc ms → eN p l e rm s m args below meth c cc maxL words Q Dd A ws o mc ms →
      W p l e rm s m args below meth c s.heap [] 0 0 Q (F0 m 0 ls [])) : MX l y words rm Dd Y av ws o mc ms := by
  intro sz
  refine vx_ofW (cc := cc) (maxL := maxL) (ret := ret) hy hw ?_
  intro p e s m args below meth c s₁ B hml hnt hv
  obtain ⟨rfl, hsz, hP, hK, hD0, hX, hZ⟩ := hv
  subst hsz
  have hD : va_D (va_A ws s.heap.size) ws := hD0.self
  have hts := atoms_spec (ws := words) B.pre
  have hown : s.vm.findClass y.cls = some m.cls := findClass_of_methodNamed B.named
  rw [lg_entry_eq]
  refine k _ _ ⟨⟨B.exec, B.bytes, hml, hown, hts⟩, hK, fun q h => Or.inr h, hX, hZ⟩ ⟨hP, hD, va_S.rf⟩ (lv_entry av hlen) ?_ ?_ ?_ ?_
  · intro cells slots H locs ls pc r w ty ho hret hn hc hs hW hdg
    refine W.widen hc hs (vx_ret ?_)
    exact W.zret B.exec B.bytes (hret ▸ B.returns) hn (fun t ht hWm => ⟨_, _, ho, ⟨rfl, by rw [ht]; exact hW.1, va_K.moved hWm.alike hK, hW.2.1⟩, hW.2.2.F ht⟩) hW.2.2.2.2 hdg B.notSynchronized
  · intro cells slots H locs ls pc w ho hret hc hs hW hdg
    refine W.widen hc hs (vx_ret ?_)
    exact W.vret B.exec B.bytes (hret ▸ B.returns) (fun t ht hWm => ⟨_, _, ho, ⟨rfl, by rw [ht]; exact hW.1, va_K.moved hWm.alike hK, hW.2.1⟩, hW.2.2.F ht⟩) hW.2.2.2.2 hdg B.notSynchronized
  · intro cells slots H locs ls pc rest E ce q ho hc hs hW hq hv hcl
    exact vx_out (fun x hx => (hnt x hx).elim) B.notSynchronized hq hv hcl (fun t ht hal => ⟨ho, ⟨by rw [ht]; exact hW.1, va_K.moved hal hK, hW.2.1⟩, hW.2.2.F ht⟩) hW.2.2.2.2 hc hs
  · intro cells slots H locs ls pc rest E text ik is ic i1 i2 iS ho hE h1 h2 h3 hat hW hz hr d0 d3 d4 d6 d9 hfr hlo hc hs
    obtain ⟨sa, hsa⟩ := hX.2.2.1 _ (List.mem_of_getElem? h3)
    have hfit : Bundle.fit E = true := (show ∀ E ∈ eWs, Bundle.fit E = true from by decide +kernel) E hE
    have hat2 : ∀ w ∈ atE ic E, w.before av.toArray s = true := by
      refine vx_hat (B := (dWs.map fun d => Cond.declares d) ++ [.castable E E]) (fun w hw => hts w (hat w hw)) (fun w hw => ?_) (fun w hw => ?_)
      · obtain ⟨hw1, hw2⟩ := List.mem_filter.mp hw
        rcases at_rest ic E hE w hw1 with h | rfl | ⟨d, hd, rfl⟩
        · rw [h] at hw2; cases hw2
        · exact List.mem_append_right _ (List.mem_singleton.mpr rfl)
        · exact List.mem_append_left _ (List.mem_map.mpr ⟨d, hd, rfl⟩)
      · rcases List.mem_append.mp hw with h | h
        · obtain ⟨d, hd, rfl⟩ := List.mem_map.mp h
          exact va_Nw.use rfl (hX.2.2.2.1 d hd)
        · rw [List.mem_singleton.mp h]
          exact va_Nw.use rfl (hX.2.2.2.2.1 E hE)
    have hot2 : ∀ w ∈ Cond.classLink RX4 ik E :: Cond.initialized E :: atE ic E, vx_ot w = true := by
      intro w hw
      rcases List.mem_cons.mp hw with rfl | hw
      · rfl
      · rcases List.mem_cons.mp hw with rfl | hw
        · rfl
        · exact at_ot ic E hE w hw
    have hx2 : ∀ t : State, s.vm.Alike t.vm → H.size ≤ t.heap.size → (∀ q : Nat, q < H.size → t.heap[q]? = H[q]?) → o = .inl E ∧ sEnd Dd Y (va_A ws s.heap.size) ws t ∧ va_F (va_A ws s.heap.size) s t := by
      intro t hal hsz hkeep
      have hP1 : va_P Dd vwCl ws t.heap := hW.1.kept (fun k q hk => hkeep q.1 (hW.1 k q hk).lt)
      exact ⟨ho, ⟨hP1, va_K.moved hal hK, hW.2.1⟩, ⟨Nat.le_trans hW.2.2.1 hsz, fun q h1 h2 => by rw [hkeep q (Nat.lt_of_lt_of_le h1 hW.2.2.1)]; exact hW.2.2.2.1 q h1 h2⟩⟩
    by_cases hn : E = nsE
    · subst hn
      rw [atE_n] at hat2 hot2
      exact vx_throwX B.exec B.bytes hst (own := RX4) (cls := nsE) (text := text) (names := NM) (ik := ik) (is := is) (ic := ic) (sa := sa) (A := va_A ws s.heap.size) (by decide +kernel) (by decide +kernel) (by decide +kernel) (by decide +kernel) (by rw [← hcls]; exact hown) hfit (by decide +kernel) (hts _ (List.mem_of_getElem? h1)) (hts _ (List.mem_of_getElem? h2)) hsa hat2 hot2 hZ.2.2.2.1 hZ.2.2.2.2.1 hW.2.2 (hz.trans hml.symm) d0 d3 d4 d6 d9 (fun x hx => (hnt x hx).elim) (Nat.lt_of_lt_of_le (by decide) hfr) (Nat.le_trans (Nat.add_le_add_right hr _) hlo) (by rw [← hmc]; exact hc) (by rw [← hms]; exact hs) B.notSynchronized hx2 hW.2.2.2.2 hc hs
    · rw [atE_s hn] at hat2 hot2
      exact vx_throwS B.exec B.bytes hst (own := RX4) (cls := E) (text := text) (names := NM) (ik := ik) (is := is) (ic := ic) (sa := sa) (A := va_A ws s.heap.size) (by rw [← hcls]; exact hown) hfit (by decide +kernel) (hts _ (List.mem_of_getElem? h1)) (hts _ (List.mem_of_getElem? h2)) hsa hat2 hot2 hZ.2.2.2.1 hZ.2.2.2.2.1 hW.2.2 (hz.trans hml.symm) d0 d3 d4 d6 d9 (fun x hx => (hnt x hx).elim) (Nat.lt_of_lt_of_le (by decide) hfr) (Nat.le_trans (Nat.add_le_add_right hr _) hlo) (by rw [← hmc]; exact hc) (by rw [← hms]; exact hs) B.notSynchronized hx2 hW.2.2.2.2 hc hs
/-- a call of a method that may throw, over the whole world at hand -/
theorem xV_ (X : cx p s m args c cc nL Ts own Dd Y A) {y : MethodName} {words : List Cond} {rm : Room} {As : List Value} {o : oW} {bytes : ByteArray} {maxL n index b mc ms : Nat} {ret : Option FieldType} {C : String} (hM : MX l y words rm Dd Y (.ref b :: As) ws o mc ms) (cw : CallW R s args own C index y bytes maxL ret words rm mc ms n) (hW : Wd Dd A s.heap ws H locs) (q0 ci : Nat) {q : vw_C} {fs : List Value} (hc : vwCl[ci]? = some q) (hq : q.1 = C) (he : ws[q0]? = some (b, .inr (ci, fs))) (hn : As.length = n) (hl : ls.size = nL) (hst : st = As.reverse ++ .ref b :: rest) (hr : (rest.map fun v => v.category).sum ≤ 8) (hdg : decode cc pc = .ok (.invokevirtual index, 3)) (hf : cells + mc ≤ R.cells ∧ slots + ms ≤ R.slots)
    (kx : ∀ (E : String) (H : Heap) (locs : List Loc) (ce : Cell) (q9 : Addr), o = .inl E → Wd Dd A s.heap ws H locs → H[q9]? = some ce → ce.vm = .none → s.vm.findClass E = some ce.cls → vx_W p l e R s m args below meth c H locs (cells + mc) (slots + ms) Q (F0 m pc ls rest) q9)
    (kk : ∀ (rv : Option Value) (w : va_W) (H : Heap) (locs : List Loc), o = .inr (rv, w) → Wd Dd A s.heap w H locs → W p l e R s m args below meth c H locs (cells + mc) (slots + ms) Q (F0 m (pc + 3) ls (rv.toList ++ rest))) : W p l e R s m args below meth c H locs cells slots Q (F0 m pc ls st) := by
  subst hq
  have hF := wd_free X.2.2.1 hW
  have hrun := vx_runV (l := l) (below := below) (e := e) (meth := meth) (locs := locs) (cells := cells) (slots := slots) (As := As) (rest := rest) (H := H) X.1 (hM H.size) cw ⟨sPre.blind _ _ _ _ _, va_recv X.2.1 hW.1 hc he, fun U hU hWm => ⟨rfl, by rw [hU], by rw [hU]; exact hW.1, va_K.moved hWm.alike X.2.1, hW.2.1.weaken (fun _ _ _ _ => trivial), X.2.2.2.1.warm hWm, cx.z X hW.2.2 hF hU hWm⟩⟩ (g := F0 m pc ls st) rfl hn hl hst (lv_room hr) hdg hf
  intro T hT XS
  rcases hrun T hT XS with ⟨v, st₀, t, T', L, h0, X', hL, e1, e2, ⟨rv9, w, ho, ⟨hv, hP, -, hD⟩, hFr⟩, stp⟩ | ⟨q, st₀, t, T', L, E, ce, h0, X', hL, e1, e2, ⟨ho, ⟨hP, -, hD⟩, hFr⟩, hce, hcv, hcl, stp⟩
  · obtain rfl : v = rv9 := by cases hv; rfl
    obtain ⟨k1, k2, k3⟩ := vx_keep h0 e1 hW.2.2 (fun q _ h => hF q h) hF hL hFr
    obtain ⟨t2, a1, b1⟩ := kk v w T'.heap (locs ++ L) ho ⟨by rw [e1]; exact hP, hD.weaken (fun k q _ h => hF q.1 h), k3⟩ T' rfl X'
    exact ⟨t2, stp t2 a1, b1⟩
  · obtain ⟨k1, k2, k3⟩ := vx_keep h0 e1 hW.2.2 (fun q _ h => hF q h) hF hL hFr
    obtain ⟨t2, a1, b1⟩ := kx E T'.heap (locs ++ L) ce q ho ⟨by rw [e1]; exact hP, hD.weaken (fun k q _ h => hF q.1 h), k3⟩ (by rw [e1]; exact hce) hcv hcl T' rfl X'
    exact ⟨t2, stp.trans a1, b1⟩
end MXS
