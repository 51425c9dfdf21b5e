/-! what a copy is; the rows that are kept for undo; the whole object -/
theorem MG.post {l : Launch} {y : MethodName} {words : List Cond} {rm : Room} {Dd : va_G} {Y : yT} {av : List Value} {ws w1 w2 : va_W} {rv : Option Value} (h : MG l y words rm Dd Y av ws w1 rv) (hp : ∀ H, va_P Dd vwCl w1 H → va_P Dd vwCl w2 H) (hm : w1.map (fun q => q.1) = w2.map (fun q => q.1)) : MG l y words rm Dd Y av ws w2 rv := by
  intro sz p e a b c s m args below h1 h2 hP hK
  obtain ⟨n, o, q1, q2, q3, ⟨⟨⟨g1, g2, g3, g4⟩, g5⟩, hL⟩⟩ := h sz p e a b c s m args below h1 h2 hP hK
  refine ⟨n, o, q1, q2, q3, ⟨⟨⟨g1, hp _ g2, g3, ?_⟩, g5⟩, hL⟩⟩
  obtain ⟨d1, d2⟩ := bk_D.mp g4
  refine bk_D.mpr ⟨hm ▸ d1, fun q hq => ?_⟩
  have : q.1 ∈ w1.map (fun q => q.1) := by rw [hm]; exact List.mem_map.mpr ⟨q, hq, rfl⟩
  obtain ⟨q', hq', e⟩ := List.mem_map.mp this
  rw [← e]
  exact d2 q' hq'
theorem vp_cpy {c : ClassId} {n : Nat} {f g : Nat → Int32} : vp_cell c (n, .inl (va_cpy f g 0 0 n)) = vp_cell c (n, .inl f) := by
  rw [vp_cell_i, vp_cell_i]
  unfold arrV
  congr 1
  apply Array.ext
  · simp
  · intro j h1 h2
    have hj : j < n := by simpa using h1
    simp [va_cpy, hj]
theorem kX1_copy (l : Launch) (Dd : va_G) (Y : yT) (ad bd : Nat → Nat) (G G2 : gR) : MG l yX1_copyFrom wsX1_copyFrom rmX1_copyFrom Dd Y [.ref (ad 0), .ref (bd 0)] (WR Y ad G ++ WR Y bd G2) (WR Y ad G2 ++ WR Y bd G2) none := by
  refine (kX1_copyFrom l Dd Y ad bd (G, G2) _ rfl).post (fun H h => ?_) rfl
  intro k q hk
  match k, hk with
  | 0, hk => cases hk; exact h 0 _ rfl
  | 1, hk => cases hk; have := h 1 _ rfl; exact this.trans (congrArg some vp_cpy)
  | 2, hk => cases hk; have := h 2 _ rfl; exact this.trans (congrArg some vp_cpy)
  | 3, hk => cases hk; exact h 3 _ rfl
  | 4, hk => cases hk; have := h 4 _ rfl; exact this.trans (congrArg some vp_cpy)
  | 5, hk => cases hk; have := h 5 _ rfl; exact this.trans (congrArg some vp_cpy)
  | k + 6, hk => exact h (k + 6) q hk
/-- the history: bank 0 its int fields; the rows -/
abbrev gH : Type := gF × (Nat → gR)
def WHo (Y : yT) (ah : Nat → Nat) (ar : Nat → Nat → Nat) (h : gF) : va_W := [(ah 0, .inr (0, [.ref (ah 1), .int (h 0 1), .int (h 0 2)])), (ah 1, .inl (Y.2.2.1, 8, .inr (.inr (.inr (.inr (fun k => some (ar k 0)))))))]
def WRs (Y : yT) (ar : Nat → Nat → Nat) (K : Nat → gR) (js : List Nat) : va_W := js.flatMap (fun k => WR Y (ar k) (K k))
def WH (Y : yT) (ah : Nat → Nat) (ar : Nat → Nat → Nat) (h : gH) : va_W := WHo Y ah ar h.1 ++ WRs Y ar h.2 (List.range 8)
def js_o (j : Nat) : List Nat := List.range j ++ (List.range (7 - j)).map (fun i => i + j + 1)
theorem js_p : ∀ j, j < 8 → (List.range 8).Perm (j :: js_o j) := by decide
theorem js_n : ∀ j, j < 8 → ∀ k ∈ js_o j, k ≠ j := by decide
theorem WRs_p (Y : yT) (ar : Nat → Nat → Nat) (K : Nat → gR) {j : Nat} (hj : j < 8) : (WRs Y ar K (List.range 8)).Perm (WR Y (ar j) (K j) ++ WRs Y ar K (js_o j)) := (js_p j hj).flatMap_right _
theorem WRs_u0 (Y : yT) (ar : Nat → Nat → Nat) (K : Nat → gR) (G : gR) (j : Nat) : ∀ js : List Nat, (∀ k ∈ js, k ≠ j) → WRs Y ar (va_up K j G) js = WRs Y ar K js := by
  intro js
  induction js with
  | nil => intro _; rfl
  | cons a js ih =>
    intro h
    show WR Y (ar a) (va_up K j G a) ++ WRs Y ar (va_up K j G) js = WR Y (ar a) (K a) ++ WRs Y ar K js
    rw [ih (fun k hk => h k (List.mem_cons_of_mem _ hk)), show va_up K j G a = K a from by simp [va_up, h a List.mem_cons_self]]
theorem WRs_u (Y : yT) (ar : Nat → Nat → Nat) (K : Nat → gR) (G : gR) {j : Nat} (hj : j < 8) : WRs Y ar (va_up K j G) (js_o j) = WRs Y ar K (js_o j) := WRs_u0 Y ar K G j _ (js_n j hj)
theorem pm {α : Type} (a b : List α) (h : ∀ [DecidableEq α] (x : α), a.count x = b.count x) : a.Perm b := by
  classical
  exact List.perm_iff_count.mpr (fun x => h x)
section HIST
variable {p : Program} {l : Launch} {e : Env} {R : Room} {s : State} {m : MethodId} {args : Array Value} {below : List Frame} {meth : Method} {c : Code} {H : Heap} {locs : List Loc} {cells slots : Nat} {Q : State → Prop}
variable {cc : ByteArray} {nL pc : Nat} {Ts : List Cond} {own : String} {Dd : va_G} {Y : yT} {A : Nat → Prop} {ls : Array Slot} {rest st : List Value} {ws : va_W} {a : Nat}
theorem va_P.perm {w1 w2 : va_W} (hp : w1.Perm w2) (h : va_P Dd vwCl w1 H) : va_P Dd vwCl w2 H := fun k q hk => by
  obtain ⟨i, hi⟩ := List.getElem?_of_mem (hp.symm.subset (List.mem_of_getElem? hk))
  exact h i q hi
theorem va_D.perm {w1 w2 : va_W} (hp : w1.Perm w2) (h : va_D A w1) : va_D A w2 := by
  obtain ⟨d1, d2⟩ := bk_D.mp h
  exact bk_D.mpr ⟨(hp.map _).nodup_iff.mp d1, fun q hq => d2 q (hp.symm.subset hq)⟩
theorem Wd.perm {H0 : Heap} {w1 w2 : va_W} (hp : w1.Perm w2) (h : Wd Dd A H0 w1 H locs) : Wd Dd A H0 w2 H locs := ⟨h.1.perm hp, h.2.1.perm hp, h.2.2⟩
/-- a virtual call over a part of the world, in whatever order -/
theorem cVm_ (X : cx p s m args c cc nL Ts own Dd Y A) {y : MethodName} {words : List Cond} {rm : Room} {As : List Value} {wc post w1 ws' : va_W} {rv : Option Value} {bytes : ByteArray} {maxL n index b : Nat} {ret : Option FieldType} {C : String} (hM : MG l y words rm Dd Y (.ref b :: As) wc w1 rv) (cw : CallW R s args own C index y bytes maxL ret words rm 0 0 n) (hW : Wd Dd A s.heap ws H locs) (hsp : ws.Perm (wc ++ post)) (hsq : (w1 ++ post).Perm ws') (q0 ci : Nat) {q : vw_C} {fs : List Value} (hc : vwCl[ci]? = some q) (hq : q.1 = C) (he : wc[q0]? = some (b, .inr (ci, fs))) (hn : As.length = n) (hl : ls.size = nL) (hst : st = As.reverse ++ .ref b :: rest) (hr : (rest.map fun v => v.category).sum ≤ 8) (hdg : decode cc pc = .ok (.invokevirtual index, 3)) (hf : cells ≤ R.cells ∧ slots ≤ R.slots)
    (kk : ∀ (H : Heap) (locs : List Loc), Wd Dd A s.heap ws' H locs → W p l e R s m args below meth c H locs cells slots Q (F0 m (pc + 3) ls (rv.toList ++ rest))) : W p l e R s m args below meth c H locs cells slots Q (F0 m pc ls st) :=
  cVp_ (pre := []) X hM cw (hW.perm hsp) rfl rfl q0 ci hc hq he hn hl hst hr hdg hf (fun H locs h => kk H locs (h.perm hsq))
theorem cVmi_ (X : cx p s m args c cc nL Ts own Dd Y A) {y : MethodName} {words : List Cond} {rm : Room} {As : List Value} {wc post w1 ws' : va_W} {r9 : Int32} {bytes : ByteArray} {maxL n index b : Nat} {ret : Option FieldType} {C : String} (hM : MG l y words rm Dd Y (.ref b :: As) wc w1 (some (.int r9))) (cw : CallW R s args own C index y bytes maxL ret words rm 0 0 n) (hW : Wd Dd A s.heap ws H locs) (hsp : ws.Perm (wc ++ post)) (hsq : (w1 ++ post).Perm ws') (q0 ci : Nat) {q : vw_C} {fs : List Value} (hc : vwCl[ci]? = some q) (hq : q.1 = C) (he : wc[q0]? = some (b, .inr (ci, fs))) (hn : As.length = n) (hl : ls.size = nL) (hst : st = As.reverse ++ .ref b :: rest) (hr : (rest.map fun v => v.category).sum ≤ 8) (hdg : decode cc pc = .ok (.invokevirtual index, 3)) (hf : cells ≤ R.cells ∧ slots ≤ R.slots)
    (kk : ∀ (H : Heap) (locs : List Loc), Wd Dd A s.heap ws' H locs → W p l e R s m args below meth c H locs cells slots Q (F0 m (pc + 3) ls (.int r9 :: rest))) : W p l e R s m args below meth c H locs cells slots Q (F0 m pc ls st) := cVm_ X hM cw hW hsp hsq q0 ci hc hq he hn hl hst hr hdg hf kk
theorem cVml_ (X : cx p s m args c cc nL Ts own Dd Y A) {y : MethodName} {words : List Cond} {rm : Room} {As : List Value} {wc post w1 ws' : va_W} {r9 : Int64} {bytes : ByteArray} {maxL n index b : Nat} {ret : Option FieldType} {C : String} (hM : MG l y words rm Dd Y (.ref b :: As) wc w1 (some (.long r9))) (cw : CallW R s args own C index y bytes maxL ret words rm 0 0 n) (hW : Wd Dd A s.heap ws H locs) (hsp : ws.Perm (wc ++ post)) (hsq : (w1 ++ post).Perm ws') (q0 ci : Nat) {q : vw_C} {fs : List Value} (hc : vwCl[ci]? = some q) (hq : q.1 = C) (he : wc[q0]? = some (b, .inr (ci, fs))) (hn : As.length = n) (hl : ls.size = nL) (hst : st = As.reverse ++ .ref b :: rest) (hr : (rest.map fun v => v.category).sum ≤ 8) (hdg : decode cc pc = .ok (.invokevirtual index, 3)) (hf : cells ≤ R.cells ∧ slots ≤ R.slots)
    (kk : ∀ (H : Heap) (locs : List Loc), Wd Dd A s.heap ws' H locs → W p l e R s m args below meth c H locs cells slots Q (F0 m (pc + 3) ls (.long r9 :: rest))) : W p l e R s m args below meth c H locs cells slots Q (F0 m pc ls st) := cVm_ X hM cw hW hsp hsq q0 ci hc hq he hn hl hst hr hdg hf kk
theorem cVmv_ (X : cx p s m args c cc nL Ts own Dd Y A) {y : MethodName} {words : List Cond} {rm : Room} {As : List Value} {wc post w1 ws' : va_W} {bytes : ByteArray} {maxL n index b : Nat} {ret : Option FieldType} {C : String} (hM : MG l y words rm Dd Y (.ref b :: As) wc w1 none) (cw : CallW R s args own C index y bytes maxL ret words rm 0 0 n) (hW : Wd Dd A s.heap ws H locs) (hsp : ws.Perm (wc ++ post)) (hsq : (w1 ++ post).Perm ws') (q0 ci : Nat) {q : vw_C} {fs : List Value} (hc : vwCl[ci]? = some q) (hq : q.1 = C) (he : wc[q0]? = some (b, .inr (ci, fs))) (hn : As.length = n) (hl : ls.size = nL) (hst : st = As.reverse ++ .ref b :: rest) (hr : (rest.map fun v => v.category).sum ≤ 8) (hdg : decode cc pc = .ok (.invokevirtual index, 3)) (hf : cells ≤ R.cells ∧ slots ≤ R.slots)
    (kk : ∀ (H : Heap) (locs : List Loc), Wd Dd A s.heap ws' H locs → W p l e R s m args below meth c H locs cells slots Q (F0 m (pc + 3) ls rest)) : W p l e R s m args below meth c H locs cells slots Q (F0 m pc ls st) := cVm_ X hM cw hW hsp hsq q0 ci hc hq he hn hl hst hr hdg hf kk
theorem MGr {y : MethodName} {words ws9 : List Cond} {rm : Room} {maxL : Nat} {C : String} {av : List Value} {ws' : va_W} {r : Nat} (hy : plainName y.cls = true) (hw : words = .code y cc maxL (some (.object C)) :: ws9) (hlen : (lg_sl av).length ≤ maxL)
    (k : ∀ {p : Program} {e : Env} {s : State} {m : MethodId} {args : Array Value} {below : List Frame} {meth : Method} {c : Code} {A : Nat → Prop} (ls : Array Slot) (Q : State → Prop), cx p s m args c cc maxL words y.cls Dd Y A → Wd Dd A s.heap ws s.heap [] → lv_has ls maxL (lv_args 0 av) →
      (∀ (H : Heap) (locs : List Loc) (ls : Array Slot) (pc : Nat), Wd Dd A s.heap ws' H locs → decode cc pc = .ok (.areturn, 1) → W p l e rm s m args below meth c H locs 0 0 Q (F0 m pc ls [.ref r])) → W p l e rm s m args below meth c s.heap [] 0 0 Q (F0 m 0 ls [])) : MG l y words rm Dd Y av ws ws' (some (.ref r)) := by
  intro sz
  refine Met.ofW (cc := cc) (maxL := maxL) (ret := some (.object C)) hy hw ?_
  intro p e s m args below meth c s₁ B hml hv
  obtain ⟨rfl, hsz, hP, hK, hD0, hX, hZ⟩ := hv
  subst hsz
  have hD : va_D (va_A ws s.heap.size) ws := hD0.self
  have hts := atoms_spec (ws := words) B.pre
  have hown : s.vm.findClass y.cls = some m.cls := findClass_of_methodNamed B.named
  rw [lg_entry_eq]
  refine k _ _ ⟨⟨B.exec, B.bytes, hml, hown, hts⟩, hK, fun q h => Or.inr h, hX, hZ⟩ ⟨hP, hD, va_S.rf⟩ (lv_entry av hlen) (fun H locs ls pc hW hdg => ?_)
  exact W.aret B.exec B.bytes B.returns (Or.inl ⟨C, rfl⟩) (Or.inr ⟨r, rfl⟩) (fun t ht hWm => ⟨⟨rfl, by rw [ht]; exact hW.1, va_K.moved hWm.alike hK, hW.2.1⟩, hW.2.2.F ht⟩) hW.2.2.2.2 hdg B.notSynchronized
end HIST
abbrev rmX0_rowAt : Room := { frames := 0, cells := 0, slots := 0, locals := 0 }
set_option maxRecDepth 100000 in
set_option maxHeartbeats 4000000 in
theorem kX0_rowAt (l : Launch) (Dd : va_G) (Y : yT) (ah : Nat → Nat) (ar : Nat → Nat → Nat) (h : gF) (j : Nat) (hj : j < 8) : MG l yX0_rowAt wsX0_rowAt rmX0_rowAt Dd Y [.ref (ah 0), .int (nI j)] (WHo Y ah ar h) (WHo Y ah ar h) (some (.ref (ar j 0))) := by
  refine MGr (cc := cX0_rowAt) (maxL := 2) (C := "DoubledRows$Row") (by decide) rfl (Nat.le_of_ble_eq_true rfl) (fun {p e s m args below meth c A} ls Q X hW hl hQ => ?_)
  have hx := X.x
  have hb := X.b
  have hl : lv_has ls 2 [(0, .ref (ah 0)), (1, .int (nI j))] := hl
  have hin : ∀ w ∈ wsX00, w ∈ wsX0_rowAt := fun w h => List.mem_cons_of_mem _ (List.mem_append_right _ h)
  refine lv_iload_n hx hb dX0_rowAt_0 rfl (lv_at hl 1 rfl) ?_
  refine lv_if_lt (tgt := 22) hx hb dX0_rowAt_1 (by decide) (fun h => absurd h (nI_pos (by omega))) (fun _ => ?_)
  refine lv_iload_n hx hb dX0_rowAt_4 rfl (lv_at hl 1 rfl) ?_
  refine lv_aload_n hx hb dX0_rowAt_5 rfl (lv_at hl 0 rfl) ?_
  refine g_ X hin hW 0 rfl rfl 0 (by decide) 1 rfl rfl rfl dX0_rowAt_6 ?_
  refine len_ (v := nI 8) X hW 1 2 rfl rfl rfl dX0_rowAt_9 ?_
  refine lv_icmp_ge (tgt := 22) hx hb dX0_rowAt_10 (by decide) (fun h => absurd h (nI_ge hj (by decide))) (fun _ => ?_)
  refine lv_aload_n hx hb dX0_rowAt_13 rfl (lv_at hl 0 rfl) ?_
  refine g_ X hin hW 0 rfl rfl 0 (by decide) 1 rfl rfl rfl dX0_rowAt_14 ?_
  refine lv_iload_n hx hb dX0_rowAt_17 rfl (lv_at hl 1 rfl) ?_
  refine va_aldq hx hb X.2.1 hW.1 1 2 rfl rfl (vp_in_nI hj (by decide)) dX0_rowAt_18 ?_
  rw [nI_clamp (by omega)]
  refine lv_goto (tgt := 23) hx hb dX0_rowAt_19 (by decide) ?_
  exact hQ _ _ _ _ hW dX0_rowAt_23
/-- the history's numbers behind a change that is kept, and behind one that is undone -/
def hSave (h : gF) : gF := wr (wr h 0 1 ((h 0 1 + 1) - (h 0 1 + 1) / 8 * 8)) 0 2 (if 8 < h 0 2 + 1 then 8 else h 0 2 + 1)
abbrev rmX0_save : Room := { frames := 3, cells := 0, slots := 0, locals := 80 }
set_option maxRecDepth 100000 in
set_option maxHeartbeats 4000000 in
theorem kX0_save (l : Launch) (Dd : va_G) (Y : yT) (ah : Nat → Nat) (ar : Nat → Nat → Nat) (an : Nat → Nat) (h : gF) (K : Nat → gR) (G : gR) (j : Nat) (hj : j < 8) (hn : h 0 1 = nI j) : MG l yX0_save wsX0_save rmX0_save Dd Y [.ref (ah 0), .ref (an 0)] (WHo Y ah ar h ++ (WRs Y ar K (List.range 8) ++ WR Y an G)) (WHo Y ah ar (hSave h) ++ (WRs Y ar (va_up K j G) (List.range 8) ++ WR Y an G)) none := by
  refine MGv (cc := cX0_save) (maxL := 3) (by decide) rfl (Nat.le_of_ble_eq_true rfl) (fun {p e s m args below meth c A} ls Q X hW hl hQ => ?_)
  have hx := X.x
  have hb := X.b
  have hl : lv_has ls 3 [(0, .ref (ah 0)), (1, .ref (an 0))] := hl
  have hin : ∀ w ∈ wsX00, w ∈ wsX0_save := fun w h => List.mem_cons_of_mem _ (List.mem_append_left _ (List.mem_append_left _ (List.mem_append_right _ h)))
  refine lv_aload_n hx hb dX0_save_0 rfl (lv_at hl 0 rfl) ?_
  refine lv_aload_n hx hb dX0_save_1 rfl (lv_at hl 0 rfl) ?_
  refine g_ X hin hW 0 rfl rfl 1 (by decide) 1 rfl rfl rfl dX0_save_2 ?_
  rw [hn]
  refine cVp_ (pre := []) (wc := WHo Y ah ar h) (w1 := WHo Y ah ar h) (ws' := WHo Y ah ar h ++ (WRs Y ar K (List.range 8) ++ WR Y an G)) (rest := []) X (kX0_rowAt l Dd Y ah ar h j hj) (cwV 1 X.1.2.2.2.2 gX0_save_X0_rowAt rfl rfl rfl (by decide +kernel) ⟨Nat.le_of_ble_eq_true rfl, Nat.le_of_ble_eq_true rfl⟩) hW rfl rfl 0 0 rfl rfl rfl rfl hl.1 rfl (Nat.le_of_ble_eq_true rfl) dX0_save_5 ⟨Nat.zero_le _, Nat.zero_le _⟩ (fun H locs hW => ?_)
  refine lv_astore_n (lv' := [(2, .ref (ar j 0)), (0, .ref (ah 0)), (1, .ref (an 0))]) hx hb dX0_save_8 rfl hl (by decide) rfl (fun ls hl => ?_)
  refine lv_aload_n hx hb dX0_save_9 rfl (lv_at hl 0 rfl) ?_
  refine lv_ifnull hx hb dX0_save_10 ?_
  refine lv_aload_n hx hb dX0_save_13 rfl (lv_at hl 0 rfl) ?_
  refine lv_aload_n hx hb dX0_save_14 rfl (lv_at hl 2 rfl) ?_
  have e0 := WRs_p Y ar K hj
  have e1 := WRs_p Y ar (va_up K j G) hj
  rw [WRs_u Y ar K G hj, show va_up K j G j = G from by simp [va_up]] at e1
  refine cVmv_ (wc := WR Y (ar j) (K j) ++ WR Y an G) (w1 := WR Y (ar j) G ++ WR Y an G) (post := WHo Y ah ar h ++ WRs Y ar K (js_o j)) (ws' := WHo Y ah ar h ++ (WRs Y ar (va_up K j G) (List.range 8) ++ WR Y an G)) (rest := []) X (kX1_copy l Dd Y (ar j) an (K j) G) (cwV 1 X.1.2.2.2.2 gX0_save_X1_copyFrom rfl rfl rfl (by decide +kernel) ⟨Nat.le_of_ble_eq_true rfl, Nat.le_of_ble_eq_true rfl⟩) hW (pm _ _ (fun x => by simp only [List.count_append, e0.count_eq]; omega)) (pm _ _ (fun x => by simp only [List.count_append, e1.count_eq]; omega)) 0 1 rfl rfl rfl rfl hl.1 rfl (Nat.le_of_ble_eq_true rfl) dX0_save_15 ⟨Nat.zero_le _, Nat.zero_le _⟩ (fun H locs hW => ?_)
  refine lv_aload_n hx hb dX0_save_18 rfl (lv_at hl 1 rfl) ?_
  refine lv_aload_n hx hb dX0_save_19 rfl (lv_at hl 1 rfl) ?_
  refine g_ X hin hW 0 rfl rfl 1 (by decide) 1 rfl rfl rfl dX0_save_20 ?_
  refine lv_iconst (v := 1) hx hb dX0_save_23 (by decide) ?_
  refine lv_iadd hx hb dX0_save_24 ?_
  refine lv_bipush (v := 8) hx hb dX0_save_25 (by decide) ?_
  refine lv_irem hx hb dX0_save_27 (by decide) ?_
  obtain ⟨h1, eh1⟩ : ∃ h1, h1 = wr h 0 1 ((h 0 1 + 1) - (h 0 1 + 1) / 8 * 8) := ⟨_, rfl⟩
  refine p_ (ty := .int) X hin tyX0 tyX0_ok nmX0 hW 0 rfl rfl 1 (by decide) 1 rfl rfl rfl (by decide +kernel) rfl rfl (Nat.le_of_ble_eq_true rfl) dX0_save_28 (ws' := WHo Y ah ar h1 ++ (WRs Y ar (va_up K j G) (List.range 8) ++ WR Y an G)) (by rw [eh1]; rfl) (fun H locs hW => ?_)
  refine lv_aload_n hx hb dX0_save_31 rfl (lv_at hl 1 rfl) ?_
  refine lv_aload_n hx hb dX0_save_32 rfl (lv_at hl 1 rfl) ?_
  refine g_ X hin hW 0 rfl rfl 2 (by decide) 2 rfl rfl rfl dX0_save_33 ?_
  refine lv_iconst (v := 1) hx hb dX0_save_36 (by decide) ?_
  refine lv_iadd hx hb dX0_save_37 ?_
  refine lv_bipush (v := 8) hx hb dX0_save_38 (by decide) ?_
  refine min_ X hl.1 3 4 5 6 rfl rfl rfl rfl ⟨Nat.le_of_ble_eq_true rfl, Nat.le_of_ble_eq_true rfl⟩ (Nat.le_of_ble_eq_true rfl) ⟨Nat.zero_le _, Nat.zero_le _⟩ dX0_save_40 ?_
  refine p_ (ty := .int) X hin tyX0 tyX0_ok nmX0 hW 0 rfl rfl 2 (by decide) 2 rfl rfl rfl (by decide +kernel) rfl rfl (Nat.le_of_ble_eq_true rfl) dX0_save_43 (ws' := WHo Y ah ar (hSave h) ++ (WRs Y ar (va_up K j G) (List.range 8) ++ WR Y an G)) (by rw [eh1]; rfl) (fun H locs hW => ?_)
  exact hQ _ _ _ _ hW dX0_save_46
