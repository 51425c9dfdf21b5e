/-! calls on constant texts; copies out of them; a contract's world in another order -/
section GP3
variable {p : Program} {l : Launch} {e : Env} {R : Room} {s : State} {m : MethodId} {args : Array Value} {below : List Frame} {meth : Method} {c : Code} {H : Heap} {locs : List Loc} {cells slots : Nat} {Q : State → Prop}
variable {cc : ByteArray} {nL pc : Nat} {Ts : List Cond} {own : String} {Dd : va_G} {Y : yT} {A : Nat → Prop} {ls : Array Slot} {rest st : List Value} {ws : va_W} {a : Nat}
theorem rK_ (X : cx p s m args c cc nL Ts own Dd Y A) {y : MethodName} {words : List Cond} {rm : Room} {As : List Value} {wc w9 : va_W} {post : Option Value → va_W → Prop} {bytes : ByteArray} {maxL n index i mc ms : Nat} {ret : Option FieldType} (hM : MR l y words rm Dd Y (.ref (Y.2.2.2.1 i) :: As) wc post mc ms) (cw : CallW R s args own RJ0 index y bytes maxL ret words rm mc ms n) (hW : Wd Dd A s.heap ws H locs) (hsp : ws.Perm (wc ++ w9)) (hi : i < 10) (hn : As.length = n) (hl : ls.size = nL) (hst : st = As.reverse ++ .ref (Y.2.2.2.1 i) :: rest) (hr : (rest.map fun v => v.category).sum ≤ 8) (hdg : decode cc pc = .ok (.invokevirtual index, 3)) (hf : cells + mc ≤ R.cells ∧ slots + ms ≤ R.slots)
    (kk : ∀ (rv : Option Value) (w : va_W) (H : Heap) (locs : List Loc), post rv w → Wd Dd A s.heap (w ++ w9) H locs → W p l e R s m args below meth c H locs (cells + mc) (slots + ms) Q (F0 m (pc + 3) ls (rv.toList ++ rest))) : W p l e R s m args below meth c H locs cells slots Q (F0 m pc ls st) := by
  have hW2 := hW.permA hsp
  exact run_r (va_runV (l := l) (below := below) (e := e) (meth := meth) (locs := locs) (cells := cells) (slots := slots) (As := As) (rest := rest) (H := H) X.1 (hM H.size) cw ⟨(pre_r X hW2).1, vk_recv X.2.2.2.2.1 hi hW2.2.2, (pre_r X hW2).2⟩ (g := F0 m pc ls st) rfl hn hl hst (lv_room hr) hdg hf) hW2 (wd_free X.2.2.1 hW2.drop) (fun _ h => h) kk
theorem cpt_ (X : cx p s m args c cc nL Ts own Dd Y A) (hz : ls.size = nL) {index : Nat} (i1 i2 i3 i4 : Nat) (h1 : Ts[i1]? = some (Cond.methodLink own index arraycopyName)) (h2 : Ts[i2]? = some (Cond.native arraycopyName)) (h3 : Ts[i3]? = some (Cond.static arraycopyName)) (h4 : Ts[i4]? = some (Cond.initialized "java/lang/System"))
    (hR : 1 ≤ R.frames ∧ 26 ≤ R.locals) (hr : (rest.map fun v => v.category).sum ≤ 8) (hW : Wd Dd A s.heap ws H locs) {a0 n' n1 : Nat} {f g : Nat → Int32} (hT : va_T .byte a0 n' (fun j => .int (f j)) A s s.heap) (q1 : Nat) (ha1 : ws[q1]? = some (a, .inl (Y.2.1 0, n1, .inl g))) {dp n : Int32} {dp' : Nat} (e2 : dp = nI dp') (e3 : n = nI n') (hn1 : dp' + n' ≤ n1) (hb1 : n1 < 2 ^ 31) (hb0 : n' < 2 ^ 31) (hfit : ∀ i, i < n' → fits .byte (.int (f i)) = true) (hdg : decode cc pc = .ok (.invokestatic index, 3))
    {ws' : va_W} (hset : ws.set q1 (a, .inl (Y.2.1 0, n1, .inl (va_cpy f g 0 dp' n'))) = ws') (kk : ∀ (H : Heap) (locs : List Loc), Wd Dd A s.heap ws' H locs → W p l e R s m args below meth c H locs cells slots Q (F0 m (pc + 3) ls rest)) : W p l e R s m args below meth c H locs cells slots Q (F0 m pc ls (.int n :: .int dp :: .ref a :: .int 0 :: .ref a0 :: rest)) := by
  subst hset e2 e3
  have c2 : (nI dp').toNatClampNeg = dp' := nI_clamp (by omega)
  have c3 : (nI n').toNatClampNeg = n' := nI_clamp (by omega)
  refine vk_copyt X.x X.b (X.1.2.2.1.trans hz.symm) X.1.2.2.2.1 (X.w h1) (X.w h2) (X.w h3) (X.w h4) X.2.1 hW.1 hW.2.1 hW.2.2 hT q1 1 ha1 rfl (by decide) (nI_pos (by omega)) (nI_pos (by omega)) (by rw [sb_cl0, c3]; omega) (by rw [c2, c3]; exact hn1) (fun i hi => by rw [sb_cl0, Nat.zero_add]; exact hfit i (by rw [c3] at hi; exact hi)) hR.1 (Nat.le_trans (Nat.add_le_add_right hr _) hR.2) hdg (fun H1 locs1 g1 g2 g3 => ?_)
  rw [sb_cl0, c2, c3] at g1 g2
  exact kk H1 locs1 ⟨g1, g2, g3⟩
theorem va_A_perm {w1 w2 : va_W} (hp : w1.Perm w2) (sz : Nat) : va_A w1 sz = va_A w2 sz := by
  funext q
  refine propext ⟨fun h => ?_, fun h => ?_⟩
  · rcases h with ⟨k, e, h⟩ | h
    · obtain ⟨i, hi⟩ := List.getElem?_of_mem (hp.subset (List.mem_of_getElem? h))
      exact Or.inl ⟨i, e, hi⟩
    · exact Or.inr h
  · rcases h with ⟨k, e, h⟩ | h
    · obtain ⟨i, hi⟩ := List.getElem?_of_mem (hp.symm.subset (List.mem_of_getElem? h))
      exact Or.inl ⟨i, e, hi⟩
    · exact Or.inr h
theorem MR.wsp {l : Launch} {y : MethodName} {words : List Cond} {rm : Room} {av : List Value} {w1 w2 : va_W} {post : Option Value → va_W → Prop} {mc ms : Nat} (h : MR l y words rm Dd Y av w1 post mc ms) (hp : w1.Perm w2) : MR l y words rm Dd Y av w2 post mc ms := by
  intro sz
  have h' := h sz
  rw [va_A_perm hp] at h'
  intro p e a b c s m args below h1 h2 hP hK
  refine h' p e a b c s m args below h1 h2 ?_ hK
  obtain ⟨q0, q1, qP, qK, qD, qX, qZ⟩ := hP
  exact ⟨q0, q1, qP.permA hp.symm, qK, qD.permA hp.symm, qX, by rw [va_A_perm hp]; exact qZ⟩
end GP3
