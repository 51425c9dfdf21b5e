/-- a member that reads the script: the array of ints at b, which no one may change -/
def MRE (l : Launch) (y : MethodName) (words : List Cond) (rm : Room) (Dd : va_G) (Y : yT) (b L : Nat) (xs : Nat → Int32) (av : List Value) (rv : Int32) : Prop :=
  ∀ sz : Nat, b < sz → Met l y words rm (va_Pc av (fun U => sPre Dd Y sz [] U ∧ va_X b L xs U U.heap)) (Qr Dd Y (va_A [] sz) (fun r w => r = some (.int rv) ∧ w = [])) 0 0 (va_A [] sz)
section LW9
variable {p : Program} {l : Launch} {e : Env} {R : Room} {s : State} {m : MethodId} {args : Array Value} {below : List Frame} {meth : Method} {c : Code} {H : Heap} {locs : List Loc} {cells slots : Nat} {Q : State → Prop}
variable {cc : ByteArray} {nL pc : Nat} {Ts : List Cond} {own : String} {Dd : va_G} {Y : yT} {A : Nat → Prop} {ls : Array Slot} {rest st : List Value} {ws : va_W} {a : Nat}
theorem A0_b {b sz : Nat} (h : b < sz) : ¬ va_A [] sz b := fun q => by
  rcases q with ⟨k, e, q⟩ | q
  · simp at q
  · omega
theorem MREk {y : MethodName} {words ws9 : List Cond} {rm : Room} {maxL b L : Nat} {xs : Nat → Int32} {av : List Value} {rv : Int32} (hy : plainName y.cls = true) (hw : words = .code y cc maxL (some .int) :: ws9) (hlen : (lg_sl av).length ≤ maxL)
    (k : ∀ {p : Program} {e : Env} {s : State} {m : MethodId} {args : Array Value} {below : List Frame} {meth : Method} {c : Code} {A : Nat → Prop} (ls : Array Slot) (Q : State → Prop), cx p s m args c cc maxL words y.cls Dd Y A → va_X b L xs s s.heap → b < s.heap.size → ¬ A b → Wd Dd A s.heap [] s.heap [] → lv_has ls maxL (lv_args 0 av) →
      (∀ (H : Heap) (locs : List Loc) (ls : Array Slot) (pc : Nat), Wd Dd A s.heap [] H locs → decode cc pc = .ok (.ireturn, 1) → W p l e rm s m args below meth c H locs 0 0 Q (F0 m pc ls [.int rv])) →
      W p l e rm s m args below meth c s.heap [] 0 0 Q (F0 m 0 ls [])) : MRE l y words rm Dd Y b L xs av rv := by
  intro sz hbz
  refine Met.ofW (cc := cc) (maxL := maxL) (ret := some .int) hy hw ?_
  intro p e s m args below meth c s₁ B hml hv
  obtain ⟨rfl, ⟨hsz, hP, hK, hD0, hX, hZ⟩, hE⟩ := hv
  subst hsz
  have hD : va_D (va_A [] s.heap.size) [] := hD0.self
  have hts := atoms_spec (ws := words) B.pre
  have hown : s.vm.findClass y.cls = some m.cls := findClass_of_methodNamed B.named
  rw [lg_entry_eq]
  refine k _ _ ⟨⟨B.exec, B.bytes, hml, hown, hts⟩, hK, fun q h => Or.inr h, hX, hZ⟩ hE hbz (A0_b hbz) ⟨hP, hD, va_S.rf⟩ (lv_entry av hlen) ?_
  intro H locs ls pc hW hdg
  exact W.zret B.exec B.bytes B.returns rfl (fun t ht hWm => ⟨⟨_, [], ⟨rfl, rfl⟩, rfl, by rw [ht]; exact hW.1, va_K.moved hWm.alike hK, hW.2.1⟩, hW.2.2.F ht⟩) hW.2.2.2.2 hdg B.notSynchronized
theorem rE_ (X : cx p s m args c cc nL Ts own Dd Y A) {y : MethodName} {words : List Cond} {rm : Room} {As : List Value} {bytes : ByteArray} {maxL n index b L : Nat} {xs : Nat → Int32} {rv : Int32} {ret : Option FieldType} (hM : MRE l y words rm Dd Y b L xs As rv) (cw : CallB R s args own index y bytes maxL ret words rm 0 0 n ∧ (Cond.static y).before args s = true) (hX : va_X b L xs s s.heap) (hbl : b < s.heap.size) (hbA : ¬ A b) (hW : Wd Dd A s.heap ws H locs) (hn : As.length = n) (hl : ls.size = nL) (hst : st = As.reverse ++ rest) (hr : (rest.map fun v => v.category).sum ≤ 8) (hdg : decode cc pc = .ok (.invokestatic index, 3)) (hf : cells ≤ R.cells ∧ slots ≤ R.slots)
    (kk : ∀ (H : Heap) (locs : List Loc), Wd Dd A s.heap ws H locs → W p l e R s m args below meth c H locs cells slots Q (F0 m (pc + 3) ls (.int rv :: rest))) : W p l e R s m args below meth c H locs cells slots Q (F0 m pc ls st) := by
  have hW2 : Wd Dd A s.heap ([] ++ ws) H locs := hW
  have hbH : b < H.size := Nat.lt_of_lt_of_le hbl hW.2.2.1
  have hpre := pre_r (wc := []) (As := As) X hW2
  refine run_r (wc := []) (w9 := ws) (post := fun r w => r = some (.int rv) ∧ w = []) (va_runS (l := l) (below := below) (e := e) (meth := meth) (locs := locs) (cells := cells) (slots := slots) (As := As) (rest := rest) (H := H) X.1 (hM H.size hbH) cw ⟨?_, fun U hU hWm => ?_⟩ (g := F0 m pc ls st) rfl hn hl hst (lv_room hr) hdg hf) hW2 (wd_free X.2.2.1 hW2.drop) (fun _ h => h) (fun rv9 w H locs hp hW => ?_)
  · intro a U g mk q
    obtain ⟨q0, q1, q2⟩ := q
    exact ⟨q0, (hpre.1 a U g mk ⟨q0, q1⟩).2, va_X.moved (u := U) (U := U.calling g mk a) (Vm.Alike.refl U.vm) q2⟩
  · obtain ⟨h1, h2⟩ := hpre.2 U hU hWm
    refine ⟨h1, h2, ?_⟩
    rw [hU]
    exact va_X.moved hWm.alike (hX.kept (hW.2.2.2.1 b hbl hbA))
  · obtain ⟨rfl, rfl⟩ := hp
    exact kk H locs hW
end LW9
theorem nI_mulN (a b : Nat) : nI a * nI b = nI (a * b) := (Int32.ofNat_mul a b).symm
theorem nI_divN {m n : Nat} (hm : m < 2 ^ 31) (hn : 0 < n) (hn2 : n < 2 ^ 31) : nI m / nI n = nI (m / n) := by
  have hd : m / n ≤ m := Nat.div_le_self m n
  rw [← Int32.toInt_inj, Int32.toInt_div, nI_toInt hm, nI_toInt hn2, nI_toInt (Nat.lt_of_le_of_lt hd hm), ← Int.ofNat_tdiv]
  have h1 : ((m / n : Nat) : Int) ≤ m := Int.ofNat_le.mpr hd
  have h0 : (0 : Int) ≤ ((m / n : Nat) : Int) := Int.natCast_nonneg _
  generalize ((m / n : Nat) : Int) = z at h1 h0 ⊢
  exact Int.bmod_eq_of_le (by omega) (by omega)
theorem nI_remN {m n : Nat} (hm : m < 2 ^ 31) (hn : 0 < n) (hn2 : n < 2 ^ 31) : nI m - nI m / nI n * nI n = nI (m % n) := by
  rw [nI_divN hm hn hn2, nI_mulN, pk_sub (Nat.div_mul_le_self m n)]
  congr 1
  have := Nat.div_add_mod m n
  rw [Nat.mul_comm] at this
  omega
theorem and_nI (v : Int32) : ∃ m : Nat, m < 2 ^ 31 ∧ v &&& 2147483647 = nI m := by
  refine ⟨(v &&& 2147483647).toBitVec.toNat, ?_, ?_⟩
  · rw [Int32.toBitVec_and, BitVec.toNat_and]
    exact Nat.lt_of_le_of_lt Nat.and_le_right (by decide)
  · show v &&& 2147483647 = Int32.ofNat _
    rw [← Int32.toBitVec_inj, Int32.toBitVec_ofNat', BitVec.ofNat_toNat]
    simp
abbrev rmL_bound : Room := { frames := 0, cells := 0, slots := 0, locals := 0 }
set_option maxRecDepth 100000 in
set_option maxHeartbeats 4000000 in
theorem kL_bound (l : Launch) (Dd : va_G) (Y : yT) (v : Int32) (n : Nat) (hn : 0 < n) (hn2 : n < 2 ^ 31) : MR l yL_bound wsL_bound rmL_bound Dd Y [.int v, .int (nI n)] ([]) (fun rv w => ∃ r : Nat, r < n ∧ rv = some (.int (nI r)) ∧ w = []) 0 0 := by
  refine MRk (cc := cL_bound) (maxL := 2) (ret := (some .int)) (by decide) rfl (Nat.le_of_ble_eq_true rfl) (fun {p₀ e₀ s m args below meth c₀ A} ls Q X hin hW hl hI hV hA => ?_)
  have hx := X.x
  have hb := X.b
  have hl : lv_has ls 2 [(0, .int v), (1, .int (nI n))] := hl
  obtain ⟨mm, hmm, hv⟩ := and_nI v
  refine lv_iload_n hx hb dL_bound_0 rfl (lv_at hl 0 rfl) ?_
  refine lv_ldc hx hb X.1.2.2.2.1 (X.w (i := 1) rfl) dL_bound_1 ?_
  refine lv_iand hx hb dL_bound_3 ?_
  refine lv_iload_n hx hb dL_bound_4 rfl (lv_at hl 1 rfl) ?_
  rw [hv]
  refine lv_irem hx hb dL_bound_5 (fun q => by have := (nI_eq (b := 0) hn2 (by decide)).mp q; omega) ?_
  rw [nI_remN hmm hn hn2]
  exact hI _ _ _ _ _ _ _ _ _ ⟨mm % n, Nat.mod_lt _ hn, rfl, rfl⟩ rfl rfl (Nat.le_of_ble_eq_true rfl) (Nat.le_of_ble_eq_true rfl) hW dL_bound_6
abbrev rmL_cell : Room := { frames := 0, cells := 0, slots := 0, locals := 0 }
set_option maxRecDepth 100000 in
set_option maxHeartbeats 4000000 in
theorem kL_cell (l : Launch) (Dd : va_G) (Y : yT) (b L i : Nat) (xs : Nat → Int32) (hL : L < 2 ^ 31) (hi : i < 2 ^ 31) : MRE l yL_cell wsL_cell rmL_cell Dd Y b L xs [.ref b, .int (nI i)] (if i < L then xs i else 0) := by
  refine MREk (cc := cL_cell) (maxL := 2) (by decide) rfl (Nat.le_of_ble_eq_true rfl) (fun {p₀ e₀ s m args below meth c₀ A} ls Q X hE hbl hbA hW hl hI => ?_)
  have hx := X.x
  have hb := X.b
  have hl : lv_has ls 2 [(0, .ref b), (1, .int (nI i))] := hl
  refine lv_iload_n hx hb dL_cell_0 rfl (lv_at hl 1 rfl) ?_
  refine lv_aload_n hx hb dL_cell_1 rfl (lv_at hl 0 rfl) ?_
  refine va_slen hx hb hE hbl hbA hW.2.2 dL_cell_2 ?_
  refine W.eq (g2 := F0 m 3 ls [.int (nI L), .int (nI i)]) rfl ?_
  refine lv_icmp_ge (tgt := 12) hx hb dL_cell_3 (by decide) (fun cq => ?_) (fun cq => ?_)
  · have h : ¬ i < L := fun q => absurd ((nI_leI hL hi).mp cq) (by omega)
    refine lv_iconst (v := 0) hx hb dL_cell_12 (by decide) ?_
    rw [if_neg h] at hI
    exact hI _ _ _ _ hW dL_cell_13
  · have h : i < L := Nat.lt_of_not_le (fun q => cq ((nI_leI hL hi).mpr q))
    rw [if_pos h] at hI
    refine lv_aload_n hx hb dL_cell_6 rfl (lv_at hl 0 rfl) ?_
    refine lv_iload_n hx hb dL_cell_7 rfl (lv_at hl 1 rfl) ?_
    refine va_sld hx hb hE hbl hbA hW.2.2 (vp_in_nI h hL) dL_cell_8 ?_
    rw [nI_clamp hi]
    refine lv_goto (tgt := 13) hx hb dL_cell_9 (by decide) ?_
    exact hI _ _ _ _ hW dL_cell_13
