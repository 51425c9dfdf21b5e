/-! the JDK's own methods that are reached: String.length, String.charAt over the texts, Long.bitCount -/
def sCh (w : Nat) (k : Int32) : Int32 := (sByt.getD w []).getD k.toNatClampNeg 0 &&& 255
def sc {β : Type} (w : Nat) (k : Int32) (f : Int32 → Option β) : Option β := if k < 0 ∨ sLen.getD w 0 ≤ k.toNatClampNeg then none else f (sCh w k)
theorem sc_e {β : Type} {w : Nat} {k : Int32} {f : Int32 → Option β} {r : β} (h : sc w k f = some r) : vp_in k (sLen.getD w 0) ∧ f (sCh w k) = some r := by
  unfold sc at h
  by_cases c : k < 0 ∨ sLen.getD w 0 ≤ k.toNatClampNeg
  · rw [if_pos c] at h; cases h
  · rw [if_neg c] at h; exact ⟨c, h⟩
theorem sLen_lt {w : Nat} (hw : w < 10) : sLen.getD w 0 < 2 ^ 31 := by
  rcases (show w = 0 ∨ w = 1 ∨ w = 2 ∨ w = 3 ∨ w = 4 ∨ w = 5 ∨ w = 6 ∨ w = 7 ∨ w = 8 ∨ w = 9 by omega) with h | h | h | h | h | h | h | h | h | h <;> subst h <;> decide
section JDK
variable {p : Program} {l : Launch} {e : Env} {R : Room} {s : State} {m : MethodId} {args : Array Value} {below : List Frame} {meth : Method} {c : Code} {H : Heap} {locs : List Loc} {cells slots : Nat} {Q : State → Prop}
variable {cc : ByteArray} {nL pc : Nat} {Ts : List Cond} {own : String} {Dd : va_G} {Y : yT} {A : Nat → Prop} {ls : Array Slot} {rest st : List Value} {ws : va_W} {a : Nat}
/-- a method of a text -/
theorem cK_ (X : cx p s m args c cc nL Ts own Dd Y A) {y : MethodName} {words : List Cond} {rm : Room} {As : List Value} {r9 : Int32} {bytes : ByteArray} {maxL n index : Nat} {ret : Option FieldType} {i : Nat} (hM : MG l y words rm Dd Y (.ref (Y.2.2.2.1 i) :: As) [] [] (some (.int r9))) (cw : CallW R s args own RJ0 index y bytes maxL ret words rm 0 0 n) (hW : Wd Dd A s.heap ws H locs) (hi : i < 10) (hn : As.length = n) (hl : ls.size = nL) (hst : st = As.reverse ++ .ref (Y.2.2.2.1 i) :: rest) (hr : (rest.map fun v => v.category).sum ≤ 8) (hdg : decode cc pc = .ok (.invokevirtual index, 3)) (hf : cells ≤ R.cells ∧ slots ≤ R.slots)
    (kk : ∀ (H : Heap) (locs : List Loc), Wd Dd A s.heap ws H locs → W p l e R s m args below meth c H locs cells slots Q (F0 m (pc + 3) ls (.int r9 :: rest))) : W p l e R s m args below meth c H locs cells slots Q (F0 m pc ls st) := by
  have hF : ∀ q, va_A [] H.size q → A q := fun q h => by
    rcases h with ⟨k, e, h⟩ | h
    · simp at h
    · exact X.2.2.1 q (Nat.le_trans hW.2.2.1 h)
  refine run_g (mc := 0) (ms := 0) (va_runV (As := As) (rest := rest) X.1 (hM H.size) cw ⟨sPre.blind _ _ _ _ _, vk_recv X.2.2.2.2.1 hi hW.2.2, fun U hU hWm => ⟨rfl, by rw [hU], fun k q h => by simp at h, va_K.moved hWm.alike X.2.1, ⟨fun i j p q h => by simp at h, fun k q h => by simp at h⟩, X.2.2.2.1.warm hWm, cx.z X hW.2.2 hF hU hWm⟩⟩ rfl hn hl hst (lv_room hr) hdg hf) hW.2.2 hF hF (fun H1 locs1 _ _ hk hz h3 => ?_)
  refine kk H1 locs1 ⟨hW.1.kept (fun k q h => ?_), hW.2.1, h3⟩
  have hlt := (hW.1 k q h).lt
  exact hk q.1 hlt (fun z => by
    rcases z with ⟨k, e, h⟩ | z
    · simp at h
    · omega)
end JDK
abbrev rmJ3_checkIndex_8e157 : Room := { frames := 0, cells := 0, slots := 0, locals := 0 }
set_option maxRecDepth 100000 in
set_option maxHeartbeats 4000000 in
theorem kJ3_checkIndex_8e157 (l : Launch) (Dd : va_G) (Y : yT) (i n : Int32) (v : Value) (hv : v = .null ∨ ∃ t, v = .ref t) (h0 : ¬ i < 0) (h1 : i < n) : MG l yJ3_checkIndex_8e157 wsJ3_checkIndex_8e157 rmJ3_checkIndex_8e157 Dd Y [.int i, .int n, v] [] [] (some (.int i)) := by
  rcases hv with rfl | ⟨t, rfl⟩
  · refine MGi (cc := cJ3_checkIndex_8e157) (maxL := 3) (ty := .int) (by decide) rfl (Nat.le_of_ble_eq_true rfl) (fun {p e s m args below meth c A} ls Q X hW hl hQ => ?_)
    have hx := X.x
    have hb := X.b
    have hl : lv_has ls 3 [(0, .int i), (1, .int n), (2, .null)] := hl
    refine lv_iload_n hx hb dJ3_checkIndex_8e157_0 rfl (lv_at hl 0 rfl) ?_
    refine lv_if_lt (tgt := 9) hx hb dJ3_checkIndex_8e157_1 (by decide) (fun h => absurd h h0) (fun _ => ?_)
    refine lv_iload_n hx hb dJ3_checkIndex_8e157_4 rfl (lv_at hl 0 rfl) ?_
    refine lv_iload_n hx hb dJ3_checkIndex_8e157_5 rfl (lv_at hl 1 rfl) ?_
    refine lv_icmp_lt (tgt := 16) hx hb dJ3_checkIndex_8e157_6 (by decide) (fun _ => ?_) (fun h => absurd h1 h)
    refine lv_iload_n hx hb dJ3_checkIndex_8e157_16 rfl (lv_at hl 0 rfl) ?_
    exact hQ _ _ _ _ rfl hW dJ3_checkIndex_8e157_17
  · refine MGi (cc := cJ3_checkIndex_8e157) (maxL := 3) (ty := .int) (by decide) rfl (Nat.le_of_ble_eq_true rfl) (fun {p e s m args below meth c A} ls Q X hW hl hQ => ?_)
    have hx := X.x
    have hb := X.b
    have hl : lv_has ls 3 [(0, .int i), (1, .int n), (2, .ref t)] := hl
    refine lv_iload_n hx hb dJ3_checkIndex_8e157_0 rfl (lv_at hl 0 rfl) ?_
    refine lv_if_lt (tgt := 9) hx hb dJ3_checkIndex_8e157_1 (by decide) (fun h => absurd h h0) (fun _ => ?_)
    refine lv_iload_n hx hb dJ3_checkIndex_8e157_4 rfl (lv_at hl 0 rfl) ?_
    refine lv_iload_n hx hb dJ3_checkIndex_8e157_5 rfl (lv_at hl 1 rfl) ?_
    refine lv_icmp_lt (tgt := 16) hx hb dJ3_checkIndex_8e157_6 (by decide) (fun _ => ?_) (fun h => absurd h1 h)
    refine lv_iload_n hx hb dJ3_checkIndex_8e157_16 rfl (lv_at hl 0 rfl) ?_
    exact hQ _ _ _ _ rfl hW dJ3_checkIndex_8e157_17
abbrev rmJ0_checkIndex_df160 : Room := { frames := 1, cells := 0, slots := 0, locals := 22 }
set_option maxRecDepth 100000 in
set_option maxHeartbeats 4000000 in
theorem kJ0_checkIndex_df160 (l : Launch) (Dd : va_G) (Y : yT) (i n : Int32) (h0 : ¬ i < 0) (h1 : i < n) : MG l yJ0_checkIndex_df160 wsJ0_checkIndex_df160 rmJ0_checkIndex_df160 Dd Y [.int i, .int n] [] [] none := by
  refine MGv (cc := cJ0_checkIndex_df160) (maxL := 2) (by decide) rfl (Nat.le_of_ble_eq_true rfl) (fun {p e s m args below meth c A} ls Q X hW hl hQ => ?_)
  have hx := X.x
  have hb := X.b
  have hl : lv_has ls 2 [(0, .int i), (1, .int n)] := hl
  refine lv_iload_n hx hb dJ0_checkIndex_df160_0 rfl (lv_at hl 0 rfl) ?_
  refine lv_iload_n hx hb dJ0_checkIndex_df160_1 rfl (lv_at hl 1 rfl) ?_
  have key : ∀ v : Value, (v = .null ∨ ∃ t, v = .ref t) → va_Z "jdk/internal/util/Preconditions" "SIOOBE_FORMATTER" "Ljava/util/function/BiFunction;" v A s s.heap → W p l e rmJ0_checkIndex_df160 s m args below meth c s.heap [] 0 0 Q (F0 m 2 ls [.int n, .int i]) := by
    intro v hv hZ
    refine va_gets hx hb hZ hW.2.2 X.1.2.2.2.1 (X.w (i := 1) rfl) (fun _ h => h) dJ0_checkIndex_df160_2 ?_
    refine cSi_ (As := [.int i, .int n, v]) (rest := []) X (kJ3_checkIndex_8e157 l Dd Y i n v hv h0 h1) (va_cwS 3 X.1.2.2.2.2 gJ0_checkIndex_df160_J3_checkIndex_8e157 rfl rfl rfl (by decide +kernel) ⟨Nat.le_of_ble_eq_true rfl, Nat.le_of_ble_eq_true rfl⟩) hW rfl hl.1 rfl (Nat.le_of_ble_eq_true rfl) dJ0_checkIndex_df160_5 ⟨Nat.zero_le _, Nat.zero_le _⟩ (fun H locs hW => ?_)
    refine lv_pop hx hb dJ0_checkIndex_df160_8 rfl ?_
    exact hQ _ _ _ _ hW dJ0_checkIndex_df160_9
  rcases X.2.2.2.2.2.2.1 with h | ⟨t, h⟩
  · exact key _ (Or.inl rfl) h
  · exact key _ (Or.inr ⟨t, rfl⟩) h
abbrev rmJ1_charAt_3b067 : Room := { frames := 2, cells := 0, slots := 0, locals := 43 }
set_option maxRecDepth 100000 in
set_option maxHeartbeats 4000000 in
theorem kJ1_charAt_3b067 (l : Launch) (Dd : va_G) (Y : yT) (w : Nat) (hw : w < 10) (k : Int32) (hk : vp_in k (sLen.getD w 0)) : MG l yJ1_charAt_3b067 wsJ1_charAt_3b067 rmJ1_charAt_3b067 Dd Y [.ref (Y.2.2.2.2 w), .int k] [] [] (some (.int (sCh w k))) := by
  refine MGi (cc := cJ1_charAt_3b067) (maxL := 2) (ty := .char) (by decide) rfl (Nat.le_of_ble_eq_true rfl) (fun {p e s m args below meth c A} ls Q X hW hl hQ => ?_)
  have hx := X.x
  have hb := X.b
  have hl : lv_has ls 2 [(0, .ref (Y.2.2.2.2 w)), (1, .int k)] := hl
  have hT := (X.2.2.2.2.1.1 w hw).2.2.2
  have h0 : ¬ k < 0 := fun h => hk (Or.inl h)
  have h1 : k < nI (sLen.getD w 0) := by
    obtain ⟨j, hj, e⟩ := vp_in_of hk (sLen_lt hw)
    rw [e]; exact nI_lt hj (sLen_lt hw)
  refine lv_iload_n hx hb dJ1_charAt_3b067_0 rfl (lv_at hl 1 rfl) ?_
  refine lv_aload_n hx hb dJ1_charAt_3b067_1 rfl (lv_at hl 0 rfl) ?_
  refine va_tlen (v := nI (sLen.getD w 0)) hx hb hT hW.2.2 rfl dJ1_charAt_3b067_2 ?_
  refine cSv_ (As := [.int k, .int (nI (sLen.getD w 0))]) (rest := []) X (kJ0_checkIndex_df160 l Dd Y k (nI (sLen.getD w 0)) h0 h1) (va_cwS 2 X.1.2.2.2.2 gJ1_charAt_3b067_J0_checkIndex_df160 rfl rfl rfl (by decide +kernel) ⟨Nat.le_of_ble_eq_true rfl, Nat.le_of_ble_eq_true rfl⟩) hW rfl hl.1 rfl (Nat.le_of_ble_eq_true rfl) dJ1_charAt_3b067_3 ⟨Nat.zero_le _, Nat.zero_le _⟩ (fun H locs hW => ?_)
  refine lv_aload_n hx hb dJ1_charAt_3b067_6 rfl (lv_at hl 0 rfl) ?_
  refine lv_iload_n hx hb dJ1_charAt_3b067_7 rfl (lv_at hl 1 rfl) ?_
  refine va_tb (v := .int ((sByt.getD w []).getD k.toNatClampNeg 0)) hx hb hT hW.2.2 hk rfl dJ1_charAt_3b067_8 ?_
  refine lv_sipush (v := 255) hx hb dJ1_charAt_3b067_9 (by decide) ?_
  refine lv_iand hx hb dJ1_charAt_3b067_12 ?_
  refine lv_i2c (v := sCh w k) hx hb dJ1_charAt_3b067_13 (sc_c2 _) ?_
  exact hQ _ _ _ _ (sc_nar _) hW dJ1_charAt_3b067_14
abbrev rmJ0_isLatin1_aae02 : Room := { frames := 0, cells := 0, slots := 0, locals := 0 }
set_option maxRecDepth 100000 in
set_option maxHeartbeats 4000000 in
theorem kJ0_isLatin1_aae02 (l : Launch) (Dd : va_G) (Y : yT) (w : Nat) (hw : w < 10) : MG l yJ0_isLatin1_aae02 wsJ0_isLatin1_aae02 rmJ0_isLatin1_aae02 Dd Y [.ref (Y.2.2.2.1 w)] [] [] (some (.int 1)) := by
  refine MGi (cc := cJ0_isLatin1_aae02) (maxL := 1) (ty := .boolean) (by decide) rfl (Nat.le_of_ble_eq_true rfl) (fun {p e s m args below meth c A} ls Q X hW hl hQ => ?_)
  have hx := X.x
  have hb := X.b
  have hl : lv_has ls 1 [(0, .ref (Y.2.2.2.1 w))] := hl
  refine va_gets hx hb X.2.2.2.2.2.1 hW.2.2 X.1.2.2.2.1 (X.w (i := 1) rfl) (fun _ h => h) dJ0_isLatin1_aae02_0 ?_
  refine lv_if_eq (tgt := 17) hx hb dJ0_isLatin1_aae02_3 (by decide) (fun h => absurd h (by decide)) (fun _ => ?_)
  refine lv_aload_n hx hb dJ0_isLatin1_aae02_6 rfl (lv_at hl 0 rfl) ?_
  refine vk_getf hx hb (X.2.2.2.2.1.1 w hw).2.1 hW.2.2 X.1.2.2.2.1 (X.w (i := 2) rfl) (fun _ h => h) dJ0_isLatin1_aae02_7 ?_
  refine lv_if_ne (tgt := 17) hx hb dJ0_isLatin1_aae02_10 (by decide) (fun h => absurd rfl h) (fun _ => ?_)
  refine lv_iconst (v := 1) hx hb dJ0_isLatin1_aae02_13 (by decide) ?_
  refine lv_goto (tgt := 18) hx hb dJ0_isLatin1_aae02_14 (by decide) ?_
  exact hQ _ _ _ _ (nz_b (Or.inr rfl)) hW dJ0_isLatin1_aae02_18
abbrev rmJ0_coder_7d493 : Room := { frames := 0, cells := 0, slots := 0, locals := 0 }
set_option maxRecDepth 100000 in
set_option maxHeartbeats 4000000 in
theorem kJ0_coder_7d493 (l : Launch) (Dd : va_G) (Y : yT) (w : Nat) (hw : w < 10) : MG l yJ0_coder_7d493 wsJ0_coder_7d493 rmJ0_coder_7d493 Dd Y [.ref (Y.2.2.2.1 w)] [] [] (some (.int 0)) := by
  refine MGi (cc := cJ0_coder_7d493) (maxL := 1) (ty := .byte) (by decide) rfl (Nat.le_of_ble_eq_true rfl) (fun {p e s m args below meth c A} ls Q X hW hl hQ => ?_)
  have hx := X.x
  have hb := X.b
  have hl : lv_has ls 1 [(0, .ref (Y.2.2.2.1 w))] := hl
  refine va_gets hx hb X.2.2.2.2.2.1 hW.2.2 X.1.2.2.2.1 (X.w (i := 1) rfl) (fun _ h => h) dJ0_coder_7d493_0 ?_
  refine lv_if_eq (tgt := 13) hx hb dJ0_coder_7d493_3 (by decide) (fun h => absurd h (by decide)) (fun _ => ?_)
  refine lv_aload_n hx hb dJ0_coder_7d493_6 rfl (lv_at hl 0 rfl) ?_
  refine vk_getf hx hb (X.2.2.2.2.1.1 w hw).2.1 hW.2.2 X.1.2.2.2.1 (X.w (i := 2) rfl) (fun _ h => h) dJ0_coder_7d493_7 ?_
  refine lv_goto (tgt := 14) hx hb dJ0_coder_7d493_10 (by decide) ?_
  exact hQ _ _ _ _ (by decide) hW dJ0_coder_7d493_14
abbrev rmJ0_length_8abf5 : Room := { frames := 1, cells := 0, slots := 0, locals := 20 }
set_option maxRecDepth 100000 in
set_option maxHeartbeats 4000000 in
theorem kJ0_length_8abf5 (l : Launch) (Dd : va_G) (Y : yT) (w : Nat) (hw : w < 10) : MG l yJ0_length_8abf5 wsJ0_length_8abf5 rmJ0_length_8abf5 Dd Y [.ref (Y.2.2.2.1 w)] [] [] (some (.int (nI (sLen.getD w 0)))) := by
  refine MGi (cc := cJ0_length_8abf5) (maxL := 1) (ty := .int) (by decide) rfl (Nat.le_of_ble_eq_true rfl) (fun {p e s m args below meth c A} ls Q X hW hl hQ => ?_)
  have hx := X.x
  have hb := X.b
  have hl : lv_has ls 1 [(0, .ref (Y.2.2.2.1 w))] := hl
  refine lv_aload_n hx hb dJ0_length_8abf5_0 rfl (lv_at hl 0 rfl) ?_
  refine vk_getf hx hb (X.2.2.2.2.1.1 w hw).2.2.1 hW.2.2 X.1.2.2.2.1 (X.w (i := 1) rfl) (fun _ h => h) dJ0_length_8abf5_1 ?_
  refine va_tlen (v := nI (sLen.getD w 0)) hx hb (X.2.2.2.2.1.1 w hw).2.2.2 hW.2.2 rfl dJ0_length_8abf5_4 ?_
  refine lv_aload_n hx hb dJ0_length_8abf5_5 rfl (lv_at hl 0 rfl) ?_
  refine cK_ (rest := [.int (nI (sLen.getD w 0))]) X (kJ0_coder_7d493 l Dd Y w hw) (cwV 0 X.1.2.2.2.2 gJ0_length_8abf5_J0_coder_7d493 rfl rfl rfl (by decide +kernel) ⟨Nat.le_of_ble_eq_true rfl, Nat.le_of_ble_eq_true rfl⟩) hW hw rfl hl.1 rfl (Nat.le_of_ble_eq_true rfl) dJ0_length_8abf5_6 ⟨Nat.zero_le _, Nat.zero_le _⟩ (fun H locs hW => ?_)
  refine lv_ishr hx hb dJ0_length_8abf5_9 ?_
  rw [sc_shr0 (sLen_lt hw)]
  exact hQ _ _ _ _ rfl hW dJ0_length_8abf5_10
abbrev rmJ0_charAt_5068e : Room := { frames := 3, cells := 0, slots := 0, locals := 64 }
set_option maxRecDepth 100000 in
set_option maxHeartbeats 4000000 in
theorem kJ0_charAt_5068e (l : Launch) (Dd : va_G) (Y : yT) (w : Nat) (hw : w < 10) (k : Int32) (hk : vp_in k (sLen.getD w 0)) : MG l yJ0_charAt_5068e wsJ0_charAt_5068e rmJ0_charAt_5068e Dd Y [.ref (Y.2.2.2.1 w), .int k] [] [] (some (.int (sCh w k))) := by
  refine MGi (cc := cJ0_charAt_5068e) (maxL := 2) (ty := .char) (by decide) rfl (Nat.le_of_ble_eq_true rfl) (fun {p e s m args below meth c A} ls Q X hW hl hQ => ?_)
  have hx := X.x
  have hb := X.b
  have hl : lv_has ls 2 [(0, .ref (Y.2.2.2.1 w)), (1, .int k)] := hl
  refine lv_aload_n hx hb dJ0_charAt_5068e_0 rfl (lv_at hl 0 rfl) ?_
  refine cK_ (rest := []) X (kJ0_isLatin1_aae02 l Dd Y w hw) (cwV 0 X.1.2.2.2.2 gJ0_charAt_5068e_J0_isLatin1_aae02 rfl rfl rfl (by decide +kernel) ⟨Nat.le_of_ble_eq_true rfl, Nat.le_of_ble_eq_true rfl⟩) hW hw rfl hl.1 rfl (Nat.le_of_ble_eq_true rfl) dJ0_charAt_5068e_1 ⟨Nat.zero_le _, Nat.zero_le _⟩ (fun H locs hW => ?_)
  refine lv_if_eq (tgt := 16) hx hb dJ0_charAt_5068e_4 (by decide) (fun h => absurd h (by decide)) (fun _ => ?_)
  refine lv_aload_n hx hb dJ0_charAt_5068e_7 rfl (lv_at hl 0 rfl) ?_
  refine vk_getf hx hb (X.2.2.2.2.1.1 w hw).2.2.1 hW.2.2 X.1.2.2.2.1 (X.w (i := 1) rfl) (fun _ h => h) dJ0_charAt_5068e_8 ?_
  refine lv_iload_n hx hb dJ0_charAt_5068e_11 rfl (lv_at hl 1 rfl) ?_
  refine cSi_ (As := [.ref (Y.2.2.2.2 w), .int k]) (rest := []) X (kJ1_charAt_3b067 l Dd Y w hw k hk) (va_cwS 2 X.1.2.2.2.2 gJ0_charAt_5068e_J1_charAt_3b067 rfl rfl rfl (by decide +kernel) ⟨Nat.le_of_ble_eq_true rfl, Nat.le_of_ble_eq_true rfl⟩) hW rfl hl.1 rfl (Nat.le_of_ble_eq_true rfl) dJ0_charAt_5068e_12 ⟨Nat.zero_le _, Nat.zero_le _⟩ (fun H locs hW => ?_)
  exact hQ _ _ _ _ (sc_nar _) hW dJ0_charAt_5068e_15
