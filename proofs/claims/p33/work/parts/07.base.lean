/-! the states of the two systems as banks of numbers: bank 0 the int fields by their slots, the others the arrays -/
abbrev yT : Type := ClassId × (Nat → ClassId) × ClassId × (Nat → Nat) × (Nat → Nat)
abbrev TY (Y : yT) : List (ClassId × FieldType) := [(Y.1, .int), (Y.2.1 0, .byte), (Y.2.2.1, .object "DoubledRows$Row"), (Y.2.1 1, .object "DoubledRowsLaw$Value"), (Y.2.1 2, .object "java/lang/Object"), (Y.2.1 3, .array (.object "DoubledRowsLaw$Value"))]
abbrev gF : Type := Nat → Nat → Int32
def wr (F : gF) (a k : Nat) (v : Int32) : gF := fun i => if i = a then upd (F i) k v else F i
def FU : Nat := 100000
/-! pieces of what a method does -/
def bp {α β : Type} (o : Option α) (f : α → Option β) : Option β := match o with
  | none => none
  | some a => f a
def bs {α β γ : Type} (o : Option (α × γ)) (f : α → γ → Option β) : Option β := match o with
  | none => none
  | some (a, F) => f a F
def bw {α β : Type} (x : α) (f : α → Option β) : Option β := f x
def ra {β : Type} (n : Nat) (f : Nat → Int32) (i : Int32) (k : Int32 → Option β) : Option β := if i < 0 ∨ n ≤ i.toNatClampNeg then none else k (f i.toNatClampNeg)
def wi {β : Type} (n : Nat) (i : Int32) (k : Nat → Option β) : Option β := if i < 0 ∨ n ≤ i.toNatClampNeg then none else k i.toNatClampNeg
def rz (v : Int32) : Option Int32 := if v = 0 ∨ v = 1 then some v else none
def rzs (v : Int32) (F : gF) : Option (Int32 × gF) := if v = 0 ∨ v = 1 then some (v, F) else none
theorem bp_e {α β : Type} {o : Option α} {f : α → Option β} {r : β} (h : bp o f = some r) : ∃ a, o = some a ∧ f a = some r := by
  cases o with
  | none => cases h
  | some a => exact ⟨a, rfl, h⟩
theorem bs_e {α β γ : Type} {o : Option (α × γ)} {f : α → γ → Option β} {r : β} (h : bs o f = some r) : ∃ a F, o = some (a, F) ∧ f a F = some r := by
  cases o with
  | none => cases h
  | some a => exact ⟨a.1, a.2, rfl, h⟩
theorem bw_e {α β : Type} {x : α} {f : α → Option β} {r : β} (h : bw x f = some r) : ∃ y, y = x ∧ f y = some r := ⟨x, rfl, h⟩
theorem ra_e {β : Type} {n : Nat} {f : Nat → Int32} {i : Int32} {k : Int32 → Option β} {r : β} (h : ra n f i k = some r) : vp_in i n ∧ k (f i.toNatClampNeg) = some r := by
  unfold ra at h
  by_cases c : i < 0 ∨ n ≤ i.toNatClampNeg
  · rw [if_pos c] at h; cases h
  · rw [if_neg c] at h; exact ⟨c, h⟩
theorem wi_e {β : Type} {n : Nat} {i : Int32} {k : Nat → Option β} {r : β} (h : wi n i k = some r) : vp_in i n ∧ k i.toNatClampNeg = some r := by
  unfold wi at h
  by_cases c : i < 0 ∨ n ≤ i.toNatClampNeg
  · rw [if_pos c] at h; cases h
  · rw [if_neg c] at h; exact ⟨c, h⟩
theorem rz_e {v r : Int32} (h : rz v = some r) : (v = 0 ∨ v = 1) ∧ v = r := by
  unfold rz at h
  by_cases c : v = 0 ∨ v = 1
  · rw [if_pos c] at h; exact ⟨c, Option.some.inj h⟩
  · rw [if_neg c] at h; cases h
theorem rzs_e {v : Int32} {F : gF} {r : Int32 × gF} (h : rzs v F = some r) : (v = 0 ∨ v = 1) ∧ (v, F) = r := by
  unfold rzs at h
  by_cases c : v = 0 ∨ v = 1
  · rw [if_pos c] at h; exact ⟨c, Option.some.inj h⟩
  · rw [if_neg c] at h; cases h
theorem if_t {c : Prop} {_ : Decidable c} {β : Type} {a b : Option β} {r : β} (h : c) (e : (if c then a else b) = some r) : a = some r := by rw [if_pos h] at e; exact e
theorem if_f {c : Prop} {_ : Decidable c} {β : Type} {a b : Option β} {r : β} (h : ¬ c) (e : (if c then a else b) = some r) : b = some r := by rw [if_neg h] at e; exact e
theorem nz_b {v : Int32} (h : v = 0 ∨ v = 1) : narrow .boolean (.int v) = .int v := by
  rcases h with h | h <;> subst h <;> rfl
/-! the world, and what stands through a body -/
def n99 : Cond := .methodLinkNest RX1 99 yX4_firstCellOver "DoubledRows"
def n72 : Cond := .methodLinkNest RX1 72 yX4_isAmong "DoubledRows"
def n109 : Cond := .methodLinkNest RX1 109 yX4_looksFor "DoubledRows"
def n122 : Cond := .methodLinkNest RX1 122 yX4_greatestLevel "DoubledRows"
/-- the texts that the readers look for: row set ask keep put take -/
def sLen : List Nat := [3, 3, 3, 4, 3, 4, 4, 1, 1, 2]
def sByt : List (List Int32) := [[114, 111, 119], [115, 101, 116], [97, 115, 107], [107, 101, 101, 112], [112, 117, 116], [116, 97, 107, 101], [114, 111, 119, 32], [32], [58], [32, 45]]
def tW (k : String × Nat × String × Nat) (Y : yT) (U : State) : Prop := vk_R k.1 k.2.1 k.2.2.1 (Y.2.2.2.1 k.2.2.2) U
def tWs : List (String × Nat × String × Nat) := [(RX2, 67, "row", 0), (RX2, 108, "set", 1), (RX2, 110, "ask", 2), (RX2, 112, "keep", 3), (RX2, 114, "put", 4), (RX2, 116, "take", 5), (RL, 55, "row ", 6), (RL, 63, " ", 7), (RL, 65, ":", 8), (RL, 89, " -", 9)]
def xWs : List (Nat × String) := [(53, "length is not within the buffer"), (78, "what is not 0 to 10"), (95, "no such cell"), (194, "8 stretches are kept"), (203, "limit is not -999 to 1000"), (208, "there are 40 values"), (213, "it is the only value"), (218, "what or value is out of range"), (235, "no such place"), (238, "from is greater than to"), (240, "value is not -999 to 999"), (242, "not so many stretches are kept")]
def dWs : List MethodName := [Bundle.initS "java/lang/RuntimeException", Bundle.initS "java/lang/Exception", Bundle.initS Bundle.tN]
def eWs : List String := ["java/lang/IllegalArgumentException", "java/lang/IllegalStateException", "java/lang/IndexOutOfBoundsException", "java/util/NoSuchElementException"]
/-- the calls through an interface -/
def iWs : List (String × MethodName × MethodName) := [(RJx4a65c, ⟨"java/util/List", "size", "()I"⟩, yJx4a65c_size_8abf5), (RJx4a65c, ⟨"java/util/List", "get", "(I)Ljava/lang/Object;"⟩, yJx4a65c_get_915e3), (RJx4a65c, ⟨"java/util/List", "iterator", "()Ljava/util/Iterator;"⟩, yJx4a65c_iterator_32c93), (RJx35411, ⟨"java/util/Iterator", "hasNext", "()Z"⟩, yJx35411_hasNext_aae02), (RJx35411, ⟨"java/util/Iterator", "next", "()Ljava/lang/Object;"⟩, yJx35411_next_0502b), (RJx4a65c, ⟨"java/util/List", "add", "(ILjava/lang/Object;)V"⟩, yJx4a65c_add_7a177), (RJx4a65c, ⟨"java/util/List", "add", "(Ljava/lang/Object;)Z"⟩, yJx4a65c_add_9ea2d), (RJx4a65c, ⟨"java/util/List", "clear", "()V"⟩, yJx4a65c_clear_da8c8), (RJx4a65c, ⟨"java/util/List", "remove", "(I)Ljava/lang/Object;"⟩, yJx4a65c_remove_915e3)]
/-- the links of nest mates' fields -/
def fWs : List (String × Nat × String × String × String × String) := [(RJx35411, 28, "java/util/ArrayList", "size", "I", "java/util/ArrayList"), (RL, 74, RX5, "values", "Ljava/util/List;", RL), (RL, 121, RX5, "kept", "Ljava/util/List;", RL), (RL, 45, RX5, "rule", "I", RL), (RL, 49, RX5, "most", "I", RL), (RX5, 36, RX7, "number", "I", RL), (RX5, 65, RX7, "isWaiting", "Z", RL), (RX5, 109, RX6, "from", "LDoubledRowsLaw$Value;", RL), (RX5, 113, RX6, "to", "LDoubledRowsLaw$Value;", RL)]
def fN (k : String × Nat × String × String × String × String) : Cond := .fieldLinkNest k.1 k.2.1 k.2.2.1 k.2.2.2.1 k.2.2.2.2.1 k.2.2.2.2.2
def n40 : Cond := .methodLinkNest RL 40 yX5_init RL
def kWs : List (String × String) := [(RX7, "java/lang/Object"), (RX6, "java/lang/Object"), ("[B", "java/lang/Cloneable")]
def oAr : String := "[Ljava/lang/Object;"
theorem arrayOver_al {ty : FieldType} {u U : State} (hvm : u.vm.Alike U.vm) (h : va_Nw (.arrayOver (.array ty)) u) : va_Nw (.arrayOver (.array ty)) U := Jvm.Stand.arrayOver_alikeB hvm h
/-- the array of arrays: its class, its link -/
def va_Oc (Y : yT) (U : State) : Prop := ArrOfT U (Y.2.1 4) (.array (.object "DoubledRowsLaw$Value")) ∧ U.vm.findClass ("[" ++ (FieldType.array (.object "DoubledRowsLaw$Value")).toString) = some (Y.2.1 4) ∧ va_Nw (.classLink RX5 19 "[[LDoubledRowsLaw$Value;") U
theorem va_Nw.warmK {a b : String} {i : Nat} {s U : State} (hW : s.WarmedH U.vm) (hZ : va_Nw (.classLink a i b) s) : va_Nw (.classLink a i b) U := va_tabs rfl (rfl : (s.setVm U.vm).vm = U.vm) (by
  show (Cond.classLink a i b).before #[] (s.setVm U.vm) = true
  have h : (Cond.classLink a i b).before #[] s = true := hZ
  simp only [Cond.before, Cond.holds, Cond.value] at h ⊢
  rw [State.classLinks_warmed hW]
  exact h)
theorem va_Oc.moved {Y : yT} {u U : State} (hvm : u.vm.Alike U.vm) (hl : va_Nw (.classLink RX5 19 "[[LDoubledRowsLaw$Value;") U) (h : va_Oc Y u) : va_Oc Y U := ⟨arrOfT_moved hvm h.1, by rw [hvm.findClass]; exact h.2.1, hl⟩
/-- what the law's own side asks of the tables -/
def XL (Y : yT) (U : State) : Prop := (∀ k ∈ iWs, va_Fw k.1 k.2.1 k.2.2 U) ∧ (∀ k ∈ fWs, va_Nw (fN k) U) ∧ va_Nw n40 U ∧ (∀ k ∈ kWs, va_Nw (.castable k.1 k.2) U) ∧ va_AO "DoubledRowsLaw$Value" U ∧ va_AO "java/lang/Object" U ∧ (va_Nw (.arrayOver (.array (.object "DoubledRowsLaw$Value"))) U ∧ va_Oc Y U) ∧ va_Mi oAr (Y.2.2.2.1 101) U ∧ va_Dc U
theorem iWs_ok : ∀ k ∈ iWs, k.2.1.cls ≠ "java/lang/invoke/MethodHandle" ∧ k.2.1.cls ≠ "java/lang/invoke/VarHandle" := by decide +kernel
theorem XL.warm {Y : yT} {s U : State} (hW : s.WarmedH U.vm) (h : XL Y s) : XL Y U := ⟨fun k hk => va_Fw.moved (iWs_ok k hk) hW.alike (h.1 k hk), fun k hk => va_Nw.warmF hW (h.2.1 k hk), va_Nw.warmM hW h.2.2.1, fun k hk => va_Nw.warmC hW (h.2.2.2.1 k hk), va_AO.moved hW.alike h.2.2.2.2.1, va_AO.moved hW.alike h.2.2.2.2.2.1, ⟨arrayOver_al hW.alike h.2.2.2.2.2.2.1.1, va_Oc.moved hW.alike (va_Nw.warmK hW h.2.2.2.2.2.2.1.2.2.2) h.2.2.2.2.2.2.1.2⟩, va_Mi.moved hW.alike h.2.2.2.2.2.2.2.1, va_Dc.moved hW.alike h.2.2.2.2.2.2.2.2⟩
theorem XL.same {Y : yT} {u U : State} (e : u.vm = U.vm) (h : XL Y u) : XL Y U := by
  have ha : u.vm.Alike U.vm := by rw [e]; exact Vm.Alike.refl _
  exact ⟨fun k hk => va_Fw.moved (iWs_ok k hk) ha (h.1 k hk), fun k hk => va_Nw.same rfl e (h.2.1 k hk), va_Nw.same rfl e h.2.2.1, fun k hk => va_Nw.same rfl e (h.2.2.2.1 k hk), va_AO.moved ha h.2.2.2.2.1, va_AO.moved ha h.2.2.2.2.2.1, ⟨arrayOver_al ha h.2.2.2.2.2.2.1.1, va_Oc.moved ha (va_Nw.same rfl e h.2.2.2.2.2.2.1.2.2.2) h.2.2.2.2.2.2.1.2⟩, va_Mi.moved ha h.2.2.2.2.2.2.2.1, va_Dc.moved ha h.2.2.2.2.2.2.2.2⟩
/-- what the tables alone say: the links of nest mates, the texts, what throws and the law's own side need -/
def XW (Y : yT) (U : State) : Prop := (va_Nw n99 U ∧ va_Nw n72 U ∧ va_Nw n109 U ∧ va_Nw n122 U) ∧ (∀ k ∈ tWs, tW k Y U) ∧ (∀ k ∈ xWs, ∃ sa : Nat, vk_R RX4 k.1 k.2 sa U) ∧ (∀ w ∈ dWs, va_Nw (.declares w) U) ∧ (∀ E ∈ eWs, va_Nw (.castable E E) U) ∧ XL Y U ∧ va_AO "DoubledRows$Row" U
theorem XW.warm {Y : yT} {s U : State} (hW : s.WarmedH U.vm) (h : XW Y s) : XW Y U := ⟨⟨va_Nw.warmM hW h.1.1, va_Nw.warmM hW h.1.2.1, va_Nw.warmM hW h.1.2.2.1, va_Nw.warmM hW h.1.2.2.2⟩, fun k hk => vk_R.warm hW (h.2.1 k hk), fun k hk => (h.2.2.1 k hk).elim (fun sa q => ⟨sa, vk_R.warm hW q⟩), fun w hw => va_Nw.warmD hW (h.2.2.2.1 w hw), fun E hE => va_Nw.warmC hW (h.2.2.2.2.1 E hE), XL.warm hW h.2.2.2.2.2.1, va_AO.moved hW.alike h.2.2.2.2.2.2⟩
theorem XW.same {Y : yT} {u U : State} (e : u.vm = U.vm) (h : XW Y u) : XW Y U := by
  have ha : u.vm.Alike U.vm := by rw [e]; exact Vm.Alike.refl _
  exact ⟨⟨va_Nw.same rfl e h.1.1, va_Nw.same rfl e h.1.2.1, va_Nw.same rfl e h.1.2.2.1, va_Nw.same rfl e h.1.2.2.2⟩, fun k hk => vk_R.same e.symm (h.2.1 k hk), fun k hk => (h.2.2.1 k hk).elim (fun sa q => ⟨sa, vk_R.same e.symm q⟩), fun w hw => va_Nw.same rfl e (h.2.2.2.1 w hw), fun E hE => va_Nw.same rfl e (h.2.2.2.2.1 E hE), XL.same e h.2.2.2.2.2.1, va_AO.moved ha h.2.2.2.2.2.2⟩
/-- the empty array of a new list, the digits -/
def ZE (Y : yT) (A : Nat → Prop) (U : State) (H : Heap) : Prop := va_Z RJx4a65c "DEFAULTCAPACITY_EMPTY_ELEMENTDATA" oAr (.ref (Y.2.2.2.1 100)) A U H ∧ va_T (.object "java/lang/Object") (Y.2.2.2.1 100) 0 (fun _ => .null) A U H ∧ va_O oAr (Y.2.2.2.1 100) A U H ∧ (va_Z RJ6 "DigitOnes" "[B" (.ref (Y.2.2.2.1 102)) A U H ∧ va_T .byte (Y.2.2.2.1 102) 100 (fun j => .int (nI (48 + j % 10))) A U H) ∧ va_Z RJ6 "DigitTens" "[B" (.ref (Y.2.2.2.1 103)) A U H ∧ va_T .byte (Y.2.2.2.1 103) 100 (fun j => .int (nI (48 + j / 10))) A U H
theorem ZE.moved {Y : yT} {A : Nat → Prop} {u U : State} {H : Heap} (hvm : u.vm.Alike U.vm) (h : ZE Y A u H) : ZE Y A U H := ⟨va_Z.moved hvm h.1, va_T.moved hvm h.2.1, va_O.moved hvm h.2.2.1, ⟨va_Z.moved hvm h.2.2.2.1.1, va_T.moved hvm h.2.2.2.1.2⟩, va_Z.moved hvm h.2.2.2.2.1, va_T.moved hvm h.2.2.2.2.2⟩
theorem ZE.kept {Y : yT} {A : Nat → Prop} {U : State} {H H1 : Heap} (h : ZE Y A U H) (hq : ∀ a : Nat, a < H.size → ¬ A a → H1[a]? = H[a]?) : ZE Y A U H1 := ⟨va_Z.kept h.1 hq, va_T.kept h.2.1 hq, va_O.kept h.2.2.1 hq, ⟨va_Z.kept h.2.2.2.1.1 hq, va_T.kept h.2.2.2.1.2 hq⟩, va_Z.kept h.2.2.2.2.1 hq, va_T.kept h.2.2.2.2.2 hq⟩
theorem ZE.narrow {Y : yT} {A B : Nat → Prop} {U : State} {H : Heap} (h : ZE Y A U H) (hAB : ∀ q, B q → A q) : ZE Y B U H := ⟨va_Z.narrow h.1 hAB, va_T.narrow h.2.1 hAB, va_O.narrow h.2.2.1 hAB, ⟨va_Z.narrow h.2.2.2.1.1 hAB, va_T.narrow h.2.2.2.1.2 hAB⟩, va_Z.narrow h.2.2.2.2.1 hAB, va_T.narrow h.2.2.2.2.2 hAB⟩
/-- what lies in the heap outside A: the texts themselves, the statics that are read -/
def ZW (Y : yT) (A : Nat → Prop) (U : State) (H : Heap) : Prop := vk_S 10 sLen sByt Y.2.2.2.1 Y.2.2.2.2 A U H ∧ va_Z "java/lang/String" "COMPACT_STRINGS" "Z" (.int 1) A U H ∧ va_Zq "jdk/internal/util/Preconditions" "SIOOBE_FORMATTER" "Ljava/util/function/BiFunction;" A U H ∧ vx_Zq Bundle.tN "UNASSIGNED_STACK" Bundle.steD A U H ∧ vx_Zq Bundle.tN "SUPPRESSED_SENTINEL" Bundle.listD A U H ∧ ZE Y A U H
theorem ZW.moved {Y : yT} {A : Nat → Prop} {u U : State} {H : Heap} (hvm : u.vm.Alike U.vm) (h : ZW Y A u H) : ZW Y A U H := ⟨vk_S.moved hvm h.1, va_Z.moved hvm h.2.1, va_Zq.moved hvm h.2.2.1, vx_Zq.moved hvm h.2.2.2.1, vx_Zq.moved hvm h.2.2.2.2.1, ZE.moved hvm h.2.2.2.2.2⟩
theorem ZW.kept {Y : yT} {A : Nat → Prop} {U : State} {H H1 : Heap} (h : ZW Y A U H) (hq : ∀ a : Nat, a < H.size → ¬ A a → H1[a]? = H[a]?) : ZW Y A U H1 := ⟨vk_S.kept h.1 hq, va_Z.kept h.2.1 hq, va_Zq.kept h.2.2.1 hq, vx_Zq.kept h.2.2.2.1 hq, vx_Zq.kept h.2.2.2.2.1 hq, ZE.kept h.2.2.2.2.2 hq⟩
theorem ZW.narrow {Y : yT} {A B : Nat → Prop} {U : State} {H : Heap} (h : ZW Y A U H) (hAB : ∀ q, B q → A q) : ZW Y B U H := ⟨vk_S.narrow h.1 hAB, va_Z.narrow h.2.1 hAB, va_Zq.narrow h.2.2.1 hAB, vx_Zq.narrow h.2.2.2.1 hAB, vx_Zq.narrow h.2.2.2.2.1 hAB, ZE.narrow h.2.2.2.2.2 hAB⟩
def sPre (Dd : va_G) (Y : yT) (sz : Nat) (ws : va_W) (U : State) : Prop := U.heap.size = sz ∧ va_P Dd vwCl ws U.heap ∧ va_K Dd vwCl (TY Y) U ∧ va_D (fun _ => True) ws ∧ XW Y U ∧ ZW Y (va_A ws sz) U U.heap
def sEnd (Dd : va_G) (Y : yT) (A : Nat → Prop) (ws : va_W) (t : State) : Prop := va_P Dd vwCl ws t.heap ∧ va_K Dd vwCl (TY Y) t ∧ va_D A ws
theorem sPre.blind (Dd : va_G) (Y : yT) (sz : Nat) (ws : va_W) (av : List Value) : FrameBlind (va_Pc av (sPre Dd Y sz ws)) := fun a U g mk q => by
  obtain ⟨q0, q1, qP, qK, qD, qX, qZ⟩ := q
  exact ⟨q0, q1, qP, va_K.moved (u := U) (U := U.calling g mk a) (Vm.Alike.refl U.vm) qK, qD, XW.same (u := U) rfl qX, ZW.moved (u := U) (U := U.calling g mk a) (Vm.Alike.refl U.vm) qZ⟩
def Qg (Dd : va_G) (Y : yT) (A : Nat → Prop) (ws : va_W) (rv : Option Value) : Array Value → State → Outcome → State → Prop := fun _ st oc t => (oc = .returned rv ∧ sEnd Dd Y A ws t) ∧ va_F A st t
/-- a contract: from the world ws the method hands back rv and leaves the world ws' -/
def MG (l : Launch) (y : MethodName) (words : List Cond) (rm : Room) (Dd : va_G) (Y : yT) (av : List Value) (ws ws' : va_W) (rv : Option Value) : Prop :=
  ∀ sz : Nat, Met l y words rm (va_Pc av (sPre Dd Y sz ws)) (Qg Dd Y (va_A ws sz) ws' rv) 0 0 (va_A ws sz)
def Wd (Dd : va_G) (A : Nat → Prop) (H0 : Heap) (ws : va_W) (H : Heap) (locs : List Loc) : Prop := va_P Dd vwCl ws H ∧ va_D A ws ∧ va_S A H0 H locs
def cx (p : Program) (s : State) (m : MethodId) (args : Array Value) (c : Code) (cc : ByteArray) (nL : Nat) (Ts : List Cond) (own : String) (Dd : va_G) (Y : yT) (A : Nat → Prop) : Prop :=
  CallFix p m c cc nL s args Ts own ∧ va_K Dd vwCl (TY Y) s ∧ (∀ q : Nat, s.heap.size ≤ q → A q) ∧ XW Y s ∧ ZW Y A s s.heap
section BASE
variable {p : Program} {l : Launch} {e : Env} {R : Room} {s : State} {m : MethodId} {args : Array Value} {below : List Frame} {meth : Method} {c : Code} {H : Heap} {locs : List Loc} {cells slots : Nat} {Q : State → Prop}
variable {cc : ByteArray} {nL pc : Nat} {Ts : List Cond} {own : String} {Dd : va_G} {Y : yT} {A : Nat → Prop} {ls : Array Slot} {rest st : List Value} {ws : va_W} {a : Nat}
theorem cx.x (X : cx p s m args c cc nL Ts own Dd Y A) : p.tables.exec = Jvm.exec := X.1.1
theorem cx.b (X : cx p s m args c cc nL Ts own Dd Y A) : c.code = cc := X.1.2.1
theorem cx.w (X : cx p s m args c cc nL Ts own Dd Y A) {i : Nat} {w : Cond} (h : Ts[i]? = some w) : w.before args s = true := X.1.2.2.2.2 w (List.mem_of_getElem? h)
theorem cx.z (X : cx p s m args c cc nL Ts own Dd Y A) (hS : va_S A s.heap H locs) {B : Nat → Prop} (hF : ∀ q, B q → A q) {U : State} (hU : U.heap = H) (hW : s.WarmedH U.vm) : ZW Y B U U.heap := by
  rw [hU]
  exact ZW.moved hW.alike ((X.2.2.2.2.kept (fun a h1 h2 => hS.2.1 a h1 h2)).narrow hF)
theorem MGi {y : MethodName} {words ws9 : List Cond} {rm : Room} {maxL : Nat} {ty : FieldType} {av : List Value} {ws' : va_W} {r : Int32} (hy : plainName y.cls = true) (hw : words = .code y cc maxL (some ty) :: ws9) (hlen : (lg_sl av).length ≤ maxL)
    (k : ∀ {p : Program} {e : Env} {s : State} {m : MethodId} {args : Array Value} {below : List Frame} {meth : Method} {c : Code} {A : Nat → Prop} (ls : Array Slot) (Q : State → Prop), cx p s m args c cc maxL words y.cls Dd Y A → Wd Dd A s.heap ws s.heap [] → lv_has ls maxL (lv_args 0 av) →
      (∀ (H : Heap) (locs : List Loc) (ls : Array Slot) (pc : Nat), narrow ty (.int r) = .int r → Wd Dd A s.heap ws' H locs → decode cc pc = .ok (.ireturn, 1) → W p l e rm s m args below meth c H locs 0 0 Q (F0 m pc ls [.int r])) → W p l e rm s m args below meth c s.heap [] 0 0 Q (F0 m 0 ls [])) : MG l y words rm Dd Y av ws ws' (some (.int r)) := by
  intro sz
  refine Met.ofW (cc := cc) (maxL := maxL) (ret := some ty) hy hw ?_
  intro p e s m args below meth c s₁ B hml hv
  obtain ⟨rfl, hsz, hP, hK, hD0, hX, hZ⟩ := hv
  subst hsz
  have hD : va_D (va_A ws s.heap.size) ws := hD0.self
  have hts := atoms_spec (ws := words) B.pre
  have hown : s.vm.findClass y.cls = some m.cls := findClass_of_methodNamed B.named
  rw [lg_entry_eq]
  refine k _ _ ⟨⟨B.exec, B.bytes, hml, hown, hts⟩, hK, fun q h => Or.inr h, hX, hZ⟩ ⟨hP, hD, va_S.rf⟩ (lv_entry av hlen) (fun H locs ls pc hn hW hdg => ?_)
  exact W.zret B.exec B.bytes B.returns hn (fun t ht hWm => ⟨⟨rfl, by rw [ht]; exact hW.1, va_K.moved hWm.alike hK, hW.2.1⟩, hW.2.2.F ht⟩) hW.2.2.2.2 hdg B.notSynchronized
theorem MGv {y : MethodName} {words ws9 : List Cond} {rm : Room} {maxL : Nat} {av : List Value} {ws' : va_W} (hy : plainName y.cls = true) (hw : words = .code y cc maxL none :: ws9) (hlen : (lg_sl av).length ≤ maxL)
    (k : ∀ {p : Program} {e : Env} {s : State} {m : MethodId} {args : Array Value} {below : List Frame} {meth : Method} {c : Code} {A : Nat → Prop} (ls : Array Slot) (Q : State → Prop), cx p s m args c cc maxL words y.cls Dd Y A → Wd Dd A s.heap ws s.heap [] → lv_has ls maxL (lv_args 0 av) →
      (∀ (H : Heap) (locs : List Loc) (ls : Array Slot) (pc : Nat), Wd Dd A s.heap ws' H locs → decode cc pc = .ok (.return_, 1) → W p l e rm s m args below meth c H locs 0 0 Q (F0 m pc ls [])) → W p l e rm s m args below meth c s.heap [] 0 0 Q (F0 m 0 ls [])) : MG l y words rm Dd Y av ws ws' none := by
  intro sz
  refine Met.ofW (cc := cc) (maxL := maxL) (ret := none) hy hw ?_
  intro p e s m args below meth c s₁ B hml hv
  obtain ⟨rfl, hsz, hP, hK, hD0, hX, hZ⟩ := hv
  subst hsz
  have hD : va_D (va_A ws s.heap.size) ws := hD0.self
  have hts := atoms_spec (ws := words) B.pre
  have hown : s.vm.findClass y.cls = some m.cls := findClass_of_methodNamed B.named
  rw [lg_entry_eq]
  refine k _ _ ⟨⟨B.exec, B.bytes, hml, hown, hts⟩, hK, fun q h => Or.inr h, hX, hZ⟩ ⟨hP, hD, va_S.rf⟩ (lv_entry av hlen) (fun H locs ls pc hW hdg => ?_)
  exact W.vret B.exec B.bytes B.returns (fun t ht hWm => ⟨⟨rfl, by rw [ht]; exact hW.1, va_K.moved hWm.alike hK, hW.2.1⟩, hW.2.2.F ht⟩) hW.2.2.2.2 hdg B.notSynchronized
theorem MGl {y : MethodName} {words ws9 : List Cond} {rm : Room} {maxL : Nat} {av : List Value} {ws' : va_W} {r : Int64} (hy : plainName y.cls = true) (hw : words = .code y cc maxL (some .long) :: ws9) (hlen : (lg_sl av).length ≤ maxL)
    (k : ∀ {p : Program} {e : Env} {s : State} {m : MethodId} {args : Array Value} {below : List Frame} {meth : Method} {c : Code} {A : Nat → Prop} (ls : Array Slot) (Q : State → Prop), cx p s m args c cc maxL words y.cls Dd Y A → Wd Dd A s.heap ws s.heap [] → lv_has ls maxL (lv_args 0 av) →
      (∀ (H : Heap) (locs : List Loc) (ls : Array Slot) (pc : Nat), Wd Dd A s.heap ws' H locs → decode cc pc = .ok (.lreturn, 1) → W p l e rm s m args below meth c H locs 0 0 Q (F0 m pc ls [.long r])) → W p l e rm s m args below meth c s.heap [] 0 0 Q (F0 m 0 ls [])) : MG l y words rm Dd Y av ws ws' (some (.long r)) := by
  intro sz
  refine Met.ofW (cc := cc) (maxL := maxL) (ret := some .long) hy hw ?_
  intro p e s m args below meth c s₁ B hml hv
  obtain ⟨rfl, hsz, hP, hK, hD0, hX, hZ⟩ := hv
  subst hsz
  have hD : va_D (va_A ws s.heap.size) ws := hD0.self
  have hts := atoms_spec (ws := words) B.pre
  have hown : s.vm.findClass y.cls = some m.cls := findClass_of_methodNamed B.named
  rw [lg_entry_eq]
  refine k _ _ ⟨⟨B.exec, B.bytes, hml, hown, hts⟩, hK, fun q h => Or.inr h, hX, hZ⟩ ⟨hP, hD, va_S.rf⟩ (lv_entry av hlen) (fun H locs ls pc hW hdg => ?_)
  exact W.lret B.exec B.bytes B.returns (fun t ht hWm => ⟨⟨rfl, by rw [ht]; exact hW.1, va_K.moved hWm.alike hK, hW.2.1⟩, hW.2.2.F ht⟩) hW.2.2.2.2 hdg B.notSynchronized
theorem MGf {y : MethodName} {words ws9 : List Cond} {rm : Room} {maxL : Nat} {av : List Value} {ws' : va_W} {r : UInt32} (hy : plainName y.cls = true) (hw : words = .code y cc maxL (some .float) :: ws9) (hlen : (lg_sl av).length ≤ maxL)
    (k : ∀ {p : Program} {e : Env} {s : State} {m : MethodId} {args : Array Value} {below : List Frame} {meth : Method} {c : Code} {A : Nat → Prop} (ls : Array Slot) (Q : State → Prop), cx p s m args c cc maxL words y.cls Dd Y A → Wd Dd A s.heap ws s.heap [] → lv_has ls maxL (lv_args 0 av) →
      (∀ (H : Heap) (locs : List Loc) (ls : Array Slot) (pc : Nat), Wd Dd A s.heap ws' H locs → decode cc pc = .ok (.freturn, 1) → W p l e rm s m args below meth c H locs 0 0 Q (F0 m pc ls [.float r])) → W p l e rm s m args below meth c s.heap [] 0 0 Q (F0 m 0 ls [])) : MG l y words rm Dd Y av ws ws' (some (.float r)) := by
  intro sz
  refine Met.ofW (cc := cc) (maxL := maxL) (ret := some .float) hy hw ?_
  intro p e s m args below meth c s₁ B hml hv
  obtain ⟨rfl, hsz, hP, hK, hD0, hX, hZ⟩ := hv
  subst hsz
  have hD : va_D (va_A ws s.heap.size) ws := hD0.self
  have hts := atoms_spec (ws := words) B.pre
  have hown : s.vm.findClass y.cls = some m.cls := findClass_of_methodNamed B.named
  rw [lg_entry_eq]
  refine k _ _ ⟨⟨B.exec, B.bytes, hml, hown, hts⟩, hK, fun q h => Or.inr h, hX, hZ⟩ ⟨hP, hD, va_S.rf⟩ (lv_entry av hlen) (fun H locs ls pc hW hdg => ?_)
  exact W.fret B.exec B.bytes B.returns (fun t ht hWm => ⟨⟨rfl, by rw [ht]; exact hW.1, va_K.moved hWm.alike hK, hW.2.1⟩, hW.2.2.F ht⟩) hW.2.2.2.2 hdg B.notSynchronized
/-! fields and arrays -/
theorem g_ (X : cx p s m args c cc nL Ts own Dd Y A) {C ref : String} {T : u_T} {N ci index : Nat} (hin : ∀ w ∈ u_ws C T N, w ∈ Ts) (hW : Wd Dd A s.heap ws H locs) (q0 : Nat) {fs : List Value} (he : ws[q0]? = some (a, .inr (ci, fs))) (hc : vwCl[ci]? = some (C, T, N)) (k : Nat) (hk : k < N) (i : Nat) (hlink : Ts[i]? = some (Cond.fieldLink own index ref (T k).2.1 (T k).2.2.1)) (href : (T k).1 = ref) {v : Value} (hv : fs[k]? = some v) (hdg : decode cc pc = .ok (.getfield index, 3))
    (kk : W p l e R s m args below meth c H locs cells slots Q (F0 m (pc + 3) ls (v :: rest))) : W p l e R s m args below meth c H locs cells slots Q (F0 m pc ls (.ref a :: rest)) :=
  va_get X.x X.b X.1.2.2.2.2 hin X.1.2.2.2.1 X.2.1 hW.1 q0 he hc k hk (X.w hlink) (fun x h => by rw [← href]; exact h) hv hdg kk
theorem p_ (X : cx p s m args c cc nL Ts own Dd Y A) {C ref : String} {T : u_T} {N ci index : Nat} (hin : ∀ w ∈ u_ws C T N, w ∈ Ts) (ty0 : Nat → FieldType) (hty : ∀ k, k < N → parseFieldDescriptor (T k).2.2.1 = some (ty0 k)) (hnm : ∀ a, a < N → ∀ b, b < N → a ≠ b → (T a).2.1 ≠ (T b).2.1) (hW : Wd Dd A s.heap ws H locs) (q0 : Nat) {fs : List Value} (he : ws[q0]? = some (a, .inr (ci, fs))) (hc : vwCl[ci]? = some (C, T, N)) (k : Nat) (hk : k < N) (i : Nat) (hlink : Ts[i]? = some (Cond.fieldLink own index ref (T k).2.1 (T k).2.2.1)) (href : (T k).1 = ref) (hfin : (T k).2.2.2 = false) {ty : FieldType} {v : Value} (hd : parseFieldDescriptor (T k).2.2.1 = some ty) (hn : narrow ty v = v) (hfit : fits ty v = true) (hl : k < fs.length)
    (hdg : decode cc pc = .ok (.putfield index, 3)) {ws' : va_W} (hset : ws.set q0 (a, .inr (ci, fs.set k v)) = ws') (kk : ∀ (H : Heap) (locs : List Loc), Wd Dd A s.heap ws' H locs → W p l e R s m args below meth c H locs cells slots Q (F0 m (pc + 3) ls rest)) : W p l e R s m args below meth c H locs cells slots Q (F0 m pc ls (v :: .ref a :: rest)) := by
  subst hset
  exact va_put X.x X.b X.1.2.2.2.2 hin ty0 hty hnm X.1.2.2.2.1 X.2.1 hW.1 hW.2.1 hW.2.2 q0 he hc k hk (X.w hlink) (fun x h => by rw [← href]; exact h) hfin hd hn hfit hl hdg (fun H1 locs1 h1 h2 h3 => kk H1 locs1 ⟨h1, h2, h3⟩)
theorem a_ (X : cx p s m args c cc nL Ts own Dd Y A) (hW : Wd Dd A s.heap ws H locs) (q0 : Nat) {cA : ClassId} {n : Nat} {f : Nat → Int32} (ha : ws[q0]? = some (a, .inl (cA, n, .inl f))) (ht : (TY Y)[0]? = some (cA, .int)) {i : Int32} (hin : vp_in i n) (hdg : decode cc pc = .ok (.iaload, 1))
    (kk : W p l e R s m args below meth c H locs cells slots Q (F0 m (pc + 1) ls (.int (f i.toNatClampNeg) :: rest))) : W p l e R s m args below meth c H locs cells slots Q (F0 m pc ls (.int i :: .ref a :: rest)) :=
  va_iald X.x X.b X.2.1 hW.1 q0 0 ha ht hin hdg kk
theorem s_ (X : cx p s m args c cc nL Ts own Dd Y A) (hW : Wd Dd A s.heap ws H locs) (q0 : Nat) {cA : ClassId} {n : Nat} {f : Nat → Int32} (ha : ws[q0]? = some (a, .inl (cA, n, .inl f))) (ht : (TY Y)[0]? = some (cA, .int)) {i x : Int32} (hin : vp_in i n) (hdg : decode cc pc = .ok (.iastore, 1)) {ws' : va_W} (hset : ws.set q0 (a, .inl (cA, n, .inl (upd f i.toNatClampNeg x))) = ws')
    (kk : ∀ (H : Heap) (locs : List Loc), Wd Dd A s.heap ws' H locs → W p l e R s m args below meth c H locs cells slots Q (F0 m (pc + 1) ls rest)) : W p l e R s m args below meth c H locs cells slots Q (F0 m pc ls (.int x :: .int i :: .ref a :: rest)) := by
  subst hset
  exact va_iast X.x X.b X.2.1 hW.1 hW.2.1 hW.2.2 q0 0 ha ht hin hdg (fun H1 locs1 h1 h2 h3 => kk H1 locs1 ⟨h1, h2, h3⟩)
theorem len_ (X : cx p s m args c cc nL Ts own Dd Y A) (hW : Wd Dd A s.heap ws H locs) (q0 t0 : Nat) {cA : ClassId} {x : vp_A} (ha : ws[q0]? = some (a, .inl (cA, x))) {ty : FieldType} (ht : (TY Y)[t0]? = some (cA, ty)) {v : Int32} (hv : Int32.ofNat x.1 = v) (hdg : decode cc pc = .ok (.arraylength, 1))
    (kk : W p l e R s m args below meth c H locs cells slots Q (F0 m (pc + 1) ls (.int v :: rest))) : W p l e R s m args below meth c H locs cells slots Q (F0 m pc ls (.ref a :: rest)) :=
  va_alen X.x X.b X.2.1 hW.1 q0 t0 ha ht hv hdg kk
/-! Math -/
theorem max_ (X : cx p s m args c cc nL Ts own Dd Y A) (hz : ls.size = nL) {index : Nat} (i1 i2 i3 i4 : Nat) (h1 : Ts[i1]? = some (Cond.methodLink own index Lib.Math.max.name)) (h2 : Ts[i2]? = some (Cond.static Lib.Math.max.name)) (h3 : Ts[i3]? = some (Cond.initialized "java/lang/Math")) (h4 : Ts[i4]? = some (Cond.code Lib.Math.max.name Lib.Math.max.code 2 (some .int)))
    (hR : 1 ≤ R.frames ∧ 21 ≤ R.locals) (hr : (rest.map fun v => v.category).sum ≤ 8) (hf : cells ≤ R.cells ∧ slots ≤ R.slots) {x y : Int32} (hdg : decode cc pc = .ok (.invokestatic index, 3))
    (kk : W p l e R s m args below meth c H locs cells slots Q (F0 m (pc + 3) ls (.int (if x < y then y else x) :: rest))) : W p l e R s m args below meth c H locs cells slots Q (F0 m pc ls (.int y :: .int x :: rest)) :=
  va_mmax X.x X.b (X.1.2.2.1.trans hz.symm) X.1.2.2.2.1 (X.w h1) (X.w h2) (X.w h3) (X.w h4) hR.1 (by omega) hf.1 hf.2 hdg kk
theorem min_ (X : cx p s m args c cc nL Ts own Dd Y A) (hz : ls.size = nL) {index : Nat} (i1 i2 i3 i4 : Nat) (h1 : Ts[i1]? = some (Cond.methodLink own index Lib.Math.min.name)) (h2 : Ts[i2]? = some (Cond.static Lib.Math.min.name)) (h3 : Ts[i3]? = some (Cond.initialized "java/lang/Math")) (h4 : Ts[i4]? = some (Cond.code Lib.Math.min.name Lib.Math.min.code 2 (some .int)))
    (hR : 1 ≤ R.frames ∧ 21 ≤ R.locals) (hr : (rest.map fun v => v.category).sum ≤ 8) (hf : cells ≤ R.cells ∧ slots ≤ R.slots) {x y : Int32} (hdg : decode cc pc = .ok (.invokestatic index, 3))
    (kk : W p l e R s m args below meth c H locs cells slots Q (F0 m (pc + 3) ls (.int (if y < x then y else x) :: rest))) : W p l e R s m args below meth c H locs cells slots Q (F0 m pc ls (.int y :: .int x :: rest)) :=
  va_mmin X.x X.b (X.1.2.2.1.trans hz.symm) X.1.2.2.2.1 (X.w h1) (X.w h2) (X.w h3) (X.w h4) hR.1 (by omega) hf.1 hf.2 hdg kk
/-! calls -/
theorem wd_free (hA : ∀ q : Nat, s.heap.size ≤ q → A q) (hW : Wd Dd A s.heap ws H locs) : ∀ q, va_A ws H.size q → A q := fun q h => by
  rcases h with ⟨k, e, h⟩ | h
  · exact hW.2.1.2 k (q, e) h
  · exact hA q (Nat.le_trans hW.2.2.1 h)
theorem run_g {mc ms : Nat} {a9 : Array Value} {st0 : List Value} {free : Addr → Prop} {w0 w1 : va_W} {rv : Option Value} (hr : va_Run p l e R s m args below meth c H locs cells slots 0 0 (F0 m pc ls st0) rest (Qg Dd Y (va_A w0 H.size) w1 rv a9) free) (hS : va_S A s.heap H locs) (hF : ∀ q, va_A w0 H.size q → A q) (hf : ∀ q, free q → A q)
    (kk : ∀ (H1 : Heap) (locs1 : List Loc), va_P Dd vwCl w1 H1 → va_D (va_A w0 H.size) w1 → (∀ q : Nat, q < H.size → ¬ va_A w0 H.size q → H1[q]? = H[q]?) → H.size ≤ H1.size → va_S A s.heap H1 locs1 → W p l e R s m args below meth c H1 locs1 cells slots Q (F0 m (pc + 3) ls (rv.toList ++ rest))) : W p l e R s m args below meth c H locs cells slots Q (F0 m pc ls st0) := by
  intro T hT X
  obtain ⟨v, st₀, t, T', L, h0, X', hL, e1, e2, ⟨⟨hv, hP, -, hD⟩, hz, hk⟩, st⟩ := hr T hT X
  cases hv
  rw [h0] at hz hk
  obtain ⟨t2, a1, b1⟩ := kk T'.heap (locs ++ L) (by rw [e1]; exact hP) hD (fun q h1 h2 => by rw [e1]; exact hk q h1 h2) (by rw [e1]; exact hz)
    ⟨Nat.le_trans hS.1 (by rw [e1]; exact hz), fun q h1 h2 => by rw [e1, hk q (Nat.lt_of_lt_of_le h1 hS.1) (fun z => h2 (hF q z))]; exact hS.2.1 q h1 h2, fun q hq => by
      rcases List.mem_append.mp hq with h | h
      · exact hS.2.2 q h
      · exact hf _ (hL q h)⟩ T' rfl X'
  exact ⟨t2, st t2 a1, b1⟩
/-- a virtual call over the whole world at hand -/
theorem cV_ (X : cx p s m args c cc nL Ts own Dd Y A) {y : MethodName} {words : List Cond} {rm : Room} {As : List Value} {w1 : va_W} {rv : Option Value} {bytes : ByteArray} {maxL n index b : Nat} {ret : Option FieldType} {C : String} (hM : MG l y words rm Dd Y (.ref b :: As) ws w1 rv) (cw : CallW R s args own C index y bytes maxL ret words rm 0 0 n) (hW : Wd Dd A s.heap ws H locs) (q0 ci : Nat) {q : vw_C} {fs : List Value} (hc : vwCl[ci]? = some q) (hq : q.1 = C) (he : ws[q0]? = some (b, .inr (ci, fs))) (hn : As.length = n) (hl : ls.size = nL) (hst : st = As.reverse ++ .ref b :: rest) (hr : (rest.map fun v => v.category).sum ≤ 8) (hdg : decode cc pc = .ok (.invokevirtual index, 3)) (hf : cells ≤ R.cells ∧ slots ≤ R.slots)
    (kk : ∀ (H : Heap) (locs : List Loc), Wd Dd A s.heap w1 H locs → W p l e R s m args below meth c H locs cells slots Q (F0 m (pc + 3) ls (rv.toList ++ rest))) : W p l e R s m args below meth c H locs cells slots Q (F0 m pc ls st) := by
  subst hq
  have hF := wd_free X.2.2.1 hW
  refine run_g (mc := 0) (ms := 0) (va_runV (As := As) (rest := rest) X.1 (hM H.size) cw ⟨sPre.blind _ _ _ _ _, va_recv X.2.1 hW.1 hc he, fun U hU hWm => ⟨rfl, by rw [hU], by rw [hU]; exact hW.1, va_K.moved hWm.alike X.2.1, hW.2.1.weaken (fun _ _ _ _ => trivial), X.2.2.2.1.warm hWm, cx.z X hW.2.2 hF hU hWm⟩⟩ rfl hn hl hst (lv_room hr) hdg hf) hW.2.2 hF hF (fun H1 locs1 h1 h2 _ _ h3 => ?_)
  exact kk H1 locs1 ⟨h1, h2.weaken (fun k q _ h => hF q.1 h), h3⟩
/-- a static call of a method that touches no cell -/
theorem cS_ (X : cx p s m args c cc nL Ts own Dd Y A) {y : MethodName} {words : List Cond} {rm : Room} {As : List Value} {rv : Option Value} {bytes : ByteArray} {maxL n index : Nat} {ret : Option FieldType} (hM : MG l y words rm Dd Y As [] [] rv) (cw : CallB R s args own index y bytes maxL ret words rm 0 0 n ∧ (Cond.static y).before args s = true) (hW : Wd Dd A s.heap ws H locs) (hn : As.length = n) (hl : ls.size = nL) (hst : st = As.reverse ++ rest) (hr : (rest.map fun v => v.category).sum ≤ 8) (hdg : decode cc pc = .ok (.invokestatic index, 3)) (hf : cells ≤ R.cells ∧ slots ≤ R.slots)
    (kk : ∀ (H : Heap) (locs : List Loc), Wd Dd A s.heap ws H locs → W p l e R s m args below meth c H locs cells slots Q (F0 m (pc + 3) ls (rv.toList ++ rest))) : W p l e R s m args below meth c H locs cells slots Q (F0 m pc ls st) := by
  have hF : ∀ q, va_A [] H.size q → A q := fun q h => by
    rcases h with ⟨k, e, h⟩ | h
    · simp at h
    · exact X.2.2.1 q (Nat.le_trans hW.2.2.1 h)
  refine run_g (mc := 0) (ms := 0) (va_runS (As := As) (rest := rest) X.1 (hM H.size) cw ⟨sPre.blind _ _ _ _ _, fun U hU hWm => ⟨rfl, by rw [hU], fun k q h => by simp at h, va_K.moved hWm.alike X.2.1, ⟨fun i j p q h => by simp at h, fun k q h => by simp at h⟩, X.2.2.2.1.warm hWm, cx.z X hW.2.2 hF hU hWm⟩⟩ rfl hn hl hst (lv_room hr) hdg hf) hW.2.2 hF hF (fun H1 locs1 _ _ hk hz h3 => ?_)
  refine kk H1 locs1 ⟨hW.1.kept (fun k q h => ?_), hW.2.1, h3⟩
  have hlt := (hW.1 k q h).lt
  exact hk q.1 hlt (fun z => by
    rcases z with ⟨k, e, h⟩ | z
    · simp at h
    · omega)
/-- the same, by the link of a nest mate -/
theorem cSN_ (X : cx p s m args c cc nL Ts own Dd Y A) {y : MethodName} {host : String} {words : List Cond} {rm : Room} {As : List Value} {rv : Option Value} {bytes : ByteArray} {maxL n index : Nat} {ret : Option FieldType} (hM : MG l y words rm Dd Y As [] [] rv) (cw : va_CN R s args own index y host bytes maxL ret words rm 0 0 n ∧ (Cond.static y).before args s = true ∧ True) (hW : Wd Dd A s.heap ws H locs) (hn : As.length = n) (hl : ls.size = nL) (hst : st = As.reverse ++ rest) (hr : (rest.map fun v => v.category).sum ≤ 8) (hdg : decode cc pc = .ok (.invokestatic index, 3)) (hf : cells ≤ R.cells ∧ slots ≤ R.slots)
    (kk : ∀ (H : Heap) (locs : List Loc), Wd Dd A s.heap ws H locs → W p l e R s m args below meth c H locs cells slots Q (F0 m (pc + 3) ls (rv.toList ++ rest))) : W p l e R s m args below meth c H locs cells slots Q (F0 m pc ls st) := by
  have hF : ∀ q, va_A [] H.size q → A q := fun q h => by
    rcases h with ⟨k, e, h⟩ | h
    · simp at h
    · exact X.2.2.1 q (Nat.le_trans hW.2.2.1 h)
  refine run_g (mc := 0) (ms := 0) (va_runSN (As := As) (rest := rest) X.1 (hM H.size) cw ⟨sPre.blind _ _ _ _ _, fun U hU hWm => ⟨rfl, by rw [hU], fun k q h => by simp at h, va_K.moved hWm.alike X.2.1, ⟨fun i j p q h => by simp at h, fun k q h => by simp at h⟩, X.2.2.2.1.warm hWm, cx.z X hW.2.2 hF hU hWm⟩⟩ rfl hn hl hst (lv_room hr) hdg hf) hW.2.2 hF hF (fun H1 locs1 _ _ hk hz h3 => ?_)
  refine kk H1 locs1 ⟨hW.1.kept (fun k q h => ?_), hW.2.1, h3⟩
  have hlt := (hW.1 k q h).lt
  exact hk q.1 hlt (fun z => by
    rcases z with ⟨k, e, h⟩ | z
    · simp at h
    · omega)
theorem cVi_ (X : cx p s m args c cc nL Ts own Dd Y A) {y : MethodName} {words : List Cond} {rm : Room} {As : List Value} {w1 : va_W} {r9 : Int32} {bytes : ByteArray} {maxL n index b : Nat} {ret : Option FieldType} {C : String} (hM : MG l y words rm Dd Y (.ref b :: As) ws w1 (some (.int r9))) (cw : CallW R s args own C index y bytes maxL ret words rm 0 0 n) (hW : Wd Dd A s.heap ws H locs) (q0 ci : Nat) {q : vw_C} {fs : List Value} (hc : vwCl[ci]? = some q) (hq : q.1 = C) (he : ws[q0]? = some (b, .inr (ci, fs))) (hn : As.length = n) (hl : ls.size = nL) (hst : st = As.reverse ++ .ref b :: rest) (hr : (rest.map fun v => v.category).sum ≤ 8) (hdg : decode cc pc = .ok (.invokevirtual index, 3)) (hf : cells ≤ R.cells ∧ slots ≤ R.slots)
    (kk : ∀ (H : Heap) (locs : List Loc), Wd Dd A s.heap w1 H locs → W p l e R s m args below meth c H locs cells slots Q (F0 m (pc + 3) ls (.int r9 :: rest))) : W p l e R s m args below meth c H locs cells slots Q (F0 m pc ls st) := cV_ X hM cw hW q0 ci hc hq he hn hl hst hr hdg hf kk
theorem cVl_ (X : cx p s m args c cc nL Ts own Dd Y A) {y : MethodName} {words : List Cond} {rm : Room} {As : List Value} {w1 : va_W} {r9 : Int64} {bytes : ByteArray} {maxL n index b : Nat} {ret : Option FieldType} {C : String} (hM : MG l y words rm Dd Y (.ref b :: As) ws w1 (some (.long r9))) (cw : CallW R s args own C index y bytes maxL ret words rm 0 0 n) (hW : Wd Dd A s.heap ws H locs) (q0 ci : Nat) {q : vw_C} {fs : List Value} (hc : vwCl[ci]? = some q) (hq : q.1 = C) (he : ws[q0]? = some (b, .inr (ci, fs))) (hn : As.length = n) (hl : ls.size = nL) (hst : st = As.reverse ++ .ref b :: rest) (hr : (rest.map fun v => v.category).sum ≤ 8) (hdg : decode cc pc = .ok (.invokevirtual index, 3)) (hf : cells ≤ R.cells ∧ slots ≤ R.slots)
    (kk : ∀ (H : Heap) (locs : List Loc), Wd Dd A s.heap w1 H locs → W p l e R s m args below meth c H locs cells slots Q (F0 m (pc + 3) ls (.long r9 :: rest))) : W p l e R s m args below meth c H locs cells slots Q (F0 m pc ls st) := cV_ X hM cw hW q0 ci hc hq he hn hl hst hr hdg hf kk
theorem cVf_ (X : cx p s m args c cc nL Ts own Dd Y A) {y : MethodName} {words : List Cond} {rm : Room} {As : List Value} {w1 : va_W} {r9 : UInt32} {bytes : ByteArray} {maxL n index b : Nat} {ret : Option FieldType} {C : String} (hM : MG l y words rm Dd Y (.ref b :: As) ws w1 (some (.float r9))) (cw : CallW R s args own C index y bytes maxL ret words rm 0 0 n) (hW : Wd Dd A s.heap ws H locs) (q0 ci : Nat) {q : vw_C} {fs : List Value} (hc : vwCl[ci]? = some q) (hq : q.1 = C) (he : ws[q0]? = some (b, .inr (ci, fs))) (hn : As.length = n) (hl : ls.size = nL) (hst : st = As.reverse ++ .ref b :: rest) (hr : (rest.map fun v => v.category).sum ≤ 8) (hdg : decode cc pc = .ok (.invokevirtual index, 3)) (hf : cells ≤ R.cells ∧ slots ≤ R.slots)
    (kk : ∀ (H : Heap) (locs : List Loc), Wd Dd A s.heap w1 H locs → W p l e R s m args below meth c H locs cells slots Q (F0 m (pc + 3) ls (.float r9 :: rest))) : W p l e R s m args below meth c H locs cells slots Q (F0 m pc ls st) := cV_ X hM cw hW q0 ci hc hq he hn hl hst hr hdg hf kk
theorem cVv_ (X : cx p s m args c cc nL Ts own Dd Y A) {y : MethodName} {words : List Cond} {rm : Room} {As : List Value} {w1 : va_W}  {bytes : ByteArray} {maxL n index b : Nat} {ret : Option FieldType} {C : String} (hM : MG l y words rm Dd Y (.ref b :: As) ws w1 none) (cw : CallW R s args own C index y bytes maxL ret words rm 0 0 n) (hW : Wd Dd A s.heap ws H locs) (q0 ci : Nat) {q : vw_C} {fs : List Value} (hc : vwCl[ci]? = some q) (hq : q.1 = C) (he : ws[q0]? = some (b, .inr (ci, fs))) (hn : As.length = n) (hl : ls.size = nL) (hst : st = As.reverse ++ .ref b :: rest) (hr : (rest.map fun v => v.category).sum ≤ 8) (hdg : decode cc pc = .ok (.invokevirtual index, 3)) (hf : cells ≤ R.cells ∧ slots ≤ R.slots)
    (kk : ∀ (H : Heap) (locs : List Loc), Wd Dd A s.heap w1 H locs → W p l e R s m args below meth c H locs cells slots Q (F0 m (pc + 3) ls rest)) : W p l e R s m args below meth c H locs cells slots Q (F0 m pc ls st) := cV_ X hM cw hW q0 ci hc hq he hn hl hst hr hdg hf kk
theorem cSi_ (X : cx p s m args c cc nL Ts own Dd Y A) {y : MethodName} {words : List Cond} {rm : Room} {As : List Value} {r9 : Int32} {bytes : ByteArray} {maxL n index : Nat} {ret : Option FieldType} (hM : MG l y words rm Dd Y As [] [] (some (.int r9))) (cw : CallB R s args own index y bytes maxL ret words rm 0 0 n ∧ (Cond.static y).before args s = true) (hW : Wd Dd A s.heap ws H locs) (hn : As.length = n) (hl : ls.size = nL) (hst : st = As.reverse ++ rest) (hr : (rest.map fun v => v.category).sum ≤ 8) (hdg : decode cc pc = .ok (.invokestatic index, 3)) (hf : cells ≤ R.cells ∧ slots ≤ R.slots)
    (kk : ∀ (H : Heap) (locs : List Loc), Wd Dd A s.heap ws H locs → W p l e R s m args below meth c H locs cells slots Q (F0 m (pc + 3) ls (.int r9 :: rest))) : W p l e R s m args below meth c H locs cells slots Q (F0 m pc ls st) := cS_ X hM cw hW hn hl hst hr hdg hf kk
theorem cSl_ (X : cx p s m args c cc nL Ts own Dd Y A) {y : MethodName} {words : List Cond} {rm : Room} {As : List Value} {r9 : Int64} {bytes : ByteArray} {maxL n index : Nat} {ret : Option FieldType} (hM : MG l y words rm Dd Y As [] [] (some (.long r9))) (cw : CallB R s args own index y bytes maxL ret words rm 0 0 n ∧ (Cond.static y).before args s = true) (hW : Wd Dd A s.heap ws H locs) (hn : As.length = n) (hl : ls.size = nL) (hst : st = As.reverse ++ rest) (hr : (rest.map fun v => v.category).sum ≤ 8) (hdg : decode cc pc = .ok (.invokestatic index, 3)) (hf : cells ≤ R.cells ∧ slots ≤ R.slots)
    (kk : ∀ (H : Heap) (locs : List Loc), Wd Dd A s.heap ws H locs → W p l e R s m args below meth c H locs cells slots Q (F0 m (pc + 3) ls (.long r9 :: rest))) : W p l e R s m args below meth c H locs cells slots Q (F0 m pc ls st) := cS_ X hM cw hW hn hl hst hr hdg hf kk
theorem cSf_ (X : cx p s m args c cc nL Ts own Dd Y A) {y : MethodName} {words : List Cond} {rm : Room} {As : List Value} {r9 : UInt32} {bytes : ByteArray} {maxL n index : Nat} {ret : Option FieldType} (hM : MG l y words rm Dd Y As [] [] (some (.float r9))) (cw : CallB R s args own index y bytes maxL ret words rm 0 0 n ∧ (Cond.static y).before args s = true) (hW : Wd Dd A s.heap ws H locs) (hn : As.length = n) (hl : ls.size = nL) (hst : st = As.reverse ++ rest) (hr : (rest.map fun v => v.category).sum ≤ 8) (hdg : decode cc pc = .ok (.invokestatic index, 3)) (hf : cells ≤ R.cells ∧ slots ≤ R.slots)
    (kk : ∀ (H : Heap) (locs : List Loc), Wd Dd A s.heap ws H locs → W p l e R s m args below meth c H locs cells slots Q (F0 m (pc + 3) ls (.float r9 :: rest))) : W p l e R s m args below meth c H locs cells slots Q (F0 m pc ls st) := cS_ X hM cw hW hn hl hst hr hdg hf kk
theorem cSv_ (X : cx p s m args c cc nL Ts own Dd Y A) {y : MethodName} {words : List Cond} {rm : Room} {As : List Value}  {bytes : ByteArray} {maxL n index : Nat} {ret : Option FieldType} (hM : MG l y words rm Dd Y As [] [] none) (cw : CallB R s args own index y bytes maxL ret words rm 0 0 n ∧ (Cond.static y).before args s = true) (hW : Wd Dd A s.heap ws H locs) (hn : As.length = n) (hl : ls.size = nL) (hst : st = As.reverse ++ rest) (hr : (rest.map fun v => v.category).sum ≤ 8) (hdg : decode cc pc = .ok (.invokestatic index, 3)) (hf : cells ≤ R.cells ∧ slots ≤ R.slots)
    (kk : ∀ (H : Heap) (locs : List Loc), Wd Dd A s.heap ws H locs → W p l e R s m args below meth c H locs cells slots Q (F0 m (pc + 3) ls rest)) : W p l e R s m args below meth c H locs cells slots Q (F0 m pc ls st) := cS_ X hM cw hW hn hl hst hr hdg hf kk
theorem cSNi_ (X : cx p s m args c cc nL Ts own Dd Y A) {y : MethodName} {host : String} {words : List Cond} {rm : Room} {As : List Value} {r9 : Int32} {bytes : ByteArray} {maxL n index : Nat} {ret : Option FieldType} (hM : MG l y words rm Dd Y As [] [] (some (.int r9))) (cw : va_CN R s args own index y host bytes maxL ret words rm 0 0 n ∧ (Cond.static y).before args s = true ∧ True) (hW : Wd Dd A s.heap ws H locs) (hn : As.length = n) (hl : ls.size = nL) (hst : st = As.reverse ++ rest) (hr : (rest.map fun v => v.category).sum ≤ 8) (hdg : decode cc pc = .ok (.invokestatic index, 3)) (hf : cells ≤ R.cells ∧ slots ≤ R.slots)
    (kk : ∀ (H : Heap) (locs : List Loc), Wd Dd A s.heap ws H locs → W p l e R s m args below meth c H locs cells slots Q (F0 m (pc + 3) ls (.int r9 :: rest))) : W p l e R s m args below meth c H locs cells slots Q (F0 m pc ls st) := cSN_ X hM cw hW hn hl hst hr hdg hf kk
theorem cSNl_ (X : cx p s m args c cc nL Ts own Dd Y A) {y : MethodName} {host : String} {words : List Cond} {rm : Room} {As : List Value} {r9 : Int64} {bytes : ByteArray} {maxL n index : Nat} {ret : Option FieldType} (hM : MG l y words rm Dd Y As [] [] (some (.long r9))) (cw : va_CN R s args own index y host bytes maxL ret words rm 0 0 n ∧ (Cond.static y).before args s = true ∧ True) (hW : Wd Dd A s.heap ws H locs) (hn : As.length = n) (hl : ls.size = nL) (hst : st = As.reverse ++ rest) (hr : (rest.map fun v => v.category).sum ≤ 8) (hdg : decode cc pc = .ok (.invokestatic index, 3)) (hf : cells ≤ R.cells ∧ slots ≤ R.slots)
    (kk : ∀ (H : Heap) (locs : List Loc), Wd Dd A s.heap ws H locs → W p l e R s m args below meth c H locs cells slots Q (F0 m (pc + 3) ls (.long r9 :: rest))) : W p l e R s m args below meth c H locs cells slots Q (F0 m pc ls st) := cSN_ X hM cw hW hn hl hst hr hdg hf kk
theorem cSNf_ (X : cx p s m args c cc nL Ts own Dd Y A) {y : MethodName} {host : String} {words : List Cond} {rm : Room} {As : List Value} {r9 : UInt32} {bytes : ByteArray} {maxL n index : Nat} {ret : Option FieldType} (hM : MG l y words rm Dd Y As [] [] (some (.float r9))) (cw : va_CN R s args own index y host bytes maxL ret words rm 0 0 n ∧ (Cond.static y).before args s = true ∧ True) (hW : Wd Dd A s.heap ws H locs) (hn : As.length = n) (hl : ls.size = nL) (hst : st = As.reverse ++ rest) (hr : (rest.map fun v => v.category).sum ≤ 8) (hdg : decode cc pc = .ok (.invokestatic index, 3)) (hf : cells ≤ R.cells ∧ slots ≤ R.slots)
    (kk : ∀ (H : Heap) (locs : List Loc), Wd Dd A s.heap ws H locs → W p l e R s m args below meth c H locs cells slots Q (F0 m (pc + 3) ls (.float r9 :: rest))) : W p l e R s m args below meth c H locs cells slots Q (F0 m pc ls st) := cSN_ X hM cw hW hn hl hst hr hdg hf kk
theorem cSNv_ (X : cx p s m args c cc nL Ts own Dd Y A) {y : MethodName} {host : String} {words : List Cond} {rm : Room} {As : List Value}  {bytes : ByteArray} {maxL n index : Nat} {ret : Option FieldType} (hM : MG l y words rm Dd Y As [] [] none) (cw : va_CN R s args own index y host bytes maxL ret words rm 0 0 n ∧ (Cond.static y).before args s = true ∧ True) (hW : Wd Dd A s.heap ws H locs) (hn : As.length = n) (hl : ls.size = nL) (hst : st = As.reverse ++ rest) (hr : (rest.map fun v => v.category).sum ≤ 8) (hdg : decode cc pc = .ok (.invokestatic index, 3)) (hf : cells ≤ R.cells ∧ slots ≤ R.slots)
    (kk : ∀ (H : Heap) (locs : List Loc), Wd Dd A s.heap ws H locs → W p l e R s m args below meth c H locs cells slots Q (F0 m (pc + 3) ls rest)) : W p l e R s m args below meth c H locs cells slots Q (F0 m pc ls st) := cSN_ X hM cw hW hn hl hst hr hdg hf kk
theorem bk_P {pre wc post : va_W} : va_P Dd vwCl (pre ++ (wc ++ post)) H ↔ va_P Dd vwCl pre H ∧ va_P Dd vwCl wc H ∧ va_P Dd vwCl post H := by
  have key : ∀ w : va_W, va_P Dd vwCl w H ↔ ∀ q ∈ w, va_at Dd vwCl q H := fun w => ⟨fun h q hq => (List.getElem?_of_mem hq).elim (fun k hk => h k q hk), fun h k q hk => h q (List.mem_of_getElem? hk)⟩
  simp only [key, List.forall_mem_append]
theorem bk_D {ws : va_W} : va_D A ws ↔ (ws.map (fun q => q.1)).Nodup ∧ ∀ q ∈ ws, A q.1 := by
  constructor
  · intro h
    refine ⟨?_, fun q hq => (List.getElem?_of_mem hq).elim (fun k hk => h.2 k q hk)⟩
    rw [List.nodup_iff_pairwise_ne, List.pairwise_iff_getElem]
    intro i j hi hj hij e
    rw [List.length_map] at hi hj
    rw [List.getElem_map, List.getElem_map] at e
    exact Nat.ne_of_lt hij (h.1 i j _ _ (List.getElem?_eq_getElem hi) (List.getElem?_eq_getElem hj) e)
  · intro h
    refine ⟨fun i j p q hi hj e => ?_, fun k q hk => h.2 q (List.mem_of_getElem? hk)⟩
    obtain ⟨hi1, hi2⟩ := List.getElem?_eq_some_iff.mp hi
    obtain ⟨hj1, hj2⟩ := List.getElem?_eq_some_iff.mp hj
    have hp := h.1
    rw [List.nodup_iff_pairwise_ne, List.pairwise_iff_getElem] at hp
    rcases Nat.lt_trichotomy i j with c | c | c
    · exact absurd (by rw [List.getElem_map, List.getElem_map, hi2, hj2]; exact e) (hp i j (by rw [List.length_map]; exact hi1) (by rw [List.length_map]; exact hj1) c)
    · exact c
    · exact absurd (by rw [List.getElem_map, List.getElem_map, hi2, hj2]; exact e.symm) (hp j i (by rw [List.length_map]; exact hj1) (by rw [List.length_map]; exact hi1) c)
/-- behind a call on a part of the world -/
theorem bk_call {H1 : Heap} {pre wc post w1 : va_W} (hP : va_P Dd vwCl (pre ++ (wc ++ post)) H) (hD : va_D A (pre ++ (wc ++ post))) (hk : ∀ q : Nat, q < H.size → ¬ va_A wc H.size q → H1[q]? = H[q]?) (hF : ∀ q, va_A wc H.size q → A q) (hP1 : va_P Dd vwCl w1 H1) (hD1 : va_D (va_A wc H.size) w1) : va_P Dd vwCl (pre ++ (w1 ++ post)) H1 ∧ va_D A (pre ++ (w1 ++ post)) := by
  obtain ⟨p1, p2, p3⟩ := bk_P.mp hP
  obtain ⟨d1, d2⟩ := bk_D.mp hD
  obtain ⟨e1, e2⟩ := bk_D.mp hD1
  rw [List.map_append, List.map_append] at d1
  obtain ⟨n1, n2, n3⟩ := List.nodup_append.mp d1
  obtain ⟨m1, m2, m3⟩ := List.nodup_append.mp n2
  have out : ∀ q : Nat, q < H.size → q ∉ wc.map (fun q => q.1) → ¬ va_A wc H.size q := fun q hq hn h => by
    rcases h with ⟨k, e, h⟩ | h
    · exact hn (List.mem_map.mpr ⟨_, List.mem_of_getElem? h, rfl⟩)
    · omega
  have lt : ∀ w : va_W, va_P Dd vwCl w H → ∀ a ∈ w.map (fun q => q.1), a < H.size := fun w hw a ha => by
    obtain ⟨q, hq, rfl⟩ := List.mem_map.mp ha
    obtain ⟨k, hk⟩ := List.getElem?_of_mem hq
    exact (hw k q hk).lt
  have o1 : ∀ a ∈ pre.map (fun q => q.1), ¬ va_A wc H.size a := fun a ha => out a (lt pre p1 a ha) (fun h => n3 a ha a (List.mem_append_left _ h) rfl)
  have o3 : ∀ a ∈ post.map (fun q => q.1), ¬ va_A wc H.size a := fun a ha => out a (lt post p3 a ha) (fun h => m3 a h a ha rfl)
  have i1 : ∀ a ∈ w1.map (fun q => q.1), va_A wc H.size a := fun a ha => by
    obtain ⟨q, hq, rfl⟩ := List.mem_map.mp ha
    exact e2 q hq
  refine ⟨bk_P.mpr ⟨p1.kept (fun k q h => hk q.1 (p1 k q h).lt (o1 q.1 (List.mem_map.mpr ⟨q, List.mem_of_getElem? h, rfl⟩))), hP1, p3.kept (fun k q h => hk q.1 (p3 k q h).lt (o3 q.1 (List.mem_map.mpr ⟨q, List.mem_of_getElem? h, rfl⟩)))⟩, bk_D.mpr ⟨?_, fun q hq => ?_⟩⟩
  · rw [List.map_append, List.map_append]
    refine List.nodup_append.mpr ⟨n1, List.nodup_append.mpr ⟨e1, m2, fun a ha b hb e => o3 b hb (e ▸ i1 a ha)⟩, fun a ha b hb e => ?_⟩
    rcases List.mem_append.mp hb with h | h
    · exact o1 a ha (e ▸ i1 b h)
    · exact n3 a ha b (List.mem_append_right _ h) e
  · rcases List.mem_append.mp hq with h | h
    · exact d2 q (List.mem_append_left _ h)
    · rcases List.mem_append.mp h with h | h
      · exact hF _ (e2 q h)
      · exact d2 q (List.mem_append_right _ (List.mem_append_right _ h))
/-- a virtual call over a part of the world -/
theorem cVp_ (X : cx p s m args c cc nL Ts own Dd Y A) {y : MethodName} {words : List Cond} {rm : Room} {As : List Value} {pre wc post w1 ws' : va_W} {rv : Option Value} {bytes : ByteArray} {maxL n index b : Nat} {ret : Option FieldType} {C : String} (hM : MG l y words rm Dd Y (.ref b :: As) wc w1 rv) (cw : CallW R s args own C index y bytes maxL ret words rm 0 0 n) (hW : Wd Dd A s.heap ws H locs) (hsp : ws = pre ++ (wc ++ post)) (hsq : pre ++ (w1 ++ post) = ws') (q0 ci : Nat) {q : vw_C} {fs : List Value} (hc : vwCl[ci]? = some q) (hq : q.1 = C) (he : wc[q0]? = some (b, .inr (ci, fs))) (hn : As.length = n) (hl : ls.size = nL) (hst : st = As.reverse ++ .ref b :: rest) (hr : (rest.map fun v => v.category).sum ≤ 8) (hdg : decode cc pc = .ok (.invokevirtual index, 3)) (hf : cells ≤ R.cells ∧ slots ≤ R.slots)
    (kk : ∀ (H : Heap) (locs : List Loc), Wd Dd A s.heap ws' H locs → W p l e R s m args below meth c H locs cells slots Q (F0 m (pc + 3) ls (rv.toList ++ rest))) : W p l e R s m args below meth c H locs cells slots Q (F0 m pc ls st) := by
  subst hq
  subst hsp
  subst hsq
  obtain ⟨hP, hD, hS⟩ := hW
  have hPc := (bk_P.mp hP).2.1
  have hDc : va_D A wc := by
    obtain ⟨d1, d2⟩ := bk_D.mp hD
    rw [List.map_append, List.map_append] at d1
    exact bk_D.mpr ⟨(List.nodup_append.mp (List.nodup_append.mp d1).2.1).1, fun q hq => d2 q (List.mem_append_right _ (List.mem_append_left _ hq))⟩
  have hF := wd_free X.2.2.1 ⟨hPc, hDc, hS⟩
  refine run_g (mc := 0) (ms := 0) (va_runV (As := As) (rest := rest) X.1 (hM H.size) cw ⟨sPre.blind _ _ _ _ _, va_recv X.2.1 hPc hc he, fun U hU hWm => ⟨rfl, by rw [hU], by rw [hU]; exact hPc, va_K.moved hWm.alike X.2.1, hDc.weaken (fun _ _ _ _ => trivial), X.2.2.2.1.warm hWm, cx.z X hS hF hU hWm⟩⟩ rfl hn hl hst (lv_room hr) hdg hf) hS hF hF (fun H1 locs1 h1 h2 h4 _ h3 => ?_)
  obtain ⟨g1, g2⟩ := bk_call hP hD h4 hF h1 h2
  exact kk H1 locs1 ⟨g1, g2, h3⟩
theorem cVpi_ (X : cx p s m args c cc nL Ts own Dd Y A) {y : MethodName} {words : List Cond} {rm : Room} {As : List Value} {pre wc post w1 ws' : va_W} {r9 : Int32} {bytes : ByteArray} {maxL n index b : Nat} {ret : Option FieldType} {C : String} (hM : MG l y words rm Dd Y (.ref b :: As) wc w1 (some (.int r9))) (cw : CallW R s args own C index y bytes maxL ret words rm 0 0 n) (hW : Wd Dd A s.heap ws H locs) (hsp : ws = pre ++ (wc ++ post)) (hsq : pre ++ (w1 ++ post) = ws') (q0 ci : Nat) {q : vw_C} {fs : List Value} (hc : vwCl[ci]? = some q) (hq : q.1 = C) (he : wc[q0]? = some (b, .inr (ci, fs))) (hn : As.length = n) (hl : ls.size = nL) (hst : st = As.reverse ++ .ref b :: rest) (hr : (rest.map fun v => v.category).sum ≤ 8) (hdg : decode cc pc = .ok (.invokevirtual index, 3)) (hf : cells ≤ R.cells ∧ slots ≤ R.slots)
    (kk : ∀ (H : Heap) (locs : List Loc), Wd Dd A s.heap ws' H locs → W p l e R s m args below meth c H locs cells slots Q (F0 m (pc + 3) ls (.int r9 :: rest))) : W p l e R s m args below meth c H locs cells slots Q (F0 m pc ls st) := cVp_ X hM cw hW hsp hsq q0 ci hc hq he hn hl hst hr hdg hf kk
theorem cVpl_ (X : cx p s m args c cc nL Ts own Dd Y A) {y : MethodName} {words : List Cond} {rm : Room} {As : List Value} {pre wc post w1 ws' : va_W} {r9 : Int64} {bytes : ByteArray} {maxL n index b : Nat} {ret : Option FieldType} {C : String} (hM : MG l y words rm Dd Y (.ref b :: As) wc w1 (some (.long r9))) (cw : CallW R s args own C index y bytes maxL ret words rm 0 0 n) (hW : Wd Dd A s.heap ws H locs) (hsp : ws = pre ++ (wc ++ post)) (hsq : pre ++ (w1 ++ post) = ws') (q0 ci : Nat) {q : vw_C} {fs : List Value} (hc : vwCl[ci]? = some q) (hq : q.1 = C) (he : wc[q0]? = some (b, .inr (ci, fs))) (hn : As.length = n) (hl : ls.size = nL) (hst : st = As.reverse ++ .ref b :: rest) (hr : (rest.map fun v => v.category).sum ≤ 8) (hdg : decode cc pc = .ok (.invokevirtual index, 3)) (hf : cells ≤ R.cells ∧ slots ≤ R.slots)
    (kk : ∀ (H : Heap) (locs : List Loc), Wd Dd A s.heap ws' H locs → W p l e R s m args below meth c H locs cells slots Q (F0 m (pc + 3) ls (.long r9 :: rest))) : W p l e R s m args below meth c H locs cells slots Q (F0 m pc ls st) := cVp_ X hM cw hW hsp hsq q0 ci hc hq he hn hl hst hr hdg hf kk
theorem cVpv_ (X : cx p s m args c cc nL Ts own Dd Y A) {y : MethodName} {words : List Cond} {rm : Room} {As : List Value} {pre wc post w1 ws' : va_W}  {bytes : ByteArray} {maxL n index b : Nat} {ret : Option FieldType} {C : String} (hM : MG l y words rm Dd Y (.ref b :: As) wc w1 none) (cw : CallW R s args own C index y bytes maxL ret words rm 0 0 n) (hW : Wd Dd A s.heap ws H locs) (hsp : ws = pre ++ (wc ++ post)) (hsq : pre ++ (w1 ++ post) = ws') (q0 ci : Nat) {q : vw_C} {fs : List Value} (hc : vwCl[ci]? = some q) (hq : q.1 = C) (he : wc[q0]? = some (b, .inr (ci, fs))) (hn : As.length = n) (hl : ls.size = nL) (hst : st = As.reverse ++ .ref b :: rest) (hr : (rest.map fun v => v.category).sum ≤ 8) (hdg : decode cc pc = .ok (.invokevirtual index, 3)) (hf : cells ≤ R.cells ∧ slots ≤ R.slots)
    (kk : ∀ (H : Heap) (locs : List Loc), Wd Dd A s.heap ws' H locs → W p l e R s m args below meth c H locs cells slots Q (F0 m (pc + 3) ls rest)) : W p l e R s m args below meth c H locs cells slots Q (F0 m pc ls st) := cVp_ X hM cw hW hsp hsq q0 ci hc hq he hn hl hst hr hdg hf kk
end BASE
/-! a row of the class: bank 0 the row's int fields, 1 values, 2 cells, 3 the stretches' int fields, 4 froms, 5 tos; and what waits -/
abbrev gR : Type := gF × Int64
def wR (G : gR) (a k : Nat) (v : Int32) : gR := (wr G.1 a k v, G.2)
def wL (G : gR) (v : Int64) : gR := (G.1, v)
def WR (Y : yT) (ad : Nat → Nat) (G : gR) : va_W := [(ad 0, .inr (1, [.ref (ad 1), .ref (ad 2), .ref (ad 3), .int (G.1 0 3), .int (G.1 0 4), .int (G.1 0 5), .long G.2, .int (G.1 0 7), .int (G.1 0 8), .int (G.1 0 9), .int (G.1 0 10)])), (ad 1, .inl (Y.1, 40, .inl (G.1 1))), (ad 2, .inl (Y.1, 240, .inl (G.1 2))), (ad 3, .inr (3, [.ref (ad 4), .ref (ad 5), .int (G.1 3 2)])), (ad 4, .inl (Y.1, 8, .inl (G.1 4))), (ad 5, .inl (Y.1, 8, .inl (G.1 5)))]
/-! the reader of setup texts: bank 0 its int fields, 1 the text; its draft -/
abbrev gD : Type := gF × gR
def WD (Y : yT) (ad ar : Nat → Nat) (D : gD) : va_W := [(ad 0, .inr (2, [.ref (ad 1), .int (D.1 0 1), .ref (ar 0), .int (D.1 0 3), .int (D.1 0 4), .int (D.1 0 5), .int (D.1 0 6), .int (D.1 0 7), .int (D.1 0 8), .int (D.1 0 9), .int (D.1 0 10)])), (ad 1, .inl (Y.1, 500, .inl (D.1 1)))] ++ WR Y ar D.2
