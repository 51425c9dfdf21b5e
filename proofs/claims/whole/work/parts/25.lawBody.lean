/-! the law's body: what one call of the script does to both sides, and the walk of it -/
theorem sPreL.blind (Dd : va_G) (Y : yT) (cL : ClassId) (sz : Nat) (ws : va_W) (av : List Value) : FrameBlind (va_Pc av (sPreL Dd Y cL sz ws)) := fun a U g mk q => by
  obtain ⟨q0, q1, qK⟩ := q
  exact ⟨q0, (sPre.blind Dd Y sz ws av a U g mk ⟨q0, q1⟩).2, va_K.moved (u := U) (U := U.calling g mk a) (Vm.Alike.refl U.vm) qK⟩
def WL (Y : yT) (ad : Nat → Nat → Nat) (am : Nat → Nat) (q : Nat) (cL : ClassId) (V : gX) (fo : Nat → Int64) (F : gF) : va_W := WQ Y ad q cL V fo ++ WM Y am F
theorem wl_x (Y : yT) (ad : Nat → Nat → Nat) (am : Nat → Nat) (q : Nat) (cL : ClassId) (V : gX) (fo : Nat → Int64) (F : gF) : (WL Y ad am q cL V fo F).Perm (WX Y ad V ++ ([(q, .inl (cL, 1, .inr (.inl fo)))] ++ WM Y am F)) := by
  rw [WL, WQ, List.append_assoc]
theorem wl_m (Y : yT) (ad : Nat → Nat → Nat) (am : Nat → Nat) (q : Nat) (cL : ClassId) (V : gX) (fo : Nat → Int64) (F : gF) : (WL Y ad am q cL V fo F).Perm (WM Y am F ++ WQ Y ad q cL V fo) := List.perm_append_comm
abbrev LV (b q am0 ad0 : Nat) (i : Nat) : List (Nat × Value) := [(4, .int (nI i)), (3, .ref q), (2, .ref am0), (1, .ref ad0), (0, .ref b)]
theorem lg_cmp_self (x : Int64) : lg_cmp x x = 0 := by
  unfold lg_cmp
  rw [if_neg (by simp), if_pos rfl]
def LR (n : Nat) (x1 x2 x3 x4 x5 : Int32) (V : gX) (F : gF) (fo : Nat → Int64) (V' : gX) (F' : gF) (fo' : Nat → Int64) : Prop := match n with
  | 0 => ∃ r : Int32, dnX4_append V x1 x2 x3 x4 x5 = some (r, V') ∧ dnX5_append F x1 x2 x3 x4 x5 = some (r, F') ∧ fo = fo'
  | 1 => ∃ (o : oX (Int32 × gX)) (b : Int32), dnX4_load V x1 = some o ∧ (∀ E, o = .inl E → E ∈ (["java/lang/IllegalArgumentException"] : List String)) ∧ dnX5_load F x1 = some (b, F') ∧ F' 0 0 = (lwS ["java/lang/IllegalArgumentException"] V fo o).1 ∧ ((lwS ["java/lang/IllegalArgumentException"] V fo o).1 = 0 → (lwS ["java/lang/IllegalArgumentException"] V fo o).2.2 0 = b.toInt64) ∧ V' = (lwS ["java/lang/IllegalArgumentException"] V fo o).2.1 ∧ fo' = (lwS ["java/lang/IllegalArgumentException"] V fo o).2.2
  | 2 => ∃ r : Int32, dnX4_errorOffset V  = some r ∧ dnX5_errorOffset F  = some (r, F') ∧ fo = fo' ∧ V = V'
  | 3 => ∃ (o : oX Int32) (b : Int32), dnX4_state V x1 = some o ∧ (∀ E, o = .inl E → E ∈ (["java/lang/IllegalArgumentException"] : List String)) ∧ dnX5_state F x1 = some (b, F') ∧ F' 0 0 = (lwI ["java/lang/IllegalArgumentException"] V fo o).1 ∧ ((lwI ["java/lang/IllegalArgumentException"] V fo o).1 = 0 → (lwI ["java/lang/IllegalArgumentException"] V fo o).2.2 0 = b.toInt64) ∧ V' = (lwI ["java/lang/IllegalArgumentException"] V fo o).2.1 ∧ fo' = (lwI ["java/lang/IllegalArgumentException"] V fo o).2.2
  | 4 => ∃ (o : oX Int32) (b : Int32), dnX4_value V x1 = some o ∧ (∀ E, o = .inl E → E ∈ (["java/lang/IndexOutOfBoundsException"] : List String)) ∧ dnX5_value F x1 = some (b, F') ∧ F' 0 0 = (lwI ["java/lang/IndexOutOfBoundsException"] V fo o).1 ∧ ((lwI ["java/lang/IndexOutOfBoundsException"] V fo o).1 = 0 → (lwI ["java/lang/IndexOutOfBoundsException"] V fo o).2.2 0 = b.toInt64) ∧ V' = (lwI ["java/lang/IndexOutOfBoundsException"] V fo o).2.1 ∧ fo' = (lwI ["java/lang/IndexOutOfBoundsException"] V fo o).2.2
  | 5 => ∃ (o : oX Int32) (b : Int32), dnX4_cell V x1 x2 = some o ∧ (∀ E, o = .inl E → E ∈ (["java/lang/IndexOutOfBoundsException", "java/util/NoSuchElementException"] : List String)) ∧ dnX5_cell F x1 x2 = some (b, F') ∧ F' 0 0 = (lwI ["java/lang/IndexOutOfBoundsException", "java/util/NoSuchElementException"] V fo o).1 ∧ ((lwI ["java/lang/IndexOutOfBoundsException", "java/util/NoSuchElementException"] V fo o).1 = 0 → (lwI ["java/lang/IndexOutOfBoundsException", "java/util/NoSuchElementException"] V fo o).2.2 0 = b.toInt64) ∧ V' = (lwI ["java/lang/IndexOutOfBoundsException", "java/util/NoSuchElementException"] V fo o).2.1 ∧ fo' = (lwI ["java/lang/IndexOutOfBoundsException", "java/util/NoSuchElementException"] V fo o).2.2
  | 6 => ∃ (o : oX Int32) (b : Int32), dnX4_waits V x1 = some o ∧ (∀ E, o = .inl E → E ∈ (["java/lang/IndexOutOfBoundsException"] : List String)) ∧ dnX5_waits F x1 = some (b, F') ∧ F' 0 0 = (lwW ["java/lang/IndexOutOfBoundsException"] V fo o).1 ∧ ((lwW ["java/lang/IndexOutOfBoundsException"] V fo o).1 = 0 → (lwW ["java/lang/IndexOutOfBoundsException"] V fo o).2.2 0 = (if b = 0 then 0 else 1)) ∧ V' = (lwW ["java/lang/IndexOutOfBoundsException"] V fo o).2.1 ∧ fo' = (lwW ["java/lang/IndexOutOfBoundsException"] V fo o).2.2
  | 7 => ∃ (o : oX Int32) (b : Int32), dnX4_least V x1 x2 = some o ∧ (∀ E, o = .inl E → E ∈ (["java/lang/IndexOutOfBoundsException", "java/lang/IllegalArgumentException"] : List String)) ∧ dnX5_least F x1 x2 = some (b, F') ∧ F' 0 0 = (lwI ["java/lang/IndexOutOfBoundsException", "java/lang/IllegalArgumentException"] V fo o).1 ∧ ((lwI ["java/lang/IndexOutOfBoundsException", "java/lang/IllegalArgumentException"] V fo o).1 = 0 → (lwI ["java/lang/IndexOutOfBoundsException", "java/lang/IllegalArgumentException"] V fo o).2.2 0 = b.toInt64) ∧ V' = (lwI ["java/lang/IndexOutOfBoundsException", "java/lang/IllegalArgumentException"] V fo o).2.1 ∧ fo' = (lwI ["java/lang/IndexOutOfBoundsException", "java/lang/IllegalArgumentException"] V fo o).2.2
  | 8 => ∃ (o : oX Int32) (b : Int32), dnX4_looks V x1 x2 = some o ∧ (∀ E, o = .inl E → E ∈ (["java/lang/IndexOutOfBoundsException", "java/lang/IllegalArgumentException"] : List String)) ∧ dnX5_looks F x1 x2 = some (b, F') ∧ F' 0 0 = (lwI ["java/lang/IndexOutOfBoundsException", "java/lang/IllegalArgumentException"] V fo o).1 ∧ ((lwI ["java/lang/IndexOutOfBoundsException", "java/lang/IllegalArgumentException"] V fo o).1 = 0 → (lwI ["java/lang/IndexOutOfBoundsException", "java/lang/IllegalArgumentException"] V fo o).2.2 0 = b.toInt64) ∧ V' = (lwI ["java/lang/IndexOutOfBoundsException", "java/lang/IllegalArgumentException"] V fo o).2.1 ∧ fo' = (lwI ["java/lang/IndexOutOfBoundsException", "java/lang/IllegalArgumentException"] V fo o).2.2
  | 9 => ∃ r : Int32, dnX4_writes V  = some r ∧ dnX5_writes F  = some (r, F') ∧ fo = fo' ∧ V = V'
  | 10 => ∃ (o : oX Int32) (b : Int32), dnX4_above V x1 = some o ∧ (∀ E, o = .inl E → E ∈ (["java/lang/IndexOutOfBoundsException"] : List String)) ∧ dnX5_above F x1 = some (b, F') ∧ F' 0 0 = (lwI ["java/lang/IndexOutOfBoundsException"] V fo o).1 ∧ ((lwI ["java/lang/IndexOutOfBoundsException"] V fo o).1 = 0 → (lwI ["java/lang/IndexOutOfBoundsException"] V fo o).2.2 0 = b.toInt64) ∧ V' = (lwI ["java/lang/IndexOutOfBoundsException"] V fo o).2.1 ∧ fo' = (lwI ["java/lang/IndexOutOfBoundsException"] V fo o).2.2
  | 11 => ∃ (o : oX Int32) (b : Int32), dnX4_lessBehind V x1 = some o ∧ (∀ E, o = .inl E → E ∈ (["java/lang/IndexOutOfBoundsException"] : List String)) ∧ dnX5_lessBehind F x1 = some (b, F') ∧ F' 0 0 = (lwI ["java/lang/IndexOutOfBoundsException"] V fo o).1 ∧ ((lwI ["java/lang/IndexOutOfBoundsException"] V fo o).1 = 0 → (lwI ["java/lang/IndexOutOfBoundsException"] V fo o).2.2 0 = b.toInt64) ∧ V' = (lwI ["java/lang/IndexOutOfBoundsException"] V fo o).2.1 ∧ fo' = (lwI ["java/lang/IndexOutOfBoundsException"] V fo o).2.2
  | 12 => ∃ (o : oX Int32) (b : Int32), dnX4_rules V x1 = some o ∧ (∀ E, o = .inl E → E ∈ (["java/lang/IndexOutOfBoundsException"] : List String)) ∧ dnX5_rules F x1 = some (b, F') ∧ F' 0 0 = (lwI ["java/lang/IndexOutOfBoundsException"] V fo o).1 ∧ ((lwI ["java/lang/IndexOutOfBoundsException"] V fo o).1 = 0 → (lwI ["java/lang/IndexOutOfBoundsException"] V fo o).2.2 0 = b.toInt64) ∧ V' = (lwI ["java/lang/IndexOutOfBoundsException"] V fo o).2.1 ∧ fo' = (lwI ["java/lang/IndexOutOfBoundsException"] V fo o).2.2
  | 13 => ∃ (o : oX Int32) (b : Int32), dnX4_sum V x1 x2 = some o ∧ (∀ E, o = .inl E → E ∈ (["java/lang/IndexOutOfBoundsException", "java/lang/IllegalArgumentException"] : List String)) ∧ dnX5_sum F x1 x2 = some (b, F') ∧ F' 0 0 = (lwI ["java/lang/IndexOutOfBoundsException", "java/lang/IllegalArgumentException"] V fo o).1 ∧ ((lwI ["java/lang/IndexOutOfBoundsException", "java/lang/IllegalArgumentException"] V fo o).1 = 0 → (lwI ["java/lang/IndexOutOfBoundsException", "java/lang/IllegalArgumentException"] V fo o).2.2 0 = b.toInt64) ∧ V' = (lwI ["java/lang/IndexOutOfBoundsException", "java/lang/IllegalArgumentException"] V fo o).2.1 ∧ fo' = (lwI ["java/lang/IndexOutOfBoundsException", "java/lang/IllegalArgumentException"] V fo o).2.2
  | 14 => ∃ (o : oX Int32) (b : Int32), dnX4_kept V x1 = some o ∧ (∀ E, o = .inl E → E ∈ (["java/util/NoSuchElementException"] : List String)) ∧ dnX5_kept F x1 = some (b, F') ∧ F' 0 0 = (lwI ["java/util/NoSuchElementException"] V fo o).1 ∧ ((lwI ["java/util/NoSuchElementException"] V fo o).1 = 0 → (lwI ["java/util/NoSuchElementException"] V fo o).2.2 0 = b.toInt64) ∧ V' = (lwI ["java/util/NoSuchElementException"] V fo o).2.1 ∧ fo' = (lwI ["java/util/NoSuchElementException"] V fo o).2.2
  | 15 => ∃ r : Int32, dnX4_looksOfKept V  = some r ∧ dnX5_looksOfKept F  = some (r, F') ∧ fo = fo' ∧ V = V'
  | 16 => ∃ (o : oX Int32) (b : Int32), dnX4_bestRule V x1 = some o ∧ (∀ E, o = .inl E → E ∈ (["java/lang/IndexOutOfBoundsException"] : List String)) ∧ dnX5_bestRule F x1 = some (b, F') ∧ F' 0 0 = (lwI ["java/lang/IndexOutOfBoundsException"] V fo o).1 ∧ ((lwI ["java/lang/IndexOutOfBoundsException"] V fo o).1 = 0 → (lwI ["java/lang/IndexOutOfBoundsException"] V fo o).2.2 0 = b.toInt64) ∧ V' = (lwI ["java/lang/IndexOutOfBoundsException"] V fo o).2.1 ∧ fo' = (lwI ["java/lang/IndexOutOfBoundsException"] V fo o).2.2
  | 17 => ∃ (o : oX Int32) (b : Int32), dnX4_ranked V x1 = some o ∧ (∀ E, o = .inl E → E ∈ (["java/util/NoSuchElementException"] : List String)) ∧ dnX5_ranked F x1 = some (b, F') ∧ F' 0 0 = (lwI ["java/util/NoSuchElementException"] V fo o).1 ∧ ((lwI ["java/util/NoSuchElementException"] V fo o).1 = 0 → (lwI ["java/util/NoSuchElementException"] V fo o).2.2 0 = b.toInt64) ∧ V' = (lwI ["java/util/NoSuchElementException"] V fo o).2.1 ∧ fo' = (lwI ["java/util/NoSuchElementException"] V fo o).2.2
  | 18 => ∃ r : Int32, dnX4_gap V  = some r ∧ dnX5_gap F  = some (r, F') ∧ fo = fo' ∧ V = V'
  | 19 => ∃ r : UInt32, dnX4_costOfOne V  = some r ∧ dnX5_costOfOne F  = some (r, F') ∧ fo = fo' ∧ V = V' ∧ vf_n64 (FP.f2d r) ∧ Op.cmpValue (FP.dcmp (FP.f2d r) (FP.f2d r)) .l = 0
  | 20 => ∃ (o : oX (Int32 × gX)) (b : Int32), dnX4_set V x1 x2 = some o ∧ (∀ E, o = .inl E → E ∈ (["java/lang/IndexOutOfBoundsException", "java/lang/IllegalArgumentException"] : List String)) ∧ dnX5_set F x1 x2 = some (b, F') ∧ F' 0 0 = (lwS ["java/lang/IndexOutOfBoundsException", "java/lang/IllegalArgumentException"] V fo o).1 ∧ ((lwS ["java/lang/IndexOutOfBoundsException", "java/lang/IllegalArgumentException"] V fo o).1 = 0 → (lwS ["java/lang/IndexOutOfBoundsException", "java/lang/IllegalArgumentException"] V fo o).2.2 0 = b.toInt64) ∧ V' = (lwS ["java/lang/IndexOutOfBoundsException", "java/lang/IllegalArgumentException"] V fo o).2.1 ∧ fo' = (lwS ["java/lang/IndexOutOfBoundsException", "java/lang/IllegalArgumentException"] V fo o).2.2
  | 21 => ∃ (o : oX (Int32 × gX)) (b : Int32), dnX4_ask V x1 x2 = some o ∧ (∀ E, o = .inl E → E ∈ (["java/lang/IndexOutOfBoundsException", "java/lang/IllegalArgumentException"] : List String)) ∧ dnX5_ask F x1 x2 = some (b, F') ∧ F' 0 0 = (lwS ["java/lang/IndexOutOfBoundsException", "java/lang/IllegalArgumentException"] V fo o).1 ∧ ((lwS ["java/lang/IndexOutOfBoundsException", "java/lang/IllegalArgumentException"] V fo o).1 = 0 → (lwS ["java/lang/IndexOutOfBoundsException", "java/lang/IllegalArgumentException"] V fo o).2.2 0 = b.toInt64) ∧ V' = (lwS ["java/lang/IndexOutOfBoundsException", "java/lang/IllegalArgumentException"] V fo o).2.1 ∧ fo' = (lwS ["java/lang/IndexOutOfBoundsException", "java/lang/IllegalArgumentException"] V fo o).2.2
  | 22 => ∃ (o : oX (Int32 × gX)) (b : Int32), dnX4_keep V x1 x2 = some o ∧ (∀ E, o = .inl E → E ∈ (["java/lang/IndexOutOfBoundsException", "java/lang/IllegalArgumentException", "java/lang/IllegalStateException"] : List String)) ∧ dnX5_keep F x1 x2 = some (b, F') ∧ F' 0 0 = (lwS ["java/lang/IndexOutOfBoundsException", "java/lang/IllegalArgumentException", "java/lang/IllegalStateException"] V fo o).1 ∧ ((lwS ["java/lang/IndexOutOfBoundsException", "java/lang/IllegalArgumentException", "java/lang/IllegalStateException"] V fo o).1 = 0 → (lwS ["java/lang/IndexOutOfBoundsException", "java/lang/IllegalArgumentException", "java/lang/IllegalStateException"] V fo o).2.2 0 = b.toInt64) ∧ V' = (lwS ["java/lang/IndexOutOfBoundsException", "java/lang/IllegalArgumentException", "java/lang/IllegalStateException"] V fo o).2.1 ∧ fo' = (lwS ["java/lang/IndexOutOfBoundsException", "java/lang/IllegalArgumentException", "java/lang/IllegalStateException"] V fo o).2.2
  | 23 => ∃ (o : oX (Int32 × gX)) (b : Int32), dnX4_forget V x1 = some o ∧ (∀ E, o = .inl E → E ∈ (["java/util/NoSuchElementException"] : List String)) ∧ dnX5_forget F x1 = some (b, F') ∧ F' 0 0 = (lwS ["java/util/NoSuchElementException"] V fo o).1 ∧ ((lwS ["java/util/NoSuchElementException"] V fo o).1 = 0 → (lwS ["java/util/NoSuchElementException"] V fo o).2.2 0 = b.toInt64) ∧ V' = (lwS ["java/util/NoSuchElementException"] V fo o).2.1 ∧ fo' = (lwS ["java/util/NoSuchElementException"] V fo o).2.2
  | 24 => ∃ (o : oX (Int32 × gX)) (b : Int32), dnX4_sweep V x1 = some o ∧ (∀ E, o = .inl E → E ∈ (["java/lang/IllegalArgumentException"] : List String)) ∧ dnX5_sweep F x1 = some (b, F') ∧ F' 0 0 = (lwS ["java/lang/IllegalArgumentException"] V fo o).1 ∧ ((lwS ["java/lang/IllegalArgumentException"] V fo o).1 = 0 → (lwS ["java/lang/IllegalArgumentException"] V fo o).2.2 0 = b.toInt64) ∧ V' = (lwS ["java/lang/IllegalArgumentException"] V fo o).2.1 ∧ fo' = (lwS ["java/lang/IllegalArgumentException"] V fo o).2.2
  | 25 => ∃ (o : oX (Int32 × gX)) (b : Int32), dnX4_put V x1 x2 = some o ∧ (∀ E, o = .inl E → E ∈ (["java/lang/IndexOutOfBoundsException", "java/lang/IllegalArgumentException", "java/lang/IllegalStateException"] : List String)) ∧ dnX5_put F x1 x2 = some (b, F') ∧ F' 0 0 = (lwS ["java/lang/IndexOutOfBoundsException", "java/lang/IllegalArgumentException", "java/lang/IllegalStateException"] V fo o).1 ∧ ((lwS ["java/lang/IndexOutOfBoundsException", "java/lang/IllegalArgumentException", "java/lang/IllegalStateException"] V fo o).1 = 0 → (lwS ["java/lang/IndexOutOfBoundsException", "java/lang/IllegalArgumentException", "java/lang/IllegalStateException"] V fo o).2.2 0 = b.toInt64) ∧ V' = (lwS ["java/lang/IndexOutOfBoundsException", "java/lang/IllegalArgumentException", "java/lang/IllegalStateException"] V fo o).2.1 ∧ fo' = (lwS ["java/lang/IndexOutOfBoundsException", "java/lang/IllegalArgumentException", "java/lang/IllegalStateException"] V fo o).2.2
  | 26 => ∃ (o : oX (Int32 × gX)) (b : Int32), dnX4_take V x1 = some o ∧ (∀ E, o = .inl E → E ∈ (["java/lang/IndexOutOfBoundsException", "java/lang/IllegalStateException"] : List String)) ∧ dnX5_take F x1 = some (b, F') ∧ F' 0 0 = (lwS ["java/lang/IndexOutOfBoundsException", "java/lang/IllegalStateException"] V fo o).1 ∧ ((lwS ["java/lang/IndexOutOfBoundsException", "java/lang/IllegalStateException"] V fo o).1 = 0 → (lwS ["java/lang/IndexOutOfBoundsException", "java/lang/IllegalStateException"] V fo o).2.2 0 = b.toInt64) ∧ V' = (lwS ["java/lang/IndexOutOfBoundsException", "java/lang/IllegalStateException"] V fo o).2.1 ∧ fo' = (lwS ["java/lang/IndexOutOfBoundsException", "java/lang/IllegalStateException"] V fo o).2.2
  | 27 => ∃ (o : oX (Int32 × gX)) (b : Int32), dnX4_rule V x1 x2 = some o ∧ (∀ E, o = .inl E → E ∈ (["java/lang/IllegalArgumentException"] : List String)) ∧ dnX5_rule F x1 x2 = some (b, F') ∧ F' 0 0 = (lwS ["java/lang/IllegalArgumentException"] V fo o).1 ∧ ((lwS ["java/lang/IllegalArgumentException"] V fo o).1 = 0 → (lwS ["java/lang/IllegalArgumentException"] V fo o).2.2 0 = b.toInt64) ∧ V' = (lwS ["java/lang/IllegalArgumentException"] V fo o).2.1 ∧ fo' = (lwS ["java/lang/IllegalArgumentException"] V fo o).2.2
  | 28 => ∃ r : Int32, dnX4_undo V  = some (r, V') ∧ dnX5_undo F  = some (r, F') ∧ fo = fo'
  | 29 => ∃ r : Int64, dnX4_checksum V  = some r ∧ dnX5_checksum F  = some (r, F') ∧ fo = fo' ∧ V = V'
  | _ => V = V' ∧ F = F' ∧ fo = fo'
section LAWB
variable {p : Program} {l : Launch} {e : Env} {R : Room} {s : State} {m : MethodId} {args : Array Value} {below : List Frame} {meth : Method} {c : Code} {H : Heap} {locs : List Loc} {cells slots : Nat} {Q : State → Prop}
variable {cc : ByteArray} {nL pc : Nat} {Ts : List Cond} {own : String} {Dd : va_G} {Y : yT} {A : Nat → Prop} {ls : Array Slot} {rest st : List Value} {ws : va_W} {a : Nat}
/-- a call of one of the law's own methods -/
theorem cL_ (X : cx p s m args c cc nL Ts own Dd Y A) {cL : ClassId} (hKL : va_K Dd vwCl [(cL, .long)] s) {y : MethodName} {words : List Cond} {rm : Room} {As : List Value} {wc w1 post : va_W} {r : Int32} {bytes : ByteArray} {maxL n index mc ms : Nat} {ret : Option FieldType} {hh : List (Nat × Nat × Nat × Nat)} (hM : ML l y words rm Dd Y cL As wc w1 r mc ms) (cw : vx_CSW R s args own index y bytes maxL ret hh words rm mc ms n) (hW : Wd Dd A s.heap (wc ++ post) H locs) (hn : As.length = n) (hl : ls.size = nL) (hst : st = As.reverse ++ rest) (hr : (rest.map fun v => v.category).sum ≤ 8) (hdg : decode cc pc = .ok (.invokestatic index, 3)) (hf : cells + mc ≤ R.cells ∧ slots + ms ≤ R.slots)
    (kk : ∀ (H : Heap) (locs : List Loc), Wd Dd A s.heap (w1 ++ post) H locs → W p l e R s m args below meth c H locs (cells + mc) (slots + ms) Q (F0 m (pc + 3) ls (.int r :: rest))) : W p l e R s m args below meth c H locs cells slots Q (F0 m pc ls st) := by
  have hW2 : Wd Dd A s.heap ([] ++ (wc ++ post)) H locs := hW
  obtain ⟨hP, hD, hS⟩ := hW2
  have hPc := (bk_P.mp hP).2.1
  have hDc : va_D A wc := by
    obtain ⟨d1, d2⟩ := bk_D.mp hD
    rw [List.map_append, List.map_append] at d1
    exact bk_D.mpr ⟨(List.nodup_append.mp (List.nodup_append.mp d1).2.1).1, fun q hq => d2 q (List.mem_append_right _ (List.mem_append_left _ hq))⟩
  have hF := wd_free X.2.2.1 ⟨hPc, hDc, hS⟩
  have hrun := vx_runSX (l := l) (below := below) (e := e) (meth := meth) (locs := locs) (cells := cells) (slots := slots) (As := As) (rest := rest) (H := H) X.1 (hM H.size) cw ⟨sPreL.blind _ _ _ _ _ _, fun U hU hWm => ⟨rfl, ⟨by rw [hU], by rw [hU]; exact hPc, va_K.moved hWm.alike X.2.1, hDc.weaken (fun _ _ _ _ => trivial), X.2.2.2.1.warm hWm, cx.z X hS hF hU hWm⟩, va_K.moved hWm.alike hKL⟩⟩ (g := F0 m pc ls st) rfl hn hl hst (lv_room hr) hdg hf
  intro T hT XS
  rcases hrun T hT XS with ⟨v, st₀, t, T', L, h0, X', hL, e1, e2, ⟨⟨hv, hP1, -, hD1⟩, hFr⟩, stp⟩ | ⟨q, st₀, t, T', L, E, ce, h0, X', hL, e1, e2, hno, hce, hcv, hcl, stp⟩
  · obtain rfl : v = some (.int r) := by cases hv; rfl
    obtain ⟨k1, k2, k3⟩ := vx_keep h0 e1 hS (fun q _ h => hF q h) hF hL hFr
    obtain ⟨g1, g2⟩ := bk_call hP hD k2 hF (by rw [e1]; exact hP1) hD1
    obtain ⟨t2, a1, b1⟩ := kk T'.heap (locs ++ L) ⟨g1, g2, k3⟩ T' rfl X'
    exact ⟨t2, stp t2 a1, b1⟩
  · exact hno.elim
/-- script[i + j] -/
theorem rd_ (X : cx p s m args c cc nL Ts own Dd Y A) {b L q am0 ad0 i : Nat} {xs : Nat → Int32} (hX : va_X b L xs s s.heap) (hbl : b < s.heap.size) (hbA : ¬ A b) (hS : va_S A s.heap H locs) (hl : lv_has ls nL (LV b q am0 ad0 i)) (j : Nat) {v : Int} (hv : Int32.ofInt v = nI j) (hj : i + j < L) (hL : L ≤ 3072) (d0 : decode cc pc = .ok (.aload_n 0, 1)) (d1 : decode cc (pc + 1) = .ok (.iload 4, 2)) (d3 : decode cc (pc + 3) = .ok (.iconst v, 1)) (d4 : decode cc (pc + 4) = .ok (.iadd, 1)) (d5 : decode cc (pc + 5) = .ok (.iaload, 1))
    (kk : W p l e R s m args below meth c H locs cells slots Q (F0 m (pc + 6) ls (.int (xs (i + j)) :: rest))) : W p l e R s m args below meth c H locs cells slots Q (F0 m pc ls rest) := by
  have hx := X.x
  have hb := X.b
  refine lv_aload_n hx hb d0 rfl (lv_at hl 4 rfl) ?_
  refine lv_iload hx hb d1 (lv_at hl 0 rfl) ?_
  refine lv_iconst (v := nI j) hx hb d3 hv ?_
  refine lv_iadd hx hb d4 ?_
  rw [nI_add]
  refine va_sld hx hb hX hbl hbA hS (vp_in_nI hj (by omega)) d5 ?_
  rw [nI_clamp (by omega)]
  exact kk
set_option maxRecDepth 100000 in
set_option maxHeartbeats 4000000 in
theorem lc_0 (X : cx p s m args c cL_law 9 wsL_law RL Dd Y A) (hst : l.stackTraces = false) {cL : ClassId} (hKL : va_K Dd vwCl [(cL, .long)] s) {b L q i : Nat} {xs : Nat → Int32} {ad : Nat → Nat → Nat} {am : Nat → Nat} (hX : va_X b L xs s s.heap) (hbl : b < s.heap.size) (hbA : ¬ A b) (hi : i + 6 ≤ L) (hL : L ≤ 3072) {V V' : gX} {F F' : gF} {fo fo' : Nat → Int64} (h : LR 0 (xs (i + 1)) (xs (i + 2)) (xs (i + 3)) (xs (i + 4)) (xs (i + 5)) V F fo V' F' fo') (hW : Wd Dd A s.heap (WL Y ad am q cL V fo F) H locs) (hl : lv_has ls 9 (LV b q (am 0) (ad 0 0) i)) (hc : cells + 4 ≤ room_1.cells) (hs : slots + 24 ≤ room_1.slots)
    (kk : ∀ (H : Heap) (locs : List Loc) (ls : Array Slot) (cells' slots' : Nat), cells' ≤ cells + 4 → slots' ≤ slots + 24 → Wd Dd A s.heap (WL Y ad am q cL V' fo' F') H locs → lv_has ls 9 (LV b q (am 0) (ad 0 0) i) → W p l e room_1 s m args below meth c H locs cells' slots' Q (F0 m 1718 ls [])) : W p l e room_1 s m args below meth c H locs cells slots Q (F0 m 176 ls []) := by
  have hx := X.x
  have hb := X.b
  obtain ⟨r, h4, h5, rfl⟩ := h
  refine lv_aload_n hx hb dL_law_176 rfl (lv_at hl 3 rfl) ?_
  refine rd_ X hX hbl hbA hW.2.2 hl 1 (by decide) (by omega) hL dL_law_177 dL_law_178 dL_law_180 dL_law_181 dL_law_182 ?_
  refine rd_ X hX hbl hbA hW.2.2 hl 2 (by decide) (by omega) hL dL_law_183 dL_law_184 dL_law_186 dL_law_187 dL_law_188 ?_
  refine rd_ X hX hbl hbA hW.2.2 hl 3 (by decide) (by omega) hL dL_law_189 dL_law_190 dL_law_192 dL_law_193 dL_law_194 ?_
  refine rd_ X hX hbl hbA hW.2.2 hl 4 (by decide) (by omega) hL dL_law_195 dL_law_196 dL_law_198 dL_law_199 dL_law_200 ?_
  refine rd_ X hX hbl hbA hW.2.2 hl 5 (by decide) (by omega) hL dL_law_201 dL_law_202 dL_law_204 dL_law_205 dL_law_206 ?_
  refine cVmi_ (As := [.int (xs (i + 1)), .int (xs (i + 2)), .int (xs (i + 3)), .int (xs (i + 4)), .int (xs (i + 5))]) (rest := []) (wc := WX Y ad V) (post := [(q, .inl (cL, 1, .inr (.inl fo)))] ++ WM Y am F) (w1 := WX Y ad V') (ws' := (WL Y ad am q cL V' fo F)) X (kX4_append l Dd Y ad V (xs (i + 1)) (xs (i + 2)) (xs (i + 3)) (xs (i + 4)) (xs (i + 5)) r V' h4) (cwV 5 X.1.2.2.2.2 gL_law_X4_append rfl rfl rfl (by decide +kernel) ⟨(Nat.le_of_ble_eq_true rfl), (Nat.le_of_ble_eq_true rfl)⟩) hW (wl_x ..) (wl_x ..).symm 0 4 rfl rfl rfl rfl hl.1 rfl (Nat.le_of_ble_eq_true rfl) dL_law_207 ⟨Nat.le_trans (Nat.le_add_right _ 4) hc, Nat.le_trans (Nat.le_add_right _ 24) hs⟩ (fun H locs hW => ?_)
  refine lv_aload_n hx hb dL_law_210 rfl (lv_at hl 2 rfl) ?_
  refine rd_ X hX hbl hbA hW.2.2 hl 1 (by decide) (by omega) hL dL_law_211 dL_law_212 dL_law_214 dL_law_215 dL_law_216 ?_
  refine rd_ X hX hbl hbA hW.2.2 hl 2 (by decide) (by omega) hL dL_law_217 dL_law_218 dL_law_220 dL_law_221 dL_law_222 ?_
  refine rd_ X hX hbl hbA hW.2.2 hl 3 (by decide) (by omega) hL dL_law_223 dL_law_224 dL_law_226 dL_law_227 dL_law_228 ?_
  refine rd_ X hX hbl hbA hW.2.2 hl 4 (by decide) (by omega) hL dL_law_229 dL_law_230 dL_law_232 dL_law_233 dL_law_234 ?_
  refine rd_ X hX hbl hbA hW.2.2 hl 5 (by decide) (by omega) hL dL_law_235 dL_law_236 dL_law_238 dL_law_239 dL_law_240 ?_
  refine cVmi_ (As := [.int (xs (i + 1)), .int (xs (i + 2)), .int (xs (i + 3)), .int (xs (i + 4)), .int (xs (i + 5))]) (rest := [.int r]) (wc := WM Y am F) (post := WQ Y ad q cL V' fo) (w1 := WM Y am F') (ws' := (WL Y ad am q cL V' fo F')) X (kX5_append l Dd Y am F (xs (i + 1)) (xs (i + 2)) (xs (i + 3)) (xs (i + 4)) (xs (i + 5)) r F' h5) (cwV 5 X.1.2.2.2.2 gL_law_X5_append rfl rfl rfl (by decide +kernel) ⟨(Nat.le_of_ble_eq_true rfl), (Nat.le_of_ble_eq_true rfl)⟩) hW (wl_m ..) (wl_m ..).symm 0 5 rfl rfl rfl rfl hl.1 rfl (Nat.le_of_ble_eq_true rfl) dL_law_241 ⟨Nat.le_trans (Nat.le_add_right _ 4) hc, Nat.le_trans (Nat.le_add_right _ 24) hs⟩ (fun H locs hW => ?_)
  refine lv_icmp_eq (tgt := 1718) hx hb dL_law_244 (by decide) (fun _ => ?_) (fun hne => absurd rfl hne)
  exact kk H locs ls cells slots (Nat.le_add_right _ _) (Nat.le_add_right _ _) hW hl
set_option maxRecDepth 100000 in
set_option maxHeartbeats 4000000 in
theorem lc_1 (X : cx p s m args c cL_law 9 wsL_law RL Dd Y A) (hst : l.stackTraces = false) {cL : ClassId} (hKL : va_K Dd vwCl [(cL, .long)] s) {b L q i : Nat} {xs : Nat → Int32} {ad : Nat → Nat → Nat} {am : Nat → Nat} (hX : va_X b L xs s s.heap) (hbl : b < s.heap.size) (hbA : ¬ A b) (hi : i + 6 ≤ L) (hL : L ≤ 3072) {V V' : gX} {F F' : gF} {fo fo' : Nat → Int64} (h : LR 1 (xs (i + 1)) (xs (i + 2)) (xs (i + 3)) (xs (i + 4)) (xs (i + 5)) V F fo V' F' fo') (hW : Wd Dd A s.heap (WL Y ad am q cL V fo F) H locs) (hl : lv_has ls 9 (LV b q (am 0) (ad 0 0) i)) (hc : cells + 4 ≤ room_1.cells) (hs : slots + 24 ≤ room_1.slots)
    (kk : ∀ (H : Heap) (locs : List Loc) (ls : Array Slot) (cells' slots' : Nat), cells' ≤ cells + 4 → slots' ≤ slots + 24 → Wd Dd A s.heap (WL Y ad am q cL V' fo' F') H locs → lv_has ls 9 (LV b q (am 0) (ad 0 0) i) → W p l e room_1 s m args below meth c H locs cells' slots' Q (F0 m 1718 ls [])) : W p l e room_1 s m args below meth c H locs cells slots Q (F0 m 249 ls []) := by
  have hx := X.x
  have hb := X.b
  obtain ⟨o, rb, h4, hE, h5, h6, h7, rfl, rfl⟩ := h
  refine lv_aload_n hx hb dL_law_249 rfl (lv_at hl 3 rfl) ?_
  refine rd_ X hX hbl hbA hW.2.2 hl 1 (by decide) (by omega) hL dL_law_250 dL_law_251 dL_law_253 dL_law_254 dL_law_255 ?_
  refine lv_aload_n hx hb dL_law_256 rfl (lv_at hl 1 rfl) ?_
  have hc2 : cells + 1 ≤ room_1.cells := by omega
  have hs2 : slots + 6 ≤ room_1.slots := by omega
  refine cL_ (As := [.ref (ad 0 0), .int (xs (i + 1)), .ref q]) (rest := []) (wc := WQ Y ad q cL V fo) (post := WM Y am F) (w1 := WQ Y ad q cL (lwS ["java/lang/IllegalArgumentException"] V fo o).2.1 (lwS ["java/lang/IllegalArgumentException"] V fo o).2.2) X hKL (kL_load l hst Dd Y cL ad q V fo (xs (i + 1)) o h4 hE) (vx_cwSW 3 X.1.2.2.2.2 gL_law_L_load rfl rfl rfl (by decide +kernel) ⟨(Nat.le_of_ble_eq_true rfl), (Nat.le_of_ble_eq_true rfl)⟩) hW rfl hl.1 rfl (Nat.le_of_ble_eq_true rfl) dL_law_257 ⟨hc2, hs2⟩ (fun H locs hW => ?_)
  revert h6 h7 hW kk
  generalize (lwS ["java/lang/IllegalArgumentException"] V fo o) = z
  obtain ⟨zk, V2, fo2⟩ := z
  intro h6 h7 kk hW
  refine lv_istore (lv' := (5, .int zk) :: LV b q (am 0) (ad 0 0) i) hx hb dL_law_260 hl (by decide) rfl (fun ls hl => ?_)
  have hl0 : lv_has ls 9 (LV b q (am 0) (ad 0 0) i) := ⟨hl.1, hl.2.1, fun z hz => hl.2.2 z (List.mem_cons_of_mem _ hz)⟩
  refine lv_aload_n hx hb dL_law_262 rfl (lv_at hl 3 rfl) ?_
  refine rd_ X hX hbl hbA hW.2.2 hl0 1 (by decide) (by omega) hL dL_law_263 dL_law_264 dL_law_266 dL_law_267 dL_law_268 ?_
  refine cVmi_ (As := [.int (xs (i + 1))]) (rest := []) (wc := WM Y am F) (post := WQ Y ad q cL V2 fo2) (w1 := WM Y am F') (ws' := (WL Y ad am q cL V2 fo2 F')) X (kX5_load l Dd Y am F (xs (i + 1)) rb F' h5) (cwV 1 X.1.2.2.2.2 gL_law_X5_load rfl rfl rfl (by decide +kernel) ⟨(Nat.le_of_ble_eq_true rfl), (Nat.le_of_ble_eq_true rfl)⟩) hW (wl_m ..) (wl_m ..).symm 0 5 rfl rfl rfl rfl hl.1 rfl (Nat.le_of_ble_eq_true rfl) dL_law_269 ⟨hc2, hs2⟩ (fun H locs hW => ?_)
  refine lv_istore (lv' := (6, .int rb) :: (5, .int zk) :: LV b q (am 0) (ad 0 0) i) hx hb dL_law_272 hl (by decide) rfl (fun ls hl => ?_)
  refine lv_aload_n hx hb dL_law_274 rfl (lv_at hl 4 rfl) ?_
  refine cVmi_ (As := []) (rest := []) (wc := WM Y am F') (post := WQ Y ad q cL V2 fo2) (w1 := WM Y am F') (ws' := (WL Y ad am q cL V2 fo2 F')) X (kX5_thrown l Dd Y am F' (F' 0 0) rfl) (cwV 0 X.1.2.2.2.2 gL_law_X5_thrown rfl rfl rfl (by decide +kernel) ⟨(Nat.le_of_ble_eq_true rfl), (Nat.le_of_ble_eq_true rfl)⟩) hW (wl_m ..) (wl_m ..).symm 0 5 rfl rfl rfl rfl hl.1 rfl (Nat.le_of_ble_eq_true rfl) dL_law_275 ⟨hc2, hs2⟩ (fun H locs hW => ?_)
  refine lv_iload hx hb dL_law_278 (lv_at hl 1 rfl) ?_
  refine lv_icmp_eq (tgt := 285) hx hb dL_law_280 (by decide) (fun _ => ?_) (fun hne => absurd h6 hne)
  have fin : W p l e room_1 s m args below meth c H locs (cells + 1) (slots + 6) Q (F0 m 1718 ls []) := kk H locs ls (cells + 1) (slots + 6) (by omega) (by omega) hW ⟨hl.1, hl.2.1, fun z hz => hl.2.2 z (List.mem_cons_of_mem _ (List.mem_cons_of_mem _ hz))⟩
  refine lv_iload hx hb dL_law_285 (lv_at hl 1 rfl) ?_
  refine lv_if_ne (tgt := 302) hx hb dL_law_287 (by decide) (fun _ => lv_goto (tgt := 1718) hx hb dL_law_302 (by decide) fin) (fun hz => ?_)
  have h8 := h7 hz
  refine lv_aload_n hx hb dL_law_290 rfl (lv_at hl 3 rfl) ?_
  refine lv_iconst (v := 0) hx hb dL_law_291 (by decide) ?_
  refine va_lald hx hb hKL hW.1 65 0 rfl rfl (vp_in_nI (n := 0) (by decide) (by decide)) dL_law_292 ?_
  show W p l e room_1 s m args below meth c H locs (cells + 1) (slots + 6) Q (F0 m 293 ls [.long (fo2 0)])
  rw [show fo2 0 = _ from h8]
  refine lv_iload hx hb dL_law_293 (lv_at hl 0 rfl) ?_
  refine lv_i2l (v := rb.toInt64) hx hb dL_law_295 rfl ?_
  refine W.lcmp hx hb dL_law_296 ?_
  rw [lg_cmp_self]
  refine lv_if_eq (tgt := 302) hx hb dL_law_297 (by decide) (fun _ => ?_) (fun hne => absurd rfl hne)
  exact lv_goto (tgt := 1718) hx hb dL_law_302 (by decide) fin
set_option maxRecDepth 100000 in
set_option maxHeartbeats 4000000 in
theorem lc_2 (X : cx p s m args c cL_law 9 wsL_law RL Dd Y A) (hst : l.stackTraces = false) {cL : ClassId} (hKL : va_K Dd vwCl [(cL, .long)] s) {b L q i : Nat} {xs : Nat → Int32} {ad : Nat → Nat → Nat} {am : Nat → Nat} (hX : va_X b L xs s s.heap) (hbl : b < s.heap.size) (hbA : ¬ A b) (hi : i + 6 ≤ L) (hL : L ≤ 3072) {V V' : gX} {F F' : gF} {fo fo' : Nat → Int64} (h : LR 2 (xs (i + 1)) (xs (i + 2)) (xs (i + 3)) (xs (i + 4)) (xs (i + 5)) V F fo V' F' fo') (hW : Wd Dd A s.heap (WL Y ad am q cL V fo F) H locs) (hl : lv_has ls 9 (LV b q (am 0) (ad 0 0) i)) (hc : cells + 4 ≤ room_1.cells) (hs : slots + 24 ≤ room_1.slots)
    (kk : ∀ (H : Heap) (locs : List Loc) (ls : Array Slot) (cells' slots' : Nat), cells' ≤ cells + 4 → slots' ≤ slots + 24 → Wd Dd A s.heap (WL Y ad am q cL V' fo' F') H locs → lv_has ls 9 (LV b q (am 0) (ad 0 0) i) → W p l e room_1 s m args below meth c H locs cells' slots' Q (F0 m 1718 ls [])) : W p l e room_1 s m args below meth c H locs cells slots Q (F0 m 305 ls []) := by
  have hx := X.x
  have hb := X.b
  obtain ⟨r, h4, h5, rfl, rfl⟩ := h
  refine lv_aload_n hx hb dL_law_305 rfl (lv_at hl 3 rfl) ?_
  refine cVmi_ (As := []) (rest := []) (wc := WX Y ad V) (post := [(q, .inl (cL, 1, .inr (.inl fo)))] ++ WM Y am F) (w1 := WX Y ad V) (ws' := (WL Y ad am q cL V fo F)) X (kX4_errorOffset l Dd Y ad V  r h4) (cwV 0 X.1.2.2.2.2 gL_law_X4_errorOffset rfl rfl rfl (by decide +kernel) ⟨(Nat.le_of_ble_eq_true rfl), (Nat.le_of_ble_eq_true rfl)⟩) hW (wl_x ..) (wl_x ..).symm 0 4 rfl rfl rfl rfl hl.1 rfl (Nat.le_of_ble_eq_true rfl) dL_law_306 ⟨Nat.le_trans (Nat.le_add_right _ 4) hc, Nat.le_trans (Nat.le_add_right _ 24) hs⟩ (fun H locs hW => ?_)
  refine lv_aload_n hx hb dL_law_309 rfl (lv_at hl 2 rfl) ?_
  refine cVmi_ (As := []) (rest := [.int r]) (wc := WM Y am F) (post := WQ Y ad q cL V fo) (w1 := WM Y am F') (ws' := (WL Y ad am q cL V fo F')) X (kX5_errorOffset l Dd Y am F  r F' h5) (cwV 0 X.1.2.2.2.2 gL_law_X5_errorOffset rfl rfl rfl (by decide +kernel) ⟨(Nat.le_of_ble_eq_true rfl), (Nat.le_of_ble_eq_true rfl)⟩) hW (wl_m ..) (wl_m ..).symm 0 5 rfl rfl rfl rfl hl.1 rfl (Nat.le_of_ble_eq_true rfl) dL_law_310 ⟨Nat.le_trans (Nat.le_add_right _ 4) hc, Nat.le_trans (Nat.le_add_right _ 24) hs⟩ (fun H locs hW => ?_)
  refine lv_icmp_eq (tgt := 1718) hx hb dL_law_313 (by decide) (fun _ => ?_) (fun hne => absurd rfl hne)
  exact kk H locs ls cells slots (Nat.le_add_right _ _) (Nat.le_add_right _ _) hW hl
set_option maxRecDepth 100000 in
set_option maxHeartbeats 4000000 in
theorem lc_3 (X : cx p s m args c cL_law 9 wsL_law RL Dd Y A) (hst : l.stackTraces = false) {cL : ClassId} (hKL : va_K Dd vwCl [(cL, .long)] s) {b L q i : Nat} {xs : Nat → Int32} {ad : Nat → Nat → Nat} {am : Nat → Nat} (hX : va_X b L xs s s.heap) (hbl : b < s.heap.size) (hbA : ¬ A b) (hi : i + 6 ≤ L) (hL : L ≤ 3072) {V V' : gX} {F F' : gF} {fo fo' : Nat → Int64} (h : LR 3 (xs (i + 1)) (xs (i + 2)) (xs (i + 3)) (xs (i + 4)) (xs (i + 5)) V F fo V' F' fo') (hW : Wd Dd A s.heap (WL Y ad am q cL V fo F) H locs) (hl : lv_has ls 9 (LV b q (am 0) (ad 0 0) i)) (hc : cells + 4 ≤ room_1.cells) (hs : slots + 24 ≤ room_1.slots)
    (kk : ∀ (H : Heap) (locs : List Loc) (ls : Array Slot) (cells' slots' : Nat), cells' ≤ cells + 4 → slots' ≤ slots + 24 → Wd Dd A s.heap (WL Y ad am q cL V' fo' F') H locs → lv_has ls 9 (LV b q (am 0) (ad 0 0) i) → W p l e room_1 s m args below meth c H locs cells' slots' Q (F0 m 1718 ls [])) : W p l e room_1 s m args below meth c H locs cells slots Q (F0 m 318 ls []) := by
  have hx := X.x
  have hb := X.b
  obtain ⟨o, rb, h4, hE, h5, h6, h7, rfl, rfl⟩ := h
  refine lv_aload_n hx hb dL_law_318 rfl (lv_at hl 3 rfl) ?_
  refine rd_ X hX hbl hbA hW.2.2 hl 1 (by decide) (by omega) hL dL_law_319 dL_law_320 dL_law_322 dL_law_323 dL_law_324 ?_
  refine lv_aload_n hx hb dL_law_325 rfl (lv_at hl 1 rfl) ?_
  have hc2 : cells + 1 ≤ room_1.cells := by omega
  have hs2 : slots + 6 ≤ room_1.slots := by omega
  refine cL_ (As := [.ref (ad 0 0), .int (xs (i + 1)), .ref q]) (rest := []) (wc := WQ Y ad q cL V fo) (post := WM Y am F) (w1 := WQ Y ad q cL (lwI ["java/lang/IllegalArgumentException"] V fo o).2.1 (lwI ["java/lang/IllegalArgumentException"] V fo o).2.2) X hKL (kL_state l hst Dd Y cL ad q V fo (xs (i + 1)) o h4 hE) (vx_cwSW 3 X.1.2.2.2.2 gL_law_L_state rfl rfl rfl (by decide +kernel) ⟨(Nat.le_of_ble_eq_true rfl), (Nat.le_of_ble_eq_true rfl)⟩) hW rfl hl.1 rfl (Nat.le_of_ble_eq_true rfl) dL_law_326 ⟨hc2, hs2⟩ (fun H locs hW => ?_)
  revert h6 h7 hW kk
  generalize (lwI ["java/lang/IllegalArgumentException"] V fo o) = z
  obtain ⟨zk, V2, fo2⟩ := z
  intro h6 h7 kk hW
  refine lv_istore (lv' := (5, .int zk) :: LV b q (am 0) (ad 0 0) i) hx hb dL_law_329 hl (by decide) rfl (fun ls hl => ?_)
  have hl0 : lv_has ls 9 (LV b q (am 0) (ad 0 0) i) := ⟨hl.1, hl.2.1, fun z hz => hl.2.2 z (List.mem_cons_of_mem _ hz)⟩
  refine lv_aload_n hx hb dL_law_331 rfl (lv_at hl 3 rfl) ?_
  refine rd_ X hX hbl hbA hW.2.2 hl0 1 (by decide) (by omega) hL dL_law_332 dL_law_333 dL_law_335 dL_law_336 dL_law_337 ?_
  refine cVmi_ (As := [.int (xs (i + 1))]) (rest := []) (wc := WM Y am F) (post := WQ Y ad q cL V2 fo2) (w1 := WM Y am F') (ws' := (WL Y ad am q cL V2 fo2 F')) X (kX5_state l Dd Y am F (xs (i + 1)) rb F' h5) (cwV 1 X.1.2.2.2.2 gL_law_X5_state rfl rfl rfl (by decide +kernel) ⟨(Nat.le_of_ble_eq_true rfl), (Nat.le_of_ble_eq_true rfl)⟩) hW (wl_m ..) (wl_m ..).symm 0 5 rfl rfl rfl rfl hl.1 rfl (Nat.le_of_ble_eq_true rfl) dL_law_338 ⟨hc2, hs2⟩ (fun H locs hW => ?_)
  refine lv_istore (lv' := (6, .int rb) :: (5, .int zk) :: LV b q (am 0) (ad 0 0) i) hx hb dL_law_341 hl (by decide) rfl (fun ls hl => ?_)
  refine lv_aload_n hx hb dL_law_343 rfl (lv_at hl 4 rfl) ?_
  refine cVmi_ (As := []) (rest := []) (wc := WM Y am F') (post := WQ Y ad q cL V2 fo2) (w1 := WM Y am F') (ws' := (WL Y ad am q cL V2 fo2 F')) X (kX5_thrown l Dd Y am F' (F' 0 0) rfl) (cwV 0 X.1.2.2.2.2 gL_law_X5_thrown rfl rfl rfl (by decide +kernel) ⟨(Nat.le_of_ble_eq_true rfl), (Nat.le_of_ble_eq_true rfl)⟩) hW (wl_m ..) (wl_m ..).symm 0 5 rfl rfl rfl rfl hl.1 rfl (Nat.le_of_ble_eq_true rfl) dL_law_344 ⟨hc2, hs2⟩ (fun H locs hW => ?_)
  refine lv_iload hx hb dL_law_347 (lv_at hl 1 rfl) ?_
  refine lv_icmp_eq (tgt := 354) hx hb dL_law_349 (by decide) (fun _ => ?_) (fun hne => absurd h6 hne)
  have fin : W p l e room_1 s m args below meth c H locs (cells + 1) (slots + 6) Q (F0 m 1718 ls []) := kk H locs ls (cells + 1) (slots + 6) (by omega) (by omega) hW ⟨hl.1, hl.2.1, fun z hz => hl.2.2 z (List.mem_cons_of_mem _ (List.mem_cons_of_mem _ hz))⟩
  refine lv_iload hx hb dL_law_354 (lv_at hl 1 rfl) ?_
  refine lv_if_ne (tgt := 371) hx hb dL_law_356 (by decide) (fun _ => lv_goto (tgt := 1718) hx hb dL_law_371 (by decide) fin) (fun hz => ?_)
  have h8 := h7 hz
  refine lv_aload_n hx hb dL_law_359 rfl (lv_at hl 3 rfl) ?_
  refine lv_iconst (v := 0) hx hb dL_law_360 (by decide) ?_
  refine va_lald hx hb hKL hW.1 65 0 rfl rfl (vp_in_nI (n := 0) (by decide) (by decide)) dL_law_361 ?_
  show W p l e room_1 s m args below meth c H locs (cells + 1) (slots + 6) Q (F0 m 362 ls [.long (fo2 0)])
  rw [show fo2 0 = _ from h8]
  refine lv_iload hx hb dL_law_362 (lv_at hl 0 rfl) ?_
  refine lv_i2l (v := rb.toInt64) hx hb dL_law_364 rfl ?_
  refine W.lcmp hx hb dL_law_365 ?_
  rw [lg_cmp_self]
  refine lv_if_eq (tgt := 371) hx hb dL_law_366 (by decide) (fun _ => ?_) (fun hne => absurd rfl hne)
  exact lv_goto (tgt := 1718) hx hb dL_law_371 (by decide) fin
set_option maxRecDepth 100000 in
set_option maxHeartbeats 4000000 in
theorem lc_4 (X : cx p s m args c cL_law 9 wsL_law RL Dd Y A) (hst : l.stackTraces = false) {cL : ClassId} (hKL : va_K Dd vwCl [(cL, .long)] s) {b L q i : Nat} {xs : Nat → Int32} {ad : Nat → Nat → Nat} {am : Nat → Nat} (hX : va_X b L xs s s.heap) (hbl : b < s.heap.size) (hbA : ¬ A b) (hi : i + 6 ≤ L) (hL : L ≤ 3072) {V V' : gX} {F F' : gF} {fo fo' : Nat → Int64} (h : LR 4 (xs (i + 1)) (xs (i + 2)) (xs (i + 3)) (xs (i + 4)) (xs (i + 5)) V F fo V' F' fo') (hW : Wd Dd A s.heap (WL Y ad am q cL V fo F) H locs) (hl : lv_has ls 9 (LV b q (am 0) (ad 0 0) i)) (hc : cells + 4 ≤ room_1.cells) (hs : slots + 24 ≤ room_1.slots)
    (kk : ∀ (H : Heap) (locs : List Loc) (ls : Array Slot) (cells' slots' : Nat), cells' ≤ cells + 4 → slots' ≤ slots + 24 → Wd Dd A s.heap (WL Y ad am q cL V' fo' F') H locs → lv_has ls 9 (LV b q (am 0) (ad 0 0) i) → W p l e room_1 s m args below meth c H locs cells' slots' Q (F0 m 1718 ls [])) : W p l e room_1 s m args below meth c H locs cells slots Q (F0 m 374 ls []) := by
  have hx := X.x
  have hb := X.b
  obtain ⟨o, rb, h4, hE, h5, h6, h7, rfl, rfl⟩ := h
  refine lv_aload_n hx hb dL_law_374 rfl (lv_at hl 3 rfl) ?_
  refine rd_ X hX hbl hbA hW.2.2 hl 1 (by decide) (by omega) hL dL_law_375 dL_law_376 dL_law_378 dL_law_379 dL_law_380 ?_
  refine lv_aload_n hx hb dL_law_381 rfl (lv_at hl 1 rfl) ?_
  have hc2 : cells + 1 ≤ room_1.cells := by omega
  have hs2 : slots + 6 ≤ room_1.slots := by omega
  refine cL_ (As := [.ref (ad 0 0), .int (xs (i + 1)), .ref q]) (rest := []) (wc := WQ Y ad q cL V fo) (post := WM Y am F) (w1 := WQ Y ad q cL (lwI ["java/lang/IndexOutOfBoundsException"] V fo o).2.1 (lwI ["java/lang/IndexOutOfBoundsException"] V fo o).2.2) X hKL (kL_value l hst Dd Y cL ad q V fo (xs (i + 1)) o h4 hE) (vx_cwSW 3 X.1.2.2.2.2 gL_law_L_value rfl rfl rfl (by decide +kernel) ⟨(Nat.le_of_ble_eq_true rfl), (Nat.le_of_ble_eq_true rfl)⟩) hW rfl hl.1 rfl (Nat.le_of_ble_eq_true rfl) dL_law_382 ⟨hc2, hs2⟩ (fun H locs hW => ?_)
  revert h6 h7 hW kk
  generalize (lwI ["java/lang/IndexOutOfBoundsException"] V fo o) = z
  obtain ⟨zk, V2, fo2⟩ := z
  intro h6 h7 kk hW
  refine lv_istore (lv' := (5, .int zk) :: LV b q (am 0) (ad 0 0) i) hx hb dL_law_385 hl (by decide) rfl (fun ls hl => ?_)
  have hl0 : lv_has ls 9 (LV b q (am 0) (ad 0 0) i) := ⟨hl.1, hl.2.1, fun z hz => hl.2.2 z (List.mem_cons_of_mem _ hz)⟩
  refine lv_aload_n hx hb dL_law_387 rfl (lv_at hl 3 rfl) ?_
  refine rd_ X hX hbl hbA hW.2.2 hl0 1 (by decide) (by omega) hL dL_law_388 dL_law_389 dL_law_391 dL_law_392 dL_law_393 ?_
  refine cVmi_ (As := [.int (xs (i + 1))]) (rest := []) (wc := WM Y am F) (post := WQ Y ad q cL V2 fo2) (w1 := WM Y am F') (ws' := (WL Y ad am q cL V2 fo2 F')) X (kX5_value l Dd Y am F (xs (i + 1)) rb F' h5) (cwV 1 X.1.2.2.2.2 gL_law_X5_value rfl rfl rfl (by decide +kernel) ⟨(Nat.le_of_ble_eq_true rfl), (Nat.le_of_ble_eq_true rfl)⟩) hW (wl_m ..) (wl_m ..).symm 0 5 rfl rfl rfl rfl hl.1 rfl (Nat.le_of_ble_eq_true rfl) dL_law_394 ⟨hc2, hs2⟩ (fun H locs hW => ?_)
  refine lv_istore (lv' := (6, .int rb) :: (5, .int zk) :: LV b q (am 0) (ad 0 0) i) hx hb dL_law_397 hl (by decide) rfl (fun ls hl => ?_)
  refine lv_aload_n hx hb dL_law_399 rfl (lv_at hl 4 rfl) ?_
  refine cVmi_ (As := []) (rest := []) (wc := WM Y am F') (post := WQ Y ad q cL V2 fo2) (w1 := WM Y am F') (ws' := (WL Y ad am q cL V2 fo2 F')) X (kX5_thrown l Dd Y am F' (F' 0 0) rfl) (cwV 0 X.1.2.2.2.2 gL_law_X5_thrown rfl rfl rfl (by decide +kernel) ⟨(Nat.le_of_ble_eq_true rfl), (Nat.le_of_ble_eq_true rfl)⟩) hW (wl_m ..) (wl_m ..).symm 0 5 rfl rfl rfl rfl hl.1 rfl (Nat.le_of_ble_eq_true rfl) dL_law_400 ⟨hc2, hs2⟩ (fun H locs hW => ?_)
  refine lv_iload hx hb dL_law_403 (lv_at hl 1 rfl) ?_
  refine lv_icmp_eq (tgt := 410) hx hb dL_law_405 (by decide) (fun _ => ?_) (fun hne => absurd h6 hne)
  have fin : W p l e room_1 s m args below meth c H locs (cells + 1) (slots + 6) Q (F0 m 1718 ls []) := kk H locs ls (cells + 1) (slots + 6) (by omega) (by omega) hW ⟨hl.1, hl.2.1, fun z hz => hl.2.2 z (List.mem_cons_of_mem _ (List.mem_cons_of_mem _ hz))⟩
  refine lv_iload hx hb dL_law_410 (lv_at hl 1 rfl) ?_
  refine lv_if_ne (tgt := 427) hx hb dL_law_412 (by decide) (fun _ => lv_goto (tgt := 1718) hx hb dL_law_427 (by decide) fin) (fun hz => ?_)
  have h8 := h7 hz
  refine lv_aload_n hx hb dL_law_415 rfl (lv_at hl 3 rfl) ?_
  refine lv_iconst (v := 0) hx hb dL_law_416 (by decide) ?_
  refine va_lald hx hb hKL hW.1 65 0 rfl rfl (vp_in_nI (n := 0) (by decide) (by decide)) dL_law_417 ?_
  show W p l e room_1 s m args below meth c H locs (cells + 1) (slots + 6) Q (F0 m 418 ls [.long (fo2 0)])
  rw [show fo2 0 = _ from h8]
  refine lv_iload hx hb dL_law_418 (lv_at hl 0 rfl) ?_
  refine lv_i2l (v := rb.toInt64) hx hb dL_law_420 rfl ?_
  refine W.lcmp hx hb dL_law_421 ?_
  rw [lg_cmp_self]
  refine lv_if_eq (tgt := 427) hx hb dL_law_422 (by decide) (fun _ => ?_) (fun hne => absurd rfl hne)
  exact lv_goto (tgt := 1718) hx hb dL_law_427 (by decide) fin
set_option maxRecDepth 100000 in
set_option maxHeartbeats 4000000 in
theorem lc_5 (X : cx p s m args c cL_law 9 wsL_law RL Dd Y A) (hst : l.stackTraces = false) {cL : ClassId} (hKL : va_K Dd vwCl [(cL, .long)] s) {b L q i : Nat} {xs : Nat → Int32} {ad : Nat → Nat → Nat} {am : Nat → Nat} (hX : va_X b L xs s s.heap) (hbl : b < s.heap.size) (hbA : ¬ A b) (hi : i + 6 ≤ L) (hL : L ≤ 3072) {V V' : gX} {F F' : gF} {fo fo' : Nat → Int64} (h : LR 5 (xs (i + 1)) (xs (i + 2)) (xs (i + 3)) (xs (i + 4)) (xs (i + 5)) V F fo V' F' fo') (hW : Wd Dd A s.heap (WL Y ad am q cL V fo F) H locs) (hl : lv_has ls 9 (LV b q (am 0) (ad 0 0) i)) (hc : cells + 4 ≤ room_1.cells) (hs : slots + 24 ≤ room_1.slots)
    (kk : ∀ (H : Heap) (locs : List Loc) (ls : Array Slot) (cells' slots' : Nat), cells' ≤ cells + 4 → slots' ≤ slots + 24 → Wd Dd A s.heap (WL Y ad am q cL V' fo' F') H locs → lv_has ls 9 (LV b q (am 0) (ad 0 0) i) → W p l e room_1 s m args below meth c H locs cells' slots' Q (F0 m 1718 ls [])) : W p l e room_1 s m args below meth c H locs cells slots Q (F0 m 430 ls []) := by
  have hx := X.x
  have hb := X.b
  obtain ⟨o, rb, h4, hE, h5, h6, h7, rfl, rfl⟩ := h
  refine lv_aload_n hx hb dL_law_430 rfl (lv_at hl 3 rfl) ?_
  refine rd_ X hX hbl hbA hW.2.2 hl 1 (by decide) (by omega) hL dL_law_431 dL_law_432 dL_law_434 dL_law_435 dL_law_436 ?_
  refine rd_ X hX hbl hbA hW.2.2 hl 2 (by decide) (by omega) hL dL_law_437 dL_law_438 dL_law_440 dL_law_441 dL_law_442 ?_
  refine lv_aload_n hx hb dL_law_443 rfl (lv_at hl 1 rfl) ?_
  have hc2 : cells + 2 ≤ room_1.cells := by omega
  have hs2 : slots + 12 ≤ room_1.slots := by omega
  refine cL_ (As := [.ref (ad 0 0), .int (xs (i + 1)), .int (xs (i + 2)), .ref q]) (rest := []) (wc := WQ Y ad q cL V fo) (post := WM Y am F) (w1 := WQ Y ad q cL (lwI ["java/lang/IndexOutOfBoundsException", "java/util/NoSuchElementException"] V fo o).2.1 (lwI ["java/lang/IndexOutOfBoundsException", "java/util/NoSuchElementException"] V fo o).2.2) X hKL (kL_cell l hst Dd Y cL ad q V fo (xs (i + 1)) (xs (i + 2)) o h4 hE) (vx_cwSW 4 X.1.2.2.2.2 gL_law_L_cell rfl rfl rfl (by decide +kernel) ⟨(Nat.le_of_ble_eq_true rfl), (Nat.le_of_ble_eq_true rfl)⟩) hW rfl hl.1 rfl (Nat.le_of_ble_eq_true rfl) dL_law_444 ⟨hc2, hs2⟩ (fun H locs hW => ?_)
  revert h6 h7 hW kk
  generalize (lwI ["java/lang/IndexOutOfBoundsException", "java/util/NoSuchElementException"] V fo o) = z
  obtain ⟨zk, V2, fo2⟩ := z
  intro h6 h7 kk hW
  refine lv_istore (lv' := (5, .int zk) :: LV b q (am 0) (ad 0 0) i) hx hb dL_law_447 hl (by decide) rfl (fun ls hl => ?_)
  have hl0 : lv_has ls 9 (LV b q (am 0) (ad 0 0) i) := ⟨hl.1, hl.2.1, fun z hz => hl.2.2 z (List.mem_cons_of_mem _ hz)⟩
  refine lv_aload_n hx hb dL_law_449 rfl (lv_at hl 3 rfl) ?_
  refine rd_ X hX hbl hbA hW.2.2 hl0 1 (by decide) (by omega) hL dL_law_450 dL_law_451 dL_law_453 dL_law_454 dL_law_455 ?_
  refine rd_ X hX hbl hbA hW.2.2 hl0 2 (by decide) (by omega) hL dL_law_456 dL_law_457 dL_law_459 dL_law_460 dL_law_461 ?_
  refine cVmi_ (As := [.int (xs (i + 1)), .int (xs (i + 2))]) (rest := []) (wc := WM Y am F) (post := WQ Y ad q cL V2 fo2) (w1 := WM Y am F') (ws' := (WL Y ad am q cL V2 fo2 F')) X (kX5_cell l Dd Y am F (xs (i + 1)) (xs (i + 2)) rb F' h5) (cwV 2 X.1.2.2.2.2 gL_law_X5_cell rfl rfl rfl (by decide +kernel) ⟨(Nat.le_of_ble_eq_true rfl), (Nat.le_of_ble_eq_true rfl)⟩) hW (wl_m ..) (wl_m ..).symm 0 5 rfl rfl rfl rfl hl.1 rfl (Nat.le_of_ble_eq_true rfl) dL_law_462 ⟨hc2, hs2⟩ (fun H locs hW => ?_)
  refine lv_istore (lv' := (6, .int rb) :: (5, .int zk) :: LV b q (am 0) (ad 0 0) i) hx hb dL_law_465 hl (by decide) rfl (fun ls hl => ?_)
  refine lv_aload_n hx hb dL_law_467 rfl (lv_at hl 4 rfl) ?_
  refine cVmi_ (As := []) (rest := []) (wc := WM Y am F') (post := WQ Y ad q cL V2 fo2) (w1 := WM Y am F') (ws' := (WL Y ad am q cL V2 fo2 F')) X (kX5_thrown l Dd Y am F' (F' 0 0) rfl) (cwV 0 X.1.2.2.2.2 gL_law_X5_thrown rfl rfl rfl (by decide +kernel) ⟨(Nat.le_of_ble_eq_true rfl), (Nat.le_of_ble_eq_true rfl)⟩) hW (wl_m ..) (wl_m ..).symm 0 5 rfl rfl rfl rfl hl.1 rfl (Nat.le_of_ble_eq_true rfl) dL_law_468 ⟨hc2, hs2⟩ (fun H locs hW => ?_)
  refine lv_iload hx hb dL_law_471 (lv_at hl 1 rfl) ?_
  refine lv_icmp_eq (tgt := 478) hx hb dL_law_473 (by decide) (fun _ => ?_) (fun hne => absurd h6 hne)
  have fin : W p l e room_1 s m args below meth c H locs (cells + 2) (slots + 12) Q (F0 m 1718 ls []) := kk H locs ls (cells + 2) (slots + 12) (by omega) (by omega) hW ⟨hl.1, hl.2.1, fun z hz => hl.2.2 z (List.mem_cons_of_mem _ (List.mem_cons_of_mem _ hz))⟩
  refine lv_iload hx hb dL_law_478 (lv_at hl 1 rfl) ?_
  refine lv_if_ne (tgt := 495) hx hb dL_law_480 (by decide) (fun _ => lv_goto (tgt := 1718) hx hb dL_law_495 (by decide) fin) (fun hz => ?_)
  have h8 := h7 hz
  refine lv_aload_n hx hb dL_law_483 rfl (lv_at hl 3 rfl) ?_
  refine lv_iconst (v := 0) hx hb dL_law_484 (by decide) ?_
  refine va_lald hx hb hKL hW.1 65 0 rfl rfl (vp_in_nI (n := 0) (by decide) (by decide)) dL_law_485 ?_
  show W p l e room_1 s m args below meth c H locs (cells + 2) (slots + 12) Q (F0 m 486 ls [.long (fo2 0)])
  rw [show fo2 0 = _ from h8]
  refine lv_iload hx hb dL_law_486 (lv_at hl 0 rfl) ?_
  refine lv_i2l (v := rb.toInt64) hx hb dL_law_488 rfl ?_
  refine W.lcmp hx hb dL_law_489 ?_
  rw [lg_cmp_self]
  refine lv_if_eq (tgt := 495) hx hb dL_law_490 (by decide) (fun _ => ?_) (fun hne => absurd rfl hne)
  exact lv_goto (tgt := 1718) hx hb dL_law_495 (by decide) fin
set_option maxRecDepth 100000 in
set_option maxHeartbeats 4000000 in
theorem lc_6 (X : cx p s m args c cL_law 9 wsL_law RL Dd Y A) (hst : l.stackTraces = false) {cL : ClassId} (hKL : va_K Dd vwCl [(cL, .long)] s) {b L q i : Nat} {xs : Nat → Int32} {ad : Nat → Nat → Nat} {am : Nat → Nat} (hX : va_X b L xs s s.heap) (hbl : b < s.heap.size) (hbA : ¬ A b) (hi : i + 6 ≤ L) (hL : L ≤ 3072) {V V' : gX} {F F' : gF} {fo fo' : Nat → Int64} (h : LR 6 (xs (i + 1)) (xs (i + 2)) (xs (i + 3)) (xs (i + 4)) (xs (i + 5)) V F fo V' F' fo') (hW : Wd Dd A s.heap (WL Y ad am q cL V fo F) H locs) (hl : lv_has ls 9 (LV b q (am 0) (ad 0 0) i)) (hc : cells + 4 ≤ room_1.cells) (hs : slots + 24 ≤ room_1.slots)
    (kk : ∀ (H : Heap) (locs : List Loc) (ls : Array Slot) (cells' slots' : Nat), cells' ≤ cells + 4 → slots' ≤ slots + 24 → Wd Dd A s.heap (WL Y ad am q cL V' fo' F') H locs → lv_has ls 9 (LV b q (am 0) (ad 0 0) i) → W p l e room_1 s m args below meth c H locs cells' slots' Q (F0 m 1718 ls [])) : W p l e room_1 s m args below meth c H locs cells slots Q (F0 m 498 ls []) := by
  have hx := X.x
  have hb := X.b
  obtain ⟨o, rb, h4, hE, h5, h6, h7, rfl, rfl⟩ := h
  refine lv_aload_n hx hb dL_law_498 rfl (lv_at hl 3 rfl) ?_
  refine rd_ X hX hbl hbA hW.2.2 hl 1 (by decide) (by omega) hL dL_law_499 dL_law_500 dL_law_502 dL_law_503 dL_law_504 ?_
  refine lv_aload_n hx hb dL_law_505 rfl (lv_at hl 1 rfl) ?_
  have hc2 : cells + 1 ≤ room_1.cells := by omega
  have hs2 : slots + 6 ≤ room_1.slots := by omega
  refine cL_ (As := [.ref (ad 0 0), .int (xs (i + 1)), .ref q]) (rest := []) (wc := WQ Y ad q cL V fo) (post := WM Y am F) (w1 := WQ Y ad q cL (lwW ["java/lang/IndexOutOfBoundsException"] V fo o).2.1 (lwW ["java/lang/IndexOutOfBoundsException"] V fo o).2.2) X hKL (kL_waits l hst Dd Y cL ad q V fo (xs (i + 1)) o h4 hE) (vx_cwSW 3 X.1.2.2.2.2 gL_law_L_waits rfl rfl rfl (by decide +kernel) ⟨(Nat.le_of_ble_eq_true rfl), (Nat.le_of_ble_eq_true rfl)⟩) hW rfl hl.1 rfl (Nat.le_of_ble_eq_true rfl) dL_law_506 ⟨hc2, hs2⟩ (fun H locs hW => ?_)
  revert h6 h7 hW kk
  generalize (lwW ["java/lang/IndexOutOfBoundsException"] V fo o) = z
  obtain ⟨zk, V2, fo2⟩ := z
  intro h6 h7 kk hW
  refine lv_istore (lv' := (5, .int zk) :: LV b q (am 0) (ad 0 0) i) hx hb dL_law_509 hl (by decide) rfl (fun ls hl => ?_)
  have hl0 : lv_has ls 9 (LV b q (am 0) (ad 0 0) i) := ⟨hl.1, hl.2.1, fun z hz => hl.2.2 z (List.mem_cons_of_mem _ hz)⟩
  refine lv_aload_n hx hb dL_law_511 rfl (lv_at hl 3 rfl) ?_
  refine rd_ X hX hbl hbA hW.2.2 hl0 1 (by decide) (by omega) hL dL_law_512 dL_law_513 dL_law_515 dL_law_516 dL_law_517 ?_
  refine cVmi_ (As := [.int (xs (i + 1))]) (rest := []) (wc := WM Y am F) (post := WQ Y ad q cL V2 fo2) (w1 := WM Y am F') (ws' := (WL Y ad am q cL V2 fo2 F')) X (kX5_waits l Dd Y am F (xs (i + 1)) rb F' h5) (cwV 1 X.1.2.2.2.2 gL_law_X5_waits rfl rfl rfl (by decide +kernel) ⟨(Nat.le_of_ble_eq_true rfl), (Nat.le_of_ble_eq_true rfl)⟩) hW (wl_m ..) (wl_m ..).symm 0 5 rfl rfl rfl rfl hl.1 rfl (Nat.le_of_ble_eq_true rfl) dL_law_518 ⟨hc2, hs2⟩ (fun H locs hW => ?_)
  refine lv_istore (lv' := (6, .int rb) :: (5, .int zk) :: LV b q (am 0) (ad 0 0) i) hx hb dL_law_521 hl (by decide) rfl (fun ls hl => ?_)
  refine lv_aload_n hx hb dL_law_523 rfl (lv_at hl 4 rfl) ?_
  refine cVmi_ (As := []) (rest := []) (wc := WM Y am F') (post := WQ Y ad q cL V2 fo2) (w1 := WM Y am F') (ws' := (WL Y ad am q cL V2 fo2 F')) X (kX5_thrown l Dd Y am F' (F' 0 0) rfl) (cwV 0 X.1.2.2.2.2 gL_law_X5_thrown rfl rfl rfl (by decide +kernel) ⟨(Nat.le_of_ble_eq_true rfl), (Nat.le_of_ble_eq_true rfl)⟩) hW (wl_m ..) (wl_m ..).symm 0 5 rfl rfl rfl rfl hl.1 rfl (Nat.le_of_ble_eq_true rfl) dL_law_524 ⟨hc2, hs2⟩ (fun H locs hW => ?_)
  refine lv_iload hx hb dL_law_527 (lv_at hl 1 rfl) ?_
  refine lv_icmp_eq (tgt := 534) hx hb dL_law_529 (by decide) (fun _ => ?_) (fun hne => absurd h6 hne)
  have fin : W p l e room_1 s m args below meth c H locs (cells + 1) (slots + 6) Q (F0 m 1718 ls []) := kk H locs ls (cells + 1) (slots + 6) (by omega) (by omega) hW ⟨hl.1, hl.2.1, fun z hz => hl.2.2 z (List.mem_cons_of_mem _ (List.mem_cons_of_mem _ hz))⟩
  refine lv_iload hx hb dL_law_534 (lv_at hl 1 rfl) ?_
  refine lv_if_ne (tgt := 558) hx hb dL_law_536 (by decide) (fun _ => lv_goto (tgt := 1718) hx hb dL_law_558 (by decide) fin) (fun hz => ?_)
  have h8 := h7 hz
  refine lv_aload_n hx hb dL_law_539 rfl (lv_at hl 3 rfl) ?_
  refine lv_iconst (v := 0) hx hb dL_law_540 (by decide) ?_
  refine va_lald hx hb hKL hW.1 65 0 rfl rfl (vp_in_nI (n := 0) (by decide) (by decide)) dL_law_541 ?_
  show W p l e room_1 s m args below meth c H locs (cells + 1) (slots + 6) Q (F0 m 542 ls [.long (fo2 0)])
  rw [show fo2 0 = _ from h8]
  refine lv_iload hx hb dL_law_542 (lv_at hl 0 rfl) ?_
  refine lv_if_eq (tgt := 551) hx hb dL_law_544 (by decide) (fun hb0 => ?_) (fun hb0 => ?_)
  · rw [if_pos hb0]
    refine lv_lconst (v := 0) hx hb dL_law_551 (by decide) ?_
    refine W.lcmp hx hb dL_law_552 ?_
    rw [lg_cmp_self]
    refine lv_if_eq (tgt := 558) hx hb dL_law_553 (by decide) (fun _ => ?_) (fun hne => absurd rfl hne)
    exact lv_goto (tgt := 1718) hx hb dL_law_558 (by decide) fin
  · rw [if_neg hb0]
    refine lv_lconst (v := 1) hx hb dL_law_547 (by decide) ?_
    refine lv_goto (tgt := 552) hx hb dL_law_548 (by decide) ?_
    refine W.lcmp hx hb dL_law_552 ?_
    rw [lg_cmp_self]
    refine lv_if_eq (tgt := 558) hx hb dL_law_553 (by decide) (fun _ => ?_) (fun hne => absurd rfl hne)
    exact lv_goto (tgt := 1718) hx hb dL_law_558 (by decide) fin
set_option maxRecDepth 100000 in
set_option maxHeartbeats 4000000 in
theorem lc_7 (X : cx p s m args c cL_law 9 wsL_law RL Dd Y A) (hst : l.stackTraces = false) {cL : ClassId} (hKL : va_K Dd vwCl [(cL, .long)] s) {b L q i : Nat} {xs : Nat → Int32} {ad : Nat → Nat → Nat} {am : Nat → Nat} (hX : va_X b L xs s s.heap) (hbl : b < s.heap.size) (hbA : ¬ A b) (hi : i + 6 ≤ L) (hL : L ≤ 3072) {V V' : gX} {F F' : gF} {fo fo' : Nat → Int64} (h : LR 7 (xs (i + 1)) (xs (i + 2)) (xs (i + 3)) (xs (i + 4)) (xs (i + 5)) V F fo V' F' fo') (hW : Wd Dd A s.heap (WL Y ad am q cL V fo F) H locs) (hl : lv_has ls 9 (LV b q (am 0) (ad 0 0) i)) (hc : cells + 4 ≤ room_1.cells) (hs : slots + 24 ≤ room_1.slots)
    (kk : ∀ (H : Heap) (locs : List Loc) (ls : Array Slot) (cells' slots' : Nat), cells' ≤ cells + 4 → slots' ≤ slots + 24 → Wd Dd A s.heap (WL Y ad am q cL V' fo' F') H locs → lv_has ls 9 (LV b q (am 0) (ad 0 0) i) → W p l e room_1 s m args below meth c H locs cells' slots' Q (F0 m 1718 ls [])) : W p l e room_1 s m args below meth c H locs cells slots Q (F0 m 561 ls []) := by
  have hx := X.x
  have hb := X.b
  obtain ⟨o, rb, h4, hE, h5, h6, h7, rfl, rfl⟩ := h
  refine lv_aload_n hx hb dL_law_561 rfl (lv_at hl 3 rfl) ?_
  refine rd_ X hX hbl hbA hW.2.2 hl 1 (by decide) (by omega) hL dL_law_562 dL_law_563 dL_law_565 dL_law_566 dL_law_567 ?_
  refine rd_ X hX hbl hbA hW.2.2 hl 2 (by decide) (by omega) hL dL_law_568 dL_law_569 dL_law_571 dL_law_572 dL_law_573 ?_
  refine lv_aload_n hx hb dL_law_574 rfl (lv_at hl 1 rfl) ?_
  have hc2 : cells + 3 ≤ room_1.cells := by omega
  have hs2 : slots + 18 ≤ room_1.slots := by omega
  refine cL_ (As := [.ref (ad 0 0), .int (xs (i + 1)), .int (xs (i + 2)), .ref q]) (rest := []) (wc := WQ Y ad q cL V fo) (post := WM Y am F) (w1 := WQ Y ad q cL (lwI ["java/lang/IndexOutOfBoundsException", "java/lang/IllegalArgumentException"] V fo o).2.1 (lwI ["java/lang/IndexOutOfBoundsException", "java/lang/IllegalArgumentException"] V fo o).2.2) X hKL (kL_least l hst Dd Y cL ad q V fo (xs (i + 1)) (xs (i + 2)) o h4 hE) (vx_cwSW 4 X.1.2.2.2.2 gL_law_L_least rfl rfl rfl (by decide +kernel) ⟨(Nat.le_of_ble_eq_true rfl), (Nat.le_of_ble_eq_true rfl)⟩) hW rfl hl.1 rfl (Nat.le_of_ble_eq_true rfl) dL_law_575 ⟨hc2, hs2⟩ (fun H locs hW => ?_)
  revert h6 h7 hW kk
  generalize (lwI ["java/lang/IndexOutOfBoundsException", "java/lang/IllegalArgumentException"] V fo o) = z
  obtain ⟨zk, V2, fo2⟩ := z
  intro h6 h7 kk hW
  refine lv_istore (lv' := (5, .int zk) :: LV b q (am 0) (ad 0 0) i) hx hb dL_law_578 hl (by decide) rfl (fun ls hl => ?_)
  have hl0 : lv_has ls 9 (LV b q (am 0) (ad 0 0) i) := ⟨hl.1, hl.2.1, fun z hz => hl.2.2 z (List.mem_cons_of_mem _ hz)⟩
  refine lv_aload_n hx hb dL_law_580 rfl (lv_at hl 3 rfl) ?_
  refine rd_ X hX hbl hbA hW.2.2 hl0 1 (by decide) (by omega) hL dL_law_581 dL_law_582 dL_law_584 dL_law_585 dL_law_586 ?_
  refine rd_ X hX hbl hbA hW.2.2 hl0 2 (by decide) (by omega) hL dL_law_587 dL_law_588 dL_law_590 dL_law_591 dL_law_592 ?_
  refine cVmi_ (As := [.int (xs (i + 1)), .int (xs (i + 2))]) (rest := []) (wc := WM Y am F) (post := WQ Y ad q cL V2 fo2) (w1 := WM Y am F') (ws' := (WL Y ad am q cL V2 fo2 F')) X (kX5_least l Dd Y am F (xs (i + 1)) (xs (i + 2)) rb F' h5) (cwV 2 X.1.2.2.2.2 gL_law_X5_least rfl rfl rfl (by decide +kernel) ⟨(Nat.le_of_ble_eq_true rfl), (Nat.le_of_ble_eq_true rfl)⟩) hW (wl_m ..) (wl_m ..).symm 0 5 rfl rfl rfl rfl hl.1 rfl (Nat.le_of_ble_eq_true rfl) dL_law_593 ⟨hc2, hs2⟩ (fun H locs hW => ?_)
  refine lv_istore (lv' := (6, .int rb) :: (5, .int zk) :: LV b q (am 0) (ad 0 0) i) hx hb dL_law_596 hl (by decide) rfl (fun ls hl => ?_)
  refine lv_aload_n hx hb dL_law_598 rfl (lv_at hl 4 rfl) ?_
  refine cVmi_ (As := []) (rest := []) (wc := WM Y am F') (post := WQ Y ad q cL V2 fo2) (w1 := WM Y am F') (ws' := (WL Y ad am q cL V2 fo2 F')) X (kX5_thrown l Dd Y am F' (F' 0 0) rfl) (cwV 0 X.1.2.2.2.2 gL_law_X5_thrown rfl rfl rfl (by decide +kernel) ⟨(Nat.le_of_ble_eq_true rfl), (Nat.le_of_ble_eq_true rfl)⟩) hW (wl_m ..) (wl_m ..).symm 0 5 rfl rfl rfl rfl hl.1 rfl (Nat.le_of_ble_eq_true rfl) dL_law_599 ⟨hc2, hs2⟩ (fun H locs hW => ?_)
  refine lv_iload hx hb dL_law_602 (lv_at hl 1 rfl) ?_
  refine lv_icmp_eq (tgt := 609) hx hb dL_law_604 (by decide) (fun _ => ?_) (fun hne => absurd h6 hne)
  have fin : W p l e room_1 s m args below meth c H locs (cells + 3) (slots + 18) Q (F0 m 1718 ls []) := kk H locs ls (cells + 3) (slots + 18) (by omega) (by omega) hW ⟨hl.1, hl.2.1, fun z hz => hl.2.2 z (List.mem_cons_of_mem _ (List.mem_cons_of_mem _ hz))⟩
  refine lv_iload hx hb dL_law_609 (lv_at hl 1 rfl) ?_
  refine lv_if_ne (tgt := 626) hx hb dL_law_611 (by decide) (fun _ => lv_goto (tgt := 1718) hx hb dL_law_626 (by decide) fin) (fun hz => ?_)
  have h8 := h7 hz
  refine lv_aload_n hx hb dL_law_614 rfl (lv_at hl 3 rfl) ?_
  refine lv_iconst (v := 0) hx hb dL_law_615 (by decide) ?_
  refine va_lald hx hb hKL hW.1 65 0 rfl rfl (vp_in_nI (n := 0) (by decide) (by decide)) dL_law_616 ?_
  show W p l e room_1 s m args below meth c H locs (cells + 3) (slots + 18) Q (F0 m 617 ls [.long (fo2 0)])
  rw [show fo2 0 = _ from h8]
  refine lv_iload hx hb dL_law_617 (lv_at hl 0 rfl) ?_
  refine lv_i2l (v := rb.toInt64) hx hb dL_law_619 rfl ?_
  refine W.lcmp hx hb dL_law_620 ?_
  rw [lg_cmp_self]
  refine lv_if_eq (tgt := 626) hx hb dL_law_621 (by decide) (fun _ => ?_) (fun hne => absurd rfl hne)
  exact lv_goto (tgt := 1718) hx hb dL_law_626 (by decide) fin
set_option maxRecDepth 100000 in
set_option maxHeartbeats 4000000 in
theorem lc_8 (X : cx p s m args c cL_law 9 wsL_law RL Dd Y A) (hst : l.stackTraces = false) {cL : ClassId} (hKL : va_K Dd vwCl [(cL, .long)] s) {b L q i : Nat} {xs : Nat → Int32} {ad : Nat → Nat → Nat} {am : Nat → Nat} (hX : va_X b L xs s s.heap) (hbl : b < s.heap.size) (hbA : ¬ A b) (hi : i + 6 ≤ L) (hL : L ≤ 3072) {V V' : gX} {F F' : gF} {fo fo' : Nat → Int64} (h : LR 8 (xs (i + 1)) (xs (i + 2)) (xs (i + 3)) (xs (i + 4)) (xs (i + 5)) V F fo V' F' fo') (hW : Wd Dd A s.heap (WL Y ad am q cL V fo F) H locs) (hl : lv_has ls 9 (LV b q (am 0) (ad 0 0) i)) (hc : cells + 4 ≤ room_1.cells) (hs : slots + 24 ≤ room_1.slots)
    (kk : ∀ (H : Heap) (locs : List Loc) (ls : Array Slot) (cells' slots' : Nat), cells' ≤ cells + 4 → slots' ≤ slots + 24 → Wd Dd A s.heap (WL Y ad am q cL V' fo' F') H locs → lv_has ls 9 (LV b q (am 0) (ad 0 0) i) → W p l e room_1 s m args below meth c H locs cells' slots' Q (F0 m 1718 ls [])) : W p l e room_1 s m args below meth c H locs cells slots Q (F0 m 629 ls []) := by
  have hx := X.x
  have hb := X.b
  obtain ⟨o, rb, h4, hE, h5, h6, h7, rfl, rfl⟩ := h
  refine lv_aload_n hx hb dL_law_629 rfl (lv_at hl 3 rfl) ?_
  refine rd_ X hX hbl hbA hW.2.2 hl 1 (by decide) (by omega) hL dL_law_630 dL_law_631 dL_law_633 dL_law_634 dL_law_635 ?_
  refine rd_ X hX hbl hbA hW.2.2 hl 2 (by decide) (by omega) hL dL_law_636 dL_law_637 dL_law_639 dL_law_640 dL_law_641 ?_
  refine lv_aload_n hx hb dL_law_642 rfl (lv_at hl 1 rfl) ?_
  have hc2 : cells + 3 ≤ room_1.cells := by omega
  have hs2 : slots + 18 ≤ room_1.slots := by omega
  refine cL_ (As := [.ref (ad 0 0), .int (xs (i + 1)), .int (xs (i + 2)), .ref q]) (rest := []) (wc := WQ Y ad q cL V fo) (post := WM Y am F) (w1 := WQ Y ad q cL (lwI ["java/lang/IndexOutOfBoundsException", "java/lang/IllegalArgumentException"] V fo o).2.1 (lwI ["java/lang/IndexOutOfBoundsException", "java/lang/IllegalArgumentException"] V fo o).2.2) X hKL (kL_looks l hst Dd Y cL ad q V fo (xs (i + 1)) (xs (i + 2)) o h4 hE) (vx_cwSW 4 X.1.2.2.2.2 gL_law_L_looks rfl rfl rfl (by decide +kernel) ⟨(Nat.le_of_ble_eq_true rfl), (Nat.le_of_ble_eq_true rfl)⟩) hW rfl hl.1 rfl (Nat.le_of_ble_eq_true rfl) dL_law_643 ⟨hc2, hs2⟩ (fun H locs hW => ?_)
  revert h6 h7 hW kk
  generalize (lwI ["java/lang/IndexOutOfBoundsException", "java/lang/IllegalArgumentException"] V fo o) = z
  obtain ⟨zk, V2, fo2⟩ := z
  intro h6 h7 kk hW
  refine lv_istore (lv' := (5, .int zk) :: LV b q (am 0) (ad 0 0) i) hx hb dL_law_646 hl (by decide) rfl (fun ls hl => ?_)
  have hl0 : lv_has ls 9 (LV b q (am 0) (ad 0 0) i) := ⟨hl.1, hl.2.1, fun z hz => hl.2.2 z (List.mem_cons_of_mem _ hz)⟩
  refine lv_aload_n hx hb dL_law_648 rfl (lv_at hl 3 rfl) ?_
  refine rd_ X hX hbl hbA hW.2.2 hl0 1 (by decide) (by omega) hL dL_law_649 dL_law_650 dL_law_652 dL_law_653 dL_law_654 ?_
  refine rd_ X hX hbl hbA hW.2.2 hl0 2 (by decide) (by omega) hL dL_law_655 dL_law_656 dL_law_658 dL_law_659 dL_law_660 ?_
  refine cVmi_ (As := [.int (xs (i + 1)), .int (xs (i + 2))]) (rest := []) (wc := WM Y am F) (post := WQ Y ad q cL V2 fo2) (w1 := WM Y am F') (ws' := (WL Y ad am q cL V2 fo2 F')) X (kX5_looks l Dd Y am F (xs (i + 1)) (xs (i + 2)) rb F' h5) (cwV 2 X.1.2.2.2.2 gL_law_X5_looks rfl rfl rfl (by decide +kernel) ⟨(Nat.le_of_ble_eq_true rfl), (Nat.le_of_ble_eq_true rfl)⟩) hW (wl_m ..) (wl_m ..).symm 0 5 rfl rfl rfl rfl hl.1 rfl (Nat.le_of_ble_eq_true rfl) dL_law_661 ⟨hc2, hs2⟩ (fun H locs hW => ?_)
  refine lv_istore (lv' := (6, .int rb) :: (5, .int zk) :: LV b q (am 0) (ad 0 0) i) hx hb dL_law_664 hl (by decide) rfl (fun ls hl => ?_)
  refine lv_aload_n hx hb dL_law_666 rfl (lv_at hl 4 rfl) ?_
  refine cVmi_ (As := []) (rest := []) (wc := WM Y am F') (post := WQ Y ad q cL V2 fo2) (w1 := WM Y am F') (ws' := (WL Y ad am q cL V2 fo2 F')) X (kX5_thrown l Dd Y am F' (F' 0 0) rfl) (cwV 0 X.1.2.2.2.2 gL_law_X5_thrown rfl rfl rfl (by decide +kernel) ⟨(Nat.le_of_ble_eq_true rfl), (Nat.le_of_ble_eq_true rfl)⟩) hW (wl_m ..) (wl_m ..).symm 0 5 rfl rfl rfl rfl hl.1 rfl (Nat.le_of_ble_eq_true rfl) dL_law_667 ⟨hc2, hs2⟩ (fun H locs hW => ?_)
  refine lv_iload hx hb dL_law_670 (lv_at hl 1 rfl) ?_
  refine lv_icmp_eq (tgt := 677) hx hb dL_law_672 (by decide) (fun _ => ?_) (fun hne => absurd h6 hne)
  have fin : W p l e room_1 s m args below meth c H locs (cells + 3) (slots + 18) Q (F0 m 1718 ls []) := kk H locs ls (cells + 3) (slots + 18) (by omega) (by omega) hW ⟨hl.1, hl.2.1, fun z hz => hl.2.2 z (List.mem_cons_of_mem _ (List.mem_cons_of_mem _ hz))⟩
  refine lv_iload hx hb dL_law_677 (lv_at hl 1 rfl) ?_
  refine lv_if_ne (tgt := 694) hx hb dL_law_679 (by decide) (fun _ => lv_goto (tgt := 1718) hx hb dL_law_694 (by decide) fin) (fun hz => ?_)
  have h8 := h7 hz
  refine lv_aload_n hx hb dL_law_682 rfl (lv_at hl 3 rfl) ?_
  refine lv_iconst (v := 0) hx hb dL_law_683 (by decide) ?_
  refine va_lald hx hb hKL hW.1 65 0 rfl rfl (vp_in_nI (n := 0) (by decide) (by decide)) dL_law_684 ?_
  show W p l e room_1 s m args below meth c H locs (cells + 3) (slots + 18) Q (F0 m 685 ls [.long (fo2 0)])
  rw [show fo2 0 = _ from h8]
  refine lv_iload hx hb dL_law_685 (lv_at hl 0 rfl) ?_
  refine lv_i2l (v := rb.toInt64) hx hb dL_law_687 rfl ?_
  refine W.lcmp hx hb dL_law_688 ?_
  rw [lg_cmp_self]
  refine lv_if_eq (tgt := 694) hx hb dL_law_689 (by decide) (fun _ => ?_) (fun hne => absurd rfl hne)
  exact lv_goto (tgt := 1718) hx hb dL_law_694 (by decide) fin
set_option maxRecDepth 100000 in
set_option maxHeartbeats 4000000 in
theorem lc_9 (X : cx p s m args c cL_law 9 wsL_law RL Dd Y A) (hst : l.stackTraces = false) {cL : ClassId} (hKL : va_K Dd vwCl [(cL, .long)] s) {b L q i : Nat} {xs : Nat → Int32} {ad : Nat → Nat → Nat} {am : Nat → Nat} (hX : va_X b L xs s s.heap) (hbl : b < s.heap.size) (hbA : ¬ A b) (hi : i + 6 ≤ L) (hL : L ≤ 3072) {V V' : gX} {F F' : gF} {fo fo' : Nat → Int64} (h : LR 9 (xs (i + 1)) (xs (i + 2)) (xs (i + 3)) (xs (i + 4)) (xs (i + 5)) V F fo V' F' fo') (hW : Wd Dd A s.heap (WL Y ad am q cL V fo F) H locs) (hl : lv_has ls 9 (LV b q (am 0) (ad 0 0) i)) (hc : cells + 4 ≤ room_1.cells) (hs : slots + 24 ≤ room_1.slots)
    (kk : ∀ (H : Heap) (locs : List Loc) (ls : Array Slot) (cells' slots' : Nat), cells' ≤ cells + 4 → slots' ≤ slots + 24 → Wd Dd A s.heap (WL Y ad am q cL V' fo' F') H locs → lv_has ls 9 (LV b q (am 0) (ad 0 0) i) → W p l e room_1 s m args below meth c H locs cells' slots' Q (F0 m 1718 ls [])) : W p l e room_1 s m args below meth c H locs cells slots Q (F0 m 697 ls []) := by
  have hx := X.x
  have hb := X.b
  obtain ⟨r, h4, h5, rfl, rfl⟩ := h
  refine lv_aload_n hx hb dL_law_697 rfl (lv_at hl 3 rfl) ?_
  refine cVmi_ (As := []) (rest := []) (wc := WX Y ad V) (post := [(q, .inl (cL, 1, .inr (.inl fo)))] ++ WM Y am F) (w1 := WX Y ad V) (ws' := (WL Y ad am q cL V fo F)) X (kX4_writes l Dd Y ad V  r h4) (cwV 0 X.1.2.2.2.2 gL_law_X4_writes rfl rfl rfl (by decide +kernel) ⟨(Nat.le_of_ble_eq_true rfl), (Nat.le_of_ble_eq_true rfl)⟩) hW (wl_x ..) (wl_x ..).symm 0 4 rfl rfl rfl rfl hl.1 rfl (Nat.le_of_ble_eq_true rfl) dL_law_698 ⟨Nat.le_trans (Nat.le_add_right _ 4) hc, Nat.le_trans (Nat.le_add_right _ 24) hs⟩ (fun H locs hW => ?_)
  refine lv_aload_n hx hb dL_law_701 rfl (lv_at hl 2 rfl) ?_
  refine cVmi_ (As := []) (rest := [.int r]) (wc := WM Y am F) (post := WQ Y ad q cL V fo) (w1 := WM Y am F') (ws' := (WL Y ad am q cL V fo F')) X (kX5_writes l Dd Y am F  r F' h5) (cwV 0 X.1.2.2.2.2 gL_law_X5_writes rfl rfl rfl (by decide +kernel) ⟨(Nat.le_of_ble_eq_true rfl), (Nat.le_of_ble_eq_true rfl)⟩) hW (wl_m ..) (wl_m ..).symm 0 5 rfl rfl rfl rfl hl.1 rfl (Nat.le_of_ble_eq_true rfl) dL_law_702 ⟨Nat.le_trans (Nat.le_add_right _ 4) hc, Nat.le_trans (Nat.le_add_right _ 24) hs⟩ (fun H locs hW => ?_)
  refine lv_icmp_eq (tgt := 1718) hx hb dL_law_705 (by decide) (fun _ => ?_) (fun hne => absurd rfl hne)
  exact kk H locs ls cells slots (Nat.le_add_right _ _) (Nat.le_add_right _ _) hW hl
set_option maxRecDepth 100000 in
set_option maxHeartbeats 4000000 in
theorem lc_10 (X : cx p s m args c cL_law 9 wsL_law RL Dd Y A) (hst : l.stackTraces = false) {cL : ClassId} (hKL : va_K Dd vwCl [(cL, .long)] s) {b L q i : Nat} {xs : Nat → Int32} {ad : Nat → Nat → Nat} {am : Nat → Nat} (hX : va_X b L xs s s.heap) (hbl : b < s.heap.size) (hbA : ¬ A b) (hi : i + 6 ≤ L) (hL : L ≤ 3072) {V V' : gX} {F F' : gF} {fo fo' : Nat → Int64} (h : LR 10 (xs (i + 1)) (xs (i + 2)) (xs (i + 3)) (xs (i + 4)) (xs (i + 5)) V F fo V' F' fo') (hW : Wd Dd A s.heap (WL Y ad am q cL V fo F) H locs) (hl : lv_has ls 9 (LV b q (am 0) (ad 0 0) i)) (hc : cells + 4 ≤ room_1.cells) (hs : slots + 24 ≤ room_1.slots)
    (kk : ∀ (H : Heap) (locs : List Loc) (ls : Array Slot) (cells' slots' : Nat), cells' ≤ cells + 4 → slots' ≤ slots + 24 → Wd Dd A s.heap (WL Y ad am q cL V' fo' F') H locs → lv_has ls 9 (LV b q (am 0) (ad 0 0) i) → W p l e room_1 s m args below meth c H locs cells' slots' Q (F0 m 1718 ls [])) : W p l e room_1 s m args below meth c H locs cells slots Q (F0 m 710 ls []) := by
  have hx := X.x
  have hb := X.b
  obtain ⟨o, rb, h4, hE, h5, h6, h7, rfl, rfl⟩ := h
  refine lv_aload_n hx hb dL_law_710 rfl (lv_at hl 3 rfl) ?_
  refine rd_ X hX hbl hbA hW.2.2 hl 1 (by decide) (by omega) hL dL_law_711 dL_law_712 dL_law_714 dL_law_715 dL_law_716 ?_
  refine lv_aload_n hx hb dL_law_717 rfl (lv_at hl 1 rfl) ?_
  have hc2 : cells + 1 ≤ room_1.cells := by omega
  have hs2 : slots + 6 ≤ room_1.slots := by omega
  refine cL_ (As := [.ref (ad 0 0), .int (xs (i + 1)), .ref q]) (rest := []) (wc := WQ Y ad q cL V fo) (post := WM Y am F) (w1 := WQ Y ad q cL (lwI ["java/lang/IndexOutOfBoundsException"] V fo o).2.1 (lwI ["java/lang/IndexOutOfBoundsException"] V fo o).2.2) X hKL (kL_above l hst Dd Y cL ad q V fo (xs (i + 1)) o h4 hE) (vx_cwSW 3 X.1.2.2.2.2 gL_law_L_above rfl rfl rfl (by decide +kernel) ⟨(Nat.le_of_ble_eq_true rfl), (Nat.le_of_ble_eq_true rfl)⟩) hW rfl hl.1 rfl (Nat.le_of_ble_eq_true rfl) dL_law_718 ⟨hc2, hs2⟩ (fun H locs hW => ?_)
  revert h6 h7 hW kk
  generalize (lwI ["java/lang/IndexOutOfBoundsException"] V fo o) = z
  obtain ⟨zk, V2, fo2⟩ := z
  intro h6 h7 kk hW
  refine lv_istore (lv' := (5, .int zk) :: LV b q (am 0) (ad 0 0) i) hx hb dL_law_721 hl (by decide) rfl (fun ls hl => ?_)
  have hl0 : lv_has ls 9 (LV b q (am 0) (ad 0 0) i) := ⟨hl.1, hl.2.1, fun z hz => hl.2.2 z (List.mem_cons_of_mem _ hz)⟩
  refine lv_aload_n hx hb dL_law_723 rfl (lv_at hl 3 rfl) ?_
  refine rd_ X hX hbl hbA hW.2.2 hl0 1 (by decide) (by omega) hL dL_law_724 dL_law_725 dL_law_727 dL_law_728 dL_law_729 ?_
  refine cVmi_ (As := [.int (xs (i + 1))]) (rest := []) (wc := WM Y am F) (post := WQ Y ad q cL V2 fo2) (w1 := WM Y am F') (ws' := (WL Y ad am q cL V2 fo2 F')) X (kX5_above l Dd Y am F (xs (i + 1)) rb F' h5) (cwV 1 X.1.2.2.2.2 gL_law_X5_above rfl rfl rfl (by decide +kernel) ⟨(Nat.le_of_ble_eq_true rfl), (Nat.le_of_ble_eq_true rfl)⟩) hW (wl_m ..) (wl_m ..).symm 0 5 rfl rfl rfl rfl hl.1 rfl (Nat.le_of_ble_eq_true rfl) dL_law_730 ⟨hc2, hs2⟩ (fun H locs hW => ?_)
  refine lv_istore (lv' := (6, .int rb) :: (5, .int zk) :: LV b q (am 0) (ad 0 0) i) hx hb dL_law_733 hl (by decide) rfl (fun ls hl => ?_)
  refine lv_aload_n hx hb dL_law_735 rfl (lv_at hl 4 rfl) ?_
  refine cVmi_ (As := []) (rest := []) (wc := WM Y am F') (post := WQ Y ad q cL V2 fo2) (w1 := WM Y am F') (ws' := (WL Y ad am q cL V2 fo2 F')) X (kX5_thrown l Dd Y am F' (F' 0 0) rfl) (cwV 0 X.1.2.2.2.2 gL_law_X5_thrown rfl rfl rfl (by decide +kernel) ⟨(Nat.le_of_ble_eq_true rfl), (Nat.le_of_ble_eq_true rfl)⟩) hW (wl_m ..) (wl_m ..).symm 0 5 rfl rfl rfl rfl hl.1 rfl (Nat.le_of_ble_eq_true rfl) dL_law_736 ⟨hc2, hs2⟩ (fun H locs hW => ?_)
  refine lv_iload hx hb dL_law_739 (lv_at hl 1 rfl) ?_
  refine lv_icmp_eq (tgt := 746) hx hb dL_law_741 (by decide) (fun _ => ?_) (fun hne => absurd h6 hne)
  have fin : W p l e room_1 s m args below meth c H locs (cells + 1) (slots + 6) Q (F0 m 1718 ls []) := kk H locs ls (cells + 1) (slots + 6) (by omega) (by omega) hW ⟨hl.1, hl.2.1, fun z hz => hl.2.2 z (List.mem_cons_of_mem _ (List.mem_cons_of_mem _ hz))⟩
  refine lv_iload hx hb dL_law_746 (lv_at hl 1 rfl) ?_
  refine lv_if_ne (tgt := 763) hx hb dL_law_748 (by decide) (fun _ => lv_goto (tgt := 1718) hx hb dL_law_763 (by decide) fin) (fun hz => ?_)
  have h8 := h7 hz
  refine lv_aload_n hx hb dL_law_751 rfl (lv_at hl 3 rfl) ?_
  refine lv_iconst (v := 0) hx hb dL_law_752 (by decide) ?_
  refine va_lald hx hb hKL hW.1 65 0 rfl rfl (vp_in_nI (n := 0) (by decide) (by decide)) dL_law_753 ?_
  show W p l e room_1 s m args below meth c H locs (cells + 1) (slots + 6) Q (F0 m 754 ls [.long (fo2 0)])
  rw [show fo2 0 = _ from h8]
  refine lv_iload hx hb dL_law_754 (lv_at hl 0 rfl) ?_
  refine lv_i2l (v := rb.toInt64) hx hb dL_law_756 rfl ?_
  refine W.lcmp hx hb dL_law_757 ?_
  rw [lg_cmp_self]
  refine lv_if_eq (tgt := 763) hx hb dL_law_758 (by decide) (fun _ => ?_) (fun hne => absurd rfl hne)
  exact lv_goto (tgt := 1718) hx hb dL_law_763 (by decide) fin
set_option maxRecDepth 100000 in
set_option maxHeartbeats 4000000 in
theorem lc_11 (X : cx p s m args c cL_law 9 wsL_law RL Dd Y A) (hst : l.stackTraces = false) {cL : ClassId} (hKL : va_K Dd vwCl [(cL, .long)] s) {b L q i : Nat} {xs : Nat → Int32} {ad : Nat → Nat → Nat} {am : Nat → Nat} (hX : va_X b L xs s s.heap) (hbl : b < s.heap.size) (hbA : ¬ A b) (hi : i + 6 ≤ L) (hL : L ≤ 3072) {V V' : gX} {F F' : gF} {fo fo' : Nat → Int64} (h : LR 11 (xs (i + 1)) (xs (i + 2)) (xs (i + 3)) (xs (i + 4)) (xs (i + 5)) V F fo V' F' fo') (hW : Wd Dd A s.heap (WL Y ad am q cL V fo F) H locs) (hl : lv_has ls 9 (LV b q (am 0) (ad 0 0) i)) (hc : cells + 4 ≤ room_1.cells) (hs : slots + 24 ≤ room_1.slots)
    (kk : ∀ (H : Heap) (locs : List Loc) (ls : Array Slot) (cells' slots' : Nat), cells' ≤ cells + 4 → slots' ≤ slots + 24 → Wd Dd A s.heap (WL Y ad am q cL V' fo' F') H locs → lv_has ls 9 (LV b q (am 0) (ad 0 0) i) → W p l e room_1 s m args below meth c H locs cells' slots' Q (F0 m 1718 ls [])) : W p l e room_1 s m args below meth c H locs cells slots Q (F0 m 766 ls []) := by
  have hx := X.x
  have hb := X.b
  obtain ⟨o, rb, h4, hE, h5, h6, h7, rfl, rfl⟩ := h
  refine lv_aload_n hx hb dL_law_766 rfl (lv_at hl 3 rfl) ?_
  refine rd_ X hX hbl hbA hW.2.2 hl 1 (by decide) (by omega) hL dL_law_767 dL_law_768 dL_law_770 dL_law_771 dL_law_772 ?_
  refine lv_aload_n hx hb dL_law_773 rfl (lv_at hl 1 rfl) ?_
  have hc2 : cells + 1 ≤ room_1.cells := by omega
  have hs2 : slots + 6 ≤ room_1.slots := by omega
  refine cL_ (As := [.ref (ad 0 0), .int (xs (i + 1)), .ref q]) (rest := []) (wc := WQ Y ad q cL V fo) (post := WM Y am F) (w1 := WQ Y ad q cL (lwI ["java/lang/IndexOutOfBoundsException"] V fo o).2.1 (lwI ["java/lang/IndexOutOfBoundsException"] V fo o).2.2) X hKL (kL_lessBehind l hst Dd Y cL ad q V fo (xs (i + 1)) o h4 hE) (vx_cwSW 3 X.1.2.2.2.2 gL_law_L_lessBehind rfl rfl rfl (by decide +kernel) ⟨(Nat.le_of_ble_eq_true rfl), (Nat.le_of_ble_eq_true rfl)⟩) hW rfl hl.1 rfl (Nat.le_of_ble_eq_true rfl) dL_law_774 ⟨hc2, hs2⟩ (fun H locs hW => ?_)
  revert h6 h7 hW kk
  generalize (lwI ["java/lang/IndexOutOfBoundsException"] V fo o) = z
  obtain ⟨zk, V2, fo2⟩ := z
  intro h6 h7 kk hW
  refine lv_istore (lv' := (5, .int zk) :: LV b q (am 0) (ad 0 0) i) hx hb dL_law_777 hl (by decide) rfl (fun ls hl => ?_)
  have hl0 : lv_has ls 9 (LV b q (am 0) (ad 0 0) i) := ⟨hl.1, hl.2.1, fun z hz => hl.2.2 z (List.mem_cons_of_mem _ hz)⟩
  refine lv_aload_n hx hb dL_law_779 rfl (lv_at hl 3 rfl) ?_
  refine rd_ X hX hbl hbA hW.2.2 hl0 1 (by decide) (by omega) hL dL_law_780 dL_law_781 dL_law_783 dL_law_784 dL_law_785 ?_
  refine cVmi_ (As := [.int (xs (i + 1))]) (rest := []) (wc := WM Y am F) (post := WQ Y ad q cL V2 fo2) (w1 := WM Y am F') (ws' := (WL Y ad am q cL V2 fo2 F')) X (kX5_lessBehind l Dd Y am F (xs (i + 1)) rb F' h5) (cwV 1 X.1.2.2.2.2 gL_law_X5_lessBehind rfl rfl rfl (by decide +kernel) ⟨(Nat.le_of_ble_eq_true rfl), (Nat.le_of_ble_eq_true rfl)⟩) hW (wl_m ..) (wl_m ..).symm 0 5 rfl rfl rfl rfl hl.1 rfl (Nat.le_of_ble_eq_true rfl) dL_law_786 ⟨hc2, hs2⟩ (fun H locs hW => ?_)
  refine lv_istore (lv' := (6, .int rb) :: (5, .int zk) :: LV b q (am 0) (ad 0 0) i) hx hb dL_law_789 hl (by decide) rfl (fun ls hl => ?_)
  refine lv_aload_n hx hb dL_law_791 rfl (lv_at hl 4 rfl) ?_
  refine cVmi_ (As := []) (rest := []) (wc := WM Y am F') (post := WQ Y ad q cL V2 fo2) (w1 := WM Y am F') (ws' := (WL Y ad am q cL V2 fo2 F')) X (kX5_thrown l Dd Y am F' (F' 0 0) rfl) (cwV 0 X.1.2.2.2.2 gL_law_X5_thrown rfl rfl rfl (by decide +kernel) ⟨(Nat.le_of_ble_eq_true rfl), (Nat.le_of_ble_eq_true rfl)⟩) hW (wl_m ..) (wl_m ..).symm 0 5 rfl rfl rfl rfl hl.1 rfl (Nat.le_of_ble_eq_true rfl) dL_law_792 ⟨hc2, hs2⟩ (fun H locs hW => ?_)
  refine lv_iload hx hb dL_law_795 (lv_at hl 1 rfl) ?_
  refine lv_icmp_eq (tgt := 802) hx hb dL_law_797 (by decide) (fun _ => ?_) (fun hne => absurd h6 hne)
  have fin : W p l e room_1 s m args below meth c H locs (cells + 1) (slots + 6) Q (F0 m 1718 ls []) := kk H locs ls (cells + 1) (slots + 6) (by omega) (by omega) hW ⟨hl.1, hl.2.1, fun z hz => hl.2.2 z (List.mem_cons_of_mem _ (List.mem_cons_of_mem _ hz))⟩
  refine lv_iload hx hb dL_law_802 (lv_at hl 1 rfl) ?_
  refine lv_if_ne (tgt := 819) hx hb dL_law_804 (by decide) (fun _ => lv_goto (tgt := 1718) hx hb dL_law_819 (by decide) fin) (fun hz => ?_)
  have h8 := h7 hz
  refine lv_aload_n hx hb dL_law_807 rfl (lv_at hl 3 rfl) ?_
  refine lv_iconst (v := 0) hx hb dL_law_808 (by decide) ?_
  refine va_lald hx hb hKL hW.1 65 0 rfl rfl (vp_in_nI (n := 0) (by decide) (by decide)) dL_law_809 ?_
  show W p l e room_1 s m args below meth c H locs (cells + 1) (slots + 6) Q (F0 m 810 ls [.long (fo2 0)])
  rw [show fo2 0 = _ from h8]
  refine lv_iload hx hb dL_law_810 (lv_at hl 0 rfl) ?_
  refine lv_i2l (v := rb.toInt64) hx hb dL_law_812 rfl ?_
  refine W.lcmp hx hb dL_law_813 ?_
  rw [lg_cmp_self]
  refine lv_if_eq (tgt := 819) hx hb dL_law_814 (by decide) (fun _ => ?_) (fun hne => absurd rfl hne)
  exact lv_goto (tgt := 1718) hx hb dL_law_819 (by decide) fin
set_option maxRecDepth 100000 in
set_option maxHeartbeats 4000000 in
theorem lc_12 (X : cx p s m args c cL_law 9 wsL_law RL Dd Y A) (hst : l.stackTraces = false) {cL : ClassId} (hKL : va_K Dd vwCl [(cL, .long)] s) {b L q i : Nat} {xs : Nat → Int32} {ad : Nat → Nat → Nat} {am : Nat → Nat} (hX : va_X b L xs s s.heap) (hbl : b < s.heap.size) (hbA : ¬ A b) (hi : i + 6 ≤ L) (hL : L ≤ 3072) {V V' : gX} {F F' : gF} {fo fo' : Nat → Int64} (h : LR 12 (xs (i + 1)) (xs (i + 2)) (xs (i + 3)) (xs (i + 4)) (xs (i + 5)) V F fo V' F' fo') (hW : Wd Dd A s.heap (WL Y ad am q cL V fo F) H locs) (hl : lv_has ls 9 (LV b q (am 0) (ad 0 0) i)) (hc : cells + 4 ≤ room_1.cells) (hs : slots + 24 ≤ room_1.slots)
    (kk : ∀ (H : Heap) (locs : List Loc) (ls : Array Slot) (cells' slots' : Nat), cells' ≤ cells + 4 → slots' ≤ slots + 24 → Wd Dd A s.heap (WL Y ad am q cL V' fo' F') H locs → lv_has ls 9 (LV b q (am 0) (ad 0 0) i) → W p l e room_1 s m args below meth c H locs cells' slots' Q (F0 m 1718 ls [])) : W p l e room_1 s m args below meth c H locs cells slots Q (F0 m 822 ls []) := by
  have hx := X.x
  have hb := X.b
  obtain ⟨o, rb, h4, hE, h5, h6, h7, rfl, rfl⟩ := h
  refine lv_aload_n hx hb dL_law_822 rfl (lv_at hl 3 rfl) ?_
  refine rd_ X hX hbl hbA hW.2.2 hl 1 (by decide) (by omega) hL dL_law_823 dL_law_824 dL_law_826 dL_law_827 dL_law_828 ?_
  refine lv_aload_n hx hb dL_law_829 rfl (lv_at hl 1 rfl) ?_
  have hc2 : cells + 1 ≤ room_1.cells := by omega
  have hs2 : slots + 6 ≤ room_1.slots := by omega
  refine cL_ (As := [.ref (ad 0 0), .int (xs (i + 1)), .ref q]) (rest := []) (wc := WQ Y ad q cL V fo) (post := WM Y am F) (w1 := WQ Y ad q cL (lwI ["java/lang/IndexOutOfBoundsException"] V fo o).2.1 (lwI ["java/lang/IndexOutOfBoundsException"] V fo o).2.2) X hKL (kL_rules l hst Dd Y cL ad q V fo (xs (i + 1)) o h4 hE) (vx_cwSW 3 X.1.2.2.2.2 gL_law_L_rules rfl rfl rfl (by decide +kernel) ⟨(Nat.le_of_ble_eq_true rfl), (Nat.le_of_ble_eq_true rfl)⟩) hW rfl hl.1 rfl (Nat.le_of_ble_eq_true rfl) dL_law_830 ⟨hc2, hs2⟩ (fun H locs hW => ?_)
  revert h6 h7 hW kk
  generalize (lwI ["java/lang/IndexOutOfBoundsException"] V fo o) = z
  obtain ⟨zk, V2, fo2⟩ := z
  intro h6 h7 kk hW
  refine lv_istore (lv' := (5, .int zk) :: LV b q (am 0) (ad 0 0) i) hx hb dL_law_833 hl (by decide) rfl (fun ls hl => ?_)
  have hl0 : lv_has ls 9 (LV b q (am 0) (ad 0 0) i) := ⟨hl.1, hl.2.1, fun z hz => hl.2.2 z (List.mem_cons_of_mem _ hz)⟩
  refine lv_aload_n hx hb dL_law_835 rfl (lv_at hl 3 rfl) ?_
  refine rd_ X hX hbl hbA hW.2.2 hl0 1 (by decide) (by omega) hL dL_law_836 dL_law_837 dL_law_839 dL_law_840 dL_law_841 ?_
  refine cVmi_ (As := [.int (xs (i + 1))]) (rest := []) (wc := WM Y am F) (post := WQ Y ad q cL V2 fo2) (w1 := WM Y am F') (ws' := (WL Y ad am q cL V2 fo2 F')) X (kX5_rules l Dd Y am F (xs (i + 1)) rb F' h5) (cwV 1 X.1.2.2.2.2 gL_law_X5_rules rfl rfl rfl (by decide +kernel) ⟨(Nat.le_of_ble_eq_true rfl), (Nat.le_of_ble_eq_true rfl)⟩) hW (wl_m ..) (wl_m ..).symm 0 5 rfl rfl rfl rfl hl.1 rfl (Nat.le_of_ble_eq_true rfl) dL_law_842 ⟨hc2, hs2⟩ (fun H locs hW => ?_)
  refine lv_istore (lv' := (6, .int rb) :: (5, .int zk) :: LV b q (am 0) (ad 0 0) i) hx hb dL_law_845 hl (by decide) rfl (fun ls hl => ?_)
  refine lv_aload_n hx hb dL_law_847 rfl (lv_at hl 4 rfl) ?_
  refine cVmi_ (As := []) (rest := []) (wc := WM Y am F') (post := WQ Y ad q cL V2 fo2) (w1 := WM Y am F') (ws' := (WL Y ad am q cL V2 fo2 F')) X (kX5_thrown l Dd Y am F' (F' 0 0) rfl) (cwV 0 X.1.2.2.2.2 gL_law_X5_thrown rfl rfl rfl (by decide +kernel) ⟨(Nat.le_of_ble_eq_true rfl), (Nat.le_of_ble_eq_true rfl)⟩) hW (wl_m ..) (wl_m ..).symm 0 5 rfl rfl rfl rfl hl.1 rfl (Nat.le_of_ble_eq_true rfl) dL_law_848 ⟨hc2, hs2⟩ (fun H locs hW => ?_)
  refine lv_iload hx hb dL_law_851 (lv_at hl 1 rfl) ?_
  refine lv_icmp_eq (tgt := 858) hx hb dL_law_853 (by decide) (fun _ => ?_) (fun hne => absurd h6 hne)
  have fin : W p l e room_1 s m args below meth c H locs (cells + 1) (slots + 6) Q (F0 m 1718 ls []) := kk H locs ls (cells + 1) (slots + 6) (by omega) (by omega) hW ⟨hl.1, hl.2.1, fun z hz => hl.2.2 z (List.mem_cons_of_mem _ (List.mem_cons_of_mem _ hz))⟩
  refine lv_iload hx hb dL_law_858 (lv_at hl 1 rfl) ?_
  refine lv_if_ne (tgt := 875) hx hb dL_law_860 (by decide) (fun _ => lv_goto (tgt := 1718) hx hb dL_law_875 (by decide) fin) (fun hz => ?_)
  have h8 := h7 hz
  refine lv_aload_n hx hb dL_law_863 rfl (lv_at hl 3 rfl) ?_
  refine lv_iconst (v := 0) hx hb dL_law_864 (by decide) ?_
  refine va_lald hx hb hKL hW.1 65 0 rfl rfl (vp_in_nI (n := 0) (by decide) (by decide)) dL_law_865 ?_
  show W p l e room_1 s m args below meth c H locs (cells + 1) (slots + 6) Q (F0 m 866 ls [.long (fo2 0)])
  rw [show fo2 0 = _ from h8]
  refine lv_iload hx hb dL_law_866 (lv_at hl 0 rfl) ?_
  refine lv_i2l (v := rb.toInt64) hx hb dL_law_868 rfl ?_
  refine W.lcmp hx hb dL_law_869 ?_
  rw [lg_cmp_self]
  refine lv_if_eq (tgt := 875) hx hb dL_law_870 (by decide) (fun _ => ?_) (fun hne => absurd rfl hne)
  exact lv_goto (tgt := 1718) hx hb dL_law_875 (by decide) fin
set_option maxRecDepth 100000 in
set_option maxHeartbeats 4000000 in
theorem lc_13 (X : cx p s m args c cL_law 9 wsL_law RL Dd Y A) (hst : l.stackTraces = false) {cL : ClassId} (hKL : va_K Dd vwCl [(cL, .long)] s) {b L q i : Nat} {xs : Nat → Int32} {ad : Nat → Nat → Nat} {am : Nat → Nat} (hX : va_X b L xs s s.heap) (hbl : b < s.heap.size) (hbA : ¬ A b) (hi : i + 6 ≤ L) (hL : L ≤ 3072) {V V' : gX} {F F' : gF} {fo fo' : Nat → Int64} (h : LR 13 (xs (i + 1)) (xs (i + 2)) (xs (i + 3)) (xs (i + 4)) (xs (i + 5)) V F fo V' F' fo') (hW : Wd Dd A s.heap (WL Y ad am q cL V fo F) H locs) (hl : lv_has ls 9 (LV b q (am 0) (ad 0 0) i)) (hc : cells + 4 ≤ room_1.cells) (hs : slots + 24 ≤ room_1.slots)
    (kk : ∀ (H : Heap) (locs : List Loc) (ls : Array Slot) (cells' slots' : Nat), cells' ≤ cells + 4 → slots' ≤ slots + 24 → Wd Dd A s.heap (WL Y ad am q cL V' fo' F') H locs → lv_has ls 9 (LV b q (am 0) (ad 0 0) i) → W p l e room_1 s m args below meth c H locs cells' slots' Q (F0 m 1718 ls [])) : W p l e room_1 s m args below meth c H locs cells slots Q (F0 m 878 ls []) := by
  have hx := X.x
  have hb := X.b
  obtain ⟨o, rb, h4, hE, h5, h6, h7, rfl, rfl⟩ := h
  refine lv_aload_n hx hb dL_law_878 rfl (lv_at hl 3 rfl) ?_
  refine rd_ X hX hbl hbA hW.2.2 hl 1 (by decide) (by omega) hL dL_law_879 dL_law_880 dL_law_882 dL_law_883 dL_law_884 ?_
  refine rd_ X hX hbl hbA hW.2.2 hl 2 (by decide) (by omega) hL dL_law_885 dL_law_886 dL_law_888 dL_law_889 dL_law_890 ?_
  refine lv_aload_n hx hb dL_law_891 rfl (lv_at hl 1 rfl) ?_
  have hc2 : cells + 3 ≤ room_1.cells := by omega
  have hs2 : slots + 18 ≤ room_1.slots := by omega
  refine cL_ (As := [.ref (ad 0 0), .int (xs (i + 1)), .int (xs (i + 2)), .ref q]) (rest := []) (wc := WQ Y ad q cL V fo) (post := WM Y am F) (w1 := WQ Y ad q cL (lwI ["java/lang/IndexOutOfBoundsException", "java/lang/IllegalArgumentException"] V fo o).2.1 (lwI ["java/lang/IndexOutOfBoundsException", "java/lang/IllegalArgumentException"] V fo o).2.2) X hKL (kL_sum l hst Dd Y cL ad q V fo (xs (i + 1)) (xs (i + 2)) o h4 hE) (vx_cwSW 4 X.1.2.2.2.2 gL_law_L_sum rfl rfl rfl (by decide +kernel) ⟨(Nat.le_of_ble_eq_true rfl), (Nat.le_of_ble_eq_true rfl)⟩) hW rfl hl.1 rfl (Nat.le_of_ble_eq_true rfl) dL_law_892 ⟨hc2, hs2⟩ (fun H locs hW => ?_)
  revert h6 h7 hW kk
  generalize (lwI ["java/lang/IndexOutOfBoundsException", "java/lang/IllegalArgumentException"] V fo o) = z
  obtain ⟨zk, V2, fo2⟩ := z
  intro h6 h7 kk hW
  refine lv_istore (lv' := (5, .int zk) :: LV b q (am 0) (ad 0 0) i) hx hb dL_law_895 hl (by decide) rfl (fun ls hl => ?_)
  have hl0 : lv_has ls 9 (LV b q (am 0) (ad 0 0) i) := ⟨hl.1, hl.2.1, fun z hz => hl.2.2 z (List.mem_cons_of_mem _ hz)⟩
  refine lv_aload_n hx hb dL_law_897 rfl (lv_at hl 3 rfl) ?_
  refine rd_ X hX hbl hbA hW.2.2 hl0 1 (by decide) (by omega) hL dL_law_898 dL_law_899 dL_law_901 dL_law_902 dL_law_903 ?_
  refine rd_ X hX hbl hbA hW.2.2 hl0 2 (by decide) (by omega) hL dL_law_904 dL_law_905 dL_law_907 dL_law_908 dL_law_909 ?_
  refine cVmi_ (As := [.int (xs (i + 1)), .int (xs (i + 2))]) (rest := []) (wc := WM Y am F) (post := WQ Y ad q cL V2 fo2) (w1 := WM Y am F') (ws' := (WL Y ad am q cL V2 fo2 F')) X (kX5_sum l Dd Y am F (xs (i + 1)) (xs (i + 2)) rb F' h5) (cwV 2 X.1.2.2.2.2 gL_law_X5_sum rfl rfl rfl (by decide +kernel) ⟨(Nat.le_of_ble_eq_true rfl), (Nat.le_of_ble_eq_true rfl)⟩) hW (wl_m ..) (wl_m ..).symm 0 5 rfl rfl rfl rfl hl.1 rfl (Nat.le_of_ble_eq_true rfl) dL_law_910 ⟨hc2, hs2⟩ (fun H locs hW => ?_)
  refine lv_istore (lv' := (6, .int rb) :: (5, .int zk) :: LV b q (am 0) (ad 0 0) i) hx hb dL_law_913 hl (by decide) rfl (fun ls hl => ?_)
  refine lv_aload_n hx hb dL_law_915 rfl (lv_at hl 4 rfl) ?_
  refine cVmi_ (As := []) (rest := []) (wc := WM Y am F') (post := WQ Y ad q cL V2 fo2) (w1 := WM Y am F') (ws' := (WL Y ad am q cL V2 fo2 F')) X (kX5_thrown l Dd Y am F' (F' 0 0) rfl) (cwV 0 X.1.2.2.2.2 gL_law_X5_thrown rfl rfl rfl (by decide +kernel) ⟨(Nat.le_of_ble_eq_true rfl), (Nat.le_of_ble_eq_true rfl)⟩) hW (wl_m ..) (wl_m ..).symm 0 5 rfl rfl rfl rfl hl.1 rfl (Nat.le_of_ble_eq_true rfl) dL_law_916 ⟨hc2, hs2⟩ (fun H locs hW => ?_)
  refine lv_iload hx hb dL_law_919 (lv_at hl 1 rfl) ?_
  refine lv_icmp_eq (tgt := 926) hx hb dL_law_921 (by decide) (fun _ => ?_) (fun hne => absurd h6 hne)
  have fin : W p l e room_1 s m args below meth c H locs (cells + 3) (slots + 18) Q (F0 m 1718 ls []) := kk H locs ls (cells + 3) (slots + 18) (by omega) (by omega) hW ⟨hl.1, hl.2.1, fun z hz => hl.2.2 z (List.mem_cons_of_mem _ (List.mem_cons_of_mem _ hz))⟩
  refine lv_iload hx hb dL_law_926 (lv_at hl 1 rfl) ?_
  refine lv_if_ne (tgt := 943) hx hb dL_law_928 (by decide) (fun _ => lv_goto (tgt := 1718) hx hb dL_law_943 (by decide) fin) (fun hz => ?_)
  have h8 := h7 hz
  refine lv_aload_n hx hb dL_law_931 rfl (lv_at hl 3 rfl) ?_
  refine lv_iconst (v := 0) hx hb dL_law_932 (by decide) ?_
  refine va_lald hx hb hKL hW.1 65 0 rfl rfl (vp_in_nI (n := 0) (by decide) (by decide)) dL_law_933 ?_
  show W p l e room_1 s m args below meth c H locs (cells + 3) (slots + 18) Q (F0 m 934 ls [.long (fo2 0)])
  rw [show fo2 0 = _ from h8]
  refine lv_iload hx hb dL_law_934 (lv_at hl 0 rfl) ?_
  refine lv_i2l (v := rb.toInt64) hx hb dL_law_936 rfl ?_
  refine W.lcmp hx hb dL_law_937 ?_
  rw [lg_cmp_self]
  refine lv_if_eq (tgt := 943) hx hb dL_law_938 (by decide) (fun _ => ?_) (fun hne => absurd rfl hne)
  exact lv_goto (tgt := 1718) hx hb dL_law_943 (by decide) fin
set_option maxRecDepth 100000 in
set_option maxHeartbeats 4000000 in
theorem lc_14 (X : cx p s m args c cL_law 9 wsL_law RL Dd Y A) (hst : l.stackTraces = false) {cL : ClassId} (hKL : va_K Dd vwCl [(cL, .long)] s) {b L q i : Nat} {xs : Nat → Int32} {ad : Nat → Nat → Nat} {am : Nat → Nat} (hX : va_X b L xs s s.heap) (hbl : b < s.heap.size) (hbA : ¬ A b) (hi : i + 6 ≤ L) (hL : L ≤ 3072) {V V' : gX} {F F' : gF} {fo fo' : Nat → Int64} (h : LR 14 (xs (i + 1)) (xs (i + 2)) (xs (i + 3)) (xs (i + 4)) (xs (i + 5)) V F fo V' F' fo') (hW : Wd Dd A s.heap (WL Y ad am q cL V fo F) H locs) (hl : lv_has ls 9 (LV b q (am 0) (ad 0 0) i)) (hc : cells + 4 ≤ room_1.cells) (hs : slots + 24 ≤ room_1.slots)
    (kk : ∀ (H : Heap) (locs : List Loc) (ls : Array Slot) (cells' slots' : Nat), cells' ≤ cells + 4 → slots' ≤ slots + 24 → Wd Dd A s.heap (WL Y ad am q cL V' fo' F') H locs → lv_has ls 9 (LV b q (am 0) (ad 0 0) i) → W p l e room_1 s m args below meth c H locs cells' slots' Q (F0 m 1718 ls [])) : W p l e room_1 s m args below meth c H locs cells slots Q (F0 m 946 ls []) := by
  have hx := X.x
  have hb := X.b
  obtain ⟨o, rb, h4, hE, h5, h6, h7, rfl, rfl⟩ := h
  refine lv_aload_n hx hb dL_law_946 rfl (lv_at hl 3 rfl) ?_
  refine rd_ X hX hbl hbA hW.2.2 hl 1 (by decide) (by omega) hL dL_law_947 dL_law_948 dL_law_950 dL_law_951 dL_law_952 ?_
  refine lv_aload_n hx hb dL_law_953 rfl (lv_at hl 1 rfl) ?_
  have hc2 : cells + 1 ≤ room_1.cells := by omega
  have hs2 : slots + 6 ≤ room_1.slots := by omega
  refine cL_ (As := [.ref (ad 0 0), .int (xs (i + 1)), .ref q]) (rest := []) (wc := WQ Y ad q cL V fo) (post := WM Y am F) (w1 := WQ Y ad q cL (lwI ["java/util/NoSuchElementException"] V fo o).2.1 (lwI ["java/util/NoSuchElementException"] V fo o).2.2) X hKL (kL_kept l hst Dd Y cL ad q V fo (xs (i + 1)) o h4 hE) (vx_cwSW 3 X.1.2.2.2.2 gL_law_L_kept rfl rfl rfl (by decide +kernel) ⟨(Nat.le_of_ble_eq_true rfl), (Nat.le_of_ble_eq_true rfl)⟩) hW rfl hl.1 rfl (Nat.le_of_ble_eq_true rfl) dL_law_954 ⟨hc2, hs2⟩ (fun H locs hW => ?_)
  revert h6 h7 hW kk
  generalize (lwI ["java/util/NoSuchElementException"] V fo o) = z
  obtain ⟨zk, V2, fo2⟩ := z
  intro h6 h7 kk hW
  refine lv_istore (lv' := (5, .int zk) :: LV b q (am 0) (ad 0 0) i) hx hb dL_law_957 hl (by decide) rfl (fun ls hl => ?_)
  have hl0 : lv_has ls 9 (LV b q (am 0) (ad 0 0) i) := ⟨hl.1, hl.2.1, fun z hz => hl.2.2 z (List.mem_cons_of_mem _ hz)⟩
  refine lv_aload_n hx hb dL_law_959 rfl (lv_at hl 3 rfl) ?_
  refine rd_ X hX hbl hbA hW.2.2 hl0 1 (by decide) (by omega) hL dL_law_960 dL_law_961 dL_law_963 dL_law_964 dL_law_965 ?_
  refine cVmi_ (As := [.int (xs (i + 1))]) (rest := []) (wc := WM Y am F) (post := WQ Y ad q cL V2 fo2) (w1 := WM Y am F') (ws' := (WL Y ad am q cL V2 fo2 F')) X (kX5_kept l Dd Y am F (xs (i + 1)) rb F' h5) (cwV 1 X.1.2.2.2.2 gL_law_X5_kept rfl rfl rfl (by decide +kernel) ⟨(Nat.le_of_ble_eq_true rfl), (Nat.le_of_ble_eq_true rfl)⟩) hW (wl_m ..) (wl_m ..).symm 0 5 rfl rfl rfl rfl hl.1 rfl (Nat.le_of_ble_eq_true rfl) dL_law_966 ⟨hc2, hs2⟩ (fun H locs hW => ?_)
  refine lv_istore (lv' := (6, .int rb) :: (5, .int zk) :: LV b q (am 0) (ad 0 0) i) hx hb dL_law_969 hl (by decide) rfl (fun ls hl => ?_)
  refine lv_aload_n hx hb dL_law_971 rfl (lv_at hl 4 rfl) ?_
  refine cVmi_ (As := []) (rest := []) (wc := WM Y am F') (post := WQ Y ad q cL V2 fo2) (w1 := WM Y am F') (ws' := (WL Y ad am q cL V2 fo2 F')) X (kX5_thrown l Dd Y am F' (F' 0 0) rfl) (cwV 0 X.1.2.2.2.2 gL_law_X5_thrown rfl rfl rfl (by decide +kernel) ⟨(Nat.le_of_ble_eq_true rfl), (Nat.le_of_ble_eq_true rfl)⟩) hW (wl_m ..) (wl_m ..).symm 0 5 rfl rfl rfl rfl hl.1 rfl (Nat.le_of_ble_eq_true rfl) dL_law_972 ⟨hc2, hs2⟩ (fun H locs hW => ?_)
  refine lv_iload hx hb dL_law_975 (lv_at hl 1 rfl) ?_
  refine lv_icmp_eq (tgt := 982) hx hb dL_law_977 (by decide) (fun _ => ?_) (fun hne => absurd h6 hne)
  have fin : W p l e room_1 s m args below meth c H locs (cells + 1) (slots + 6) Q (F0 m 1718 ls []) := kk H locs ls (cells + 1) (slots + 6) (by omega) (by omega) hW ⟨hl.1, hl.2.1, fun z hz => hl.2.2 z (List.mem_cons_of_mem _ (List.mem_cons_of_mem _ hz))⟩
  refine lv_iload hx hb dL_law_982 (lv_at hl 1 rfl) ?_
  refine lv_if_ne (tgt := 999) hx hb dL_law_984 (by decide) (fun _ => lv_goto (tgt := 1718) hx hb dL_law_999 (by decide) fin) (fun hz => ?_)
  have h8 := h7 hz
  refine lv_aload_n hx hb dL_law_987 rfl (lv_at hl 3 rfl) ?_
  refine lv_iconst (v := 0) hx hb dL_law_988 (by decide) ?_
  refine va_lald hx hb hKL hW.1 65 0 rfl rfl (vp_in_nI (n := 0) (by decide) (by decide)) dL_law_989 ?_
  show W p l e room_1 s m args below meth c H locs (cells + 1) (slots + 6) Q (F0 m 990 ls [.long (fo2 0)])
  rw [show fo2 0 = _ from h8]
  refine lv_iload hx hb dL_law_990 (lv_at hl 0 rfl) ?_
  refine lv_i2l (v := rb.toInt64) hx hb dL_law_992 rfl ?_
  refine W.lcmp hx hb dL_law_993 ?_
  rw [lg_cmp_self]
  refine lv_if_eq (tgt := 999) hx hb dL_law_994 (by decide) (fun _ => ?_) (fun hne => absurd rfl hne)
  exact lv_goto (tgt := 1718) hx hb dL_law_999 (by decide) fin
set_option maxRecDepth 100000 in
set_option maxHeartbeats 4000000 in
theorem lc_15 (X : cx p s m args c cL_law 9 wsL_law RL Dd Y A) (hst : l.stackTraces = false) {cL : ClassId} (hKL : va_K Dd vwCl [(cL, .long)] s) {b L q i : Nat} {xs : Nat → Int32} {ad : Nat → Nat → Nat} {am : Nat → Nat} (hX : va_X b L xs s s.heap) (hbl : b < s.heap.size) (hbA : ¬ A b) (hi : i + 6 ≤ L) (hL : L ≤ 3072) {V V' : gX} {F F' : gF} {fo fo' : Nat → Int64} (h : LR 15 (xs (i + 1)) (xs (i + 2)) (xs (i + 3)) (xs (i + 4)) (xs (i + 5)) V F fo V' F' fo') (hW : Wd Dd A s.heap (WL Y ad am q cL V fo F) H locs) (hl : lv_has ls 9 (LV b q (am 0) (ad 0 0) i)) (hc : cells + 4 ≤ room_1.cells) (hs : slots + 24 ≤ room_1.slots)
    (kk : ∀ (H : Heap) (locs : List Loc) (ls : Array Slot) (cells' slots' : Nat), cells' ≤ cells + 4 → slots' ≤ slots + 24 → Wd Dd A s.heap (WL Y ad am q cL V' fo' F') H locs → lv_has ls 9 (LV b q (am 0) (ad 0 0) i) → W p l e room_1 s m args below meth c H locs cells' slots' Q (F0 m 1718 ls [])) : W p l e room_1 s m args below meth c H locs cells slots Q (F0 m 1002 ls []) := by
  have hx := X.x
  have hb := X.b
  obtain ⟨r, h4, h5, rfl, rfl⟩ := h
  refine lv_aload_n hx hb dL_law_1002 rfl (lv_at hl 3 rfl) ?_
  refine cVmi_ (As := []) (rest := []) (wc := WX Y ad V) (post := [(q, .inl (cL, 1, .inr (.inl fo)))] ++ WM Y am F) (w1 := WX Y ad V) (ws' := (WL Y ad am q cL V fo F)) X (kX4_looksOfKept l Dd Y ad V  r h4) (cwV 0 X.1.2.2.2.2 gL_law_X4_looksOfKept rfl rfl rfl (by decide +kernel) ⟨(Nat.le_of_ble_eq_true rfl), (Nat.le_of_ble_eq_true rfl)⟩) hW (wl_x ..) (wl_x ..).symm 0 4 rfl rfl rfl rfl hl.1 rfl (Nat.le_of_ble_eq_true rfl) dL_law_1003 ⟨Nat.le_trans (Nat.le_add_right _ 4) hc, Nat.le_trans (Nat.le_add_right _ 24) hs⟩ (fun H locs hW => ?_)
  refine lv_aload_n hx hb dL_law_1006 rfl (lv_at hl 2 rfl) ?_
  refine cVmi_ (As := []) (rest := [.int r]) (wc := WM Y am F) (post := WQ Y ad q cL V fo) (w1 := WM Y am F') (ws' := (WL Y ad am q cL V fo F')) X (kX5_looksOfKept l Dd Y am F  r F' h5) (cwV 0 X.1.2.2.2.2 gL_law_X5_looksOfKept rfl rfl rfl (by decide +kernel) ⟨(Nat.le_of_ble_eq_true rfl), (Nat.le_of_ble_eq_true rfl)⟩) hW (wl_m ..) (wl_m ..).symm 0 5 rfl rfl rfl rfl hl.1 rfl (Nat.le_of_ble_eq_true rfl) dL_law_1007 ⟨Nat.le_trans (Nat.le_add_right _ 4) hc, Nat.le_trans (Nat.le_add_right _ 24) hs⟩ (fun H locs hW => ?_)
  refine lv_icmp_eq (tgt := 1718) hx hb dL_law_1010 (by decide) (fun _ => ?_) (fun hne => absurd rfl hne)
  exact kk H locs ls cells slots (Nat.le_add_right _ _) (Nat.le_add_right _ _) hW hl
set_option maxRecDepth 100000 in
set_option maxHeartbeats 4000000 in
theorem lc_16 (X : cx p s m args c cL_law 9 wsL_law RL Dd Y A) (hst : l.stackTraces = false) {cL : ClassId} (hKL : va_K Dd vwCl [(cL, .long)] s) {b L q i : Nat} {xs : Nat → Int32} {ad : Nat → Nat → Nat} {am : Nat → Nat} (hX : va_X b L xs s s.heap) (hbl : b < s.heap.size) (hbA : ¬ A b) (hi : i + 6 ≤ L) (hL : L ≤ 3072) {V V' : gX} {F F' : gF} {fo fo' : Nat → Int64} (h : LR 16 (xs (i + 1)) (xs (i + 2)) (xs (i + 3)) (xs (i + 4)) (xs (i + 5)) V F fo V' F' fo') (hW : Wd Dd A s.heap (WL Y ad am q cL V fo F) H locs) (hl : lv_has ls 9 (LV b q (am 0) (ad 0 0) i)) (hc : cells + 4 ≤ room_1.cells) (hs : slots + 24 ≤ room_1.slots)
    (kk : ∀ (H : Heap) (locs : List Loc) (ls : Array Slot) (cells' slots' : Nat), cells' ≤ cells + 4 → slots' ≤ slots + 24 → Wd Dd A s.heap (WL Y ad am q cL V' fo' F') H locs → lv_has ls 9 (LV b q (am 0) (ad 0 0) i) → W p l e room_1 s m args below meth c H locs cells' slots' Q (F0 m 1718 ls [])) : W p l e room_1 s m args below meth c H locs cells slots Q (F0 m 1015 ls []) := by
  have hx := X.x
  have hb := X.b
  obtain ⟨o, rb, h4, hE, h5, h6, h7, rfl, rfl⟩ := h
  refine lv_aload_n hx hb dL_law_1015 rfl (lv_at hl 3 rfl) ?_
  refine rd_ X hX hbl hbA hW.2.2 hl 1 (by decide) (by omega) hL dL_law_1016 dL_law_1017 dL_law_1019 dL_law_1020 dL_law_1021 ?_
  refine lv_aload_n hx hb dL_law_1022 rfl (lv_at hl 1 rfl) ?_
  have hc2 : cells + 1 ≤ room_1.cells := by omega
  have hs2 : slots + 6 ≤ room_1.slots := by omega
  refine cL_ (As := [.ref (ad 0 0), .int (xs (i + 1)), .ref q]) (rest := []) (wc := WQ Y ad q cL V fo) (post := WM Y am F) (w1 := WQ Y ad q cL (lwI ["java/lang/IndexOutOfBoundsException"] V fo o).2.1 (lwI ["java/lang/IndexOutOfBoundsException"] V fo o).2.2) X hKL (kL_bestRule l hst Dd Y cL ad q V fo (xs (i + 1)) o h4 hE) (vx_cwSW 3 X.1.2.2.2.2 gL_law_L_bestRule rfl rfl rfl (by decide +kernel) ⟨(Nat.le_of_ble_eq_true rfl), (Nat.le_of_ble_eq_true rfl)⟩) hW rfl hl.1 rfl (Nat.le_of_ble_eq_true rfl) dL_law_1023 ⟨hc2, hs2⟩ (fun H locs hW => ?_)
  revert h6 h7 hW kk
  generalize (lwI ["java/lang/IndexOutOfBoundsException"] V fo o) = z
  obtain ⟨zk, V2, fo2⟩ := z
  intro h6 h7 kk hW
  refine lv_istore (lv' := (5, .int zk) :: LV b q (am 0) (ad 0 0) i) hx hb dL_law_1026 hl (by decide) rfl (fun ls hl => ?_)
  have hl0 : lv_has ls 9 (LV b q (am 0) (ad 0 0) i) := ⟨hl.1, hl.2.1, fun z hz => hl.2.2 z (List.mem_cons_of_mem _ hz)⟩
  refine lv_aload_n hx hb dL_law_1028 rfl (lv_at hl 3 rfl) ?_
  refine rd_ X hX hbl hbA hW.2.2 hl0 1 (by decide) (by omega) hL dL_law_1029 dL_law_1030 dL_law_1032 dL_law_1033 dL_law_1034 ?_
  refine cVmi_ (As := [.int (xs (i + 1))]) (rest := []) (wc := WM Y am F) (post := WQ Y ad q cL V2 fo2) (w1 := WM Y am F') (ws' := (WL Y ad am q cL V2 fo2 F')) X (kX5_bestRule l Dd Y am F (xs (i + 1)) rb F' h5) (cwV 1 X.1.2.2.2.2 gL_law_X5_bestRule rfl rfl rfl (by decide +kernel) ⟨(Nat.le_of_ble_eq_true rfl), (Nat.le_of_ble_eq_true rfl)⟩) hW (wl_m ..) (wl_m ..).symm 0 5 rfl rfl rfl rfl hl.1 rfl (Nat.le_of_ble_eq_true rfl) dL_law_1035 ⟨hc2, hs2⟩ (fun H locs hW => ?_)
  refine lv_istore (lv' := (6, .int rb) :: (5, .int zk) :: LV b q (am 0) (ad 0 0) i) hx hb dL_law_1038 hl (by decide) rfl (fun ls hl => ?_)
  refine lv_aload_n hx hb dL_law_1040 rfl (lv_at hl 4 rfl) ?_
  refine cVmi_ (As := []) (rest := []) (wc := WM Y am F') (post := WQ Y ad q cL V2 fo2) (w1 := WM Y am F') (ws' := (WL Y ad am q cL V2 fo2 F')) X (kX5_thrown l Dd Y am F' (F' 0 0) rfl) (cwV 0 X.1.2.2.2.2 gL_law_X5_thrown rfl rfl rfl (by decide +kernel) ⟨(Nat.le_of_ble_eq_true rfl), (Nat.le_of_ble_eq_true rfl)⟩) hW (wl_m ..) (wl_m ..).symm 0 5 rfl rfl rfl rfl hl.1 rfl (Nat.le_of_ble_eq_true rfl) dL_law_1041 ⟨hc2, hs2⟩ (fun H locs hW => ?_)
  refine lv_iload hx hb dL_law_1044 (lv_at hl 1 rfl) ?_
  refine lv_icmp_eq (tgt := 1051) hx hb dL_law_1046 (by decide) (fun _ => ?_) (fun hne => absurd h6 hne)
  have fin : W p l e room_1 s m args below meth c H locs (cells + 1) (slots + 6) Q (F0 m 1718 ls []) := kk H locs ls (cells + 1) (slots + 6) (by omega) (by omega) hW ⟨hl.1, hl.2.1, fun z hz => hl.2.2 z (List.mem_cons_of_mem _ (List.mem_cons_of_mem _ hz))⟩
  refine lv_iload hx hb dL_law_1051 (lv_at hl 1 rfl) ?_
  refine lv_if_ne (tgt := 1068) hx hb dL_law_1053 (by decide) (fun _ => lv_goto (tgt := 1718) hx hb dL_law_1068 (by decide) fin) (fun hz => ?_)
  have h8 := h7 hz
  refine lv_aload_n hx hb dL_law_1056 rfl (lv_at hl 3 rfl) ?_
  refine lv_iconst (v := 0) hx hb dL_law_1057 (by decide) ?_
  refine va_lald hx hb hKL hW.1 65 0 rfl rfl (vp_in_nI (n := 0) (by decide) (by decide)) dL_law_1058 ?_
  show W p l e room_1 s m args below meth c H locs (cells + 1) (slots + 6) Q (F0 m 1059 ls [.long (fo2 0)])
  rw [show fo2 0 = _ from h8]
  refine lv_iload hx hb dL_law_1059 (lv_at hl 0 rfl) ?_
  refine lv_i2l (v := rb.toInt64) hx hb dL_law_1061 rfl ?_
  refine W.lcmp hx hb dL_law_1062 ?_
  rw [lg_cmp_self]
  refine lv_if_eq (tgt := 1068) hx hb dL_law_1063 (by decide) (fun _ => ?_) (fun hne => absurd rfl hne)
  exact lv_goto (tgt := 1718) hx hb dL_law_1068 (by decide) fin
set_option maxRecDepth 100000 in
set_option maxHeartbeats 4000000 in
theorem lc_17 (X : cx p s m args c cL_law 9 wsL_law RL Dd Y A) (hst : l.stackTraces = false) {cL : ClassId} (hKL : va_K Dd vwCl [(cL, .long)] s) {b L q i : Nat} {xs : Nat → Int32} {ad : Nat → Nat → Nat} {am : Nat → Nat} (hX : va_X b L xs s s.heap) (hbl : b < s.heap.size) (hbA : ¬ A b) (hi : i + 6 ≤ L) (hL : L ≤ 3072) {V V' : gX} {F F' : gF} {fo fo' : Nat → Int64} (h : LR 17 (xs (i + 1)) (xs (i + 2)) (xs (i + 3)) (xs (i + 4)) (xs (i + 5)) V F fo V' F' fo') (hW : Wd Dd A s.heap (WL Y ad am q cL V fo F) H locs) (hl : lv_has ls 9 (LV b q (am 0) (ad 0 0) i)) (hc : cells + 4 ≤ room_1.cells) (hs : slots + 24 ≤ room_1.slots)
    (kk : ∀ (H : Heap) (locs : List Loc) (ls : Array Slot) (cells' slots' : Nat), cells' ≤ cells + 4 → slots' ≤ slots + 24 → Wd Dd A s.heap (WL Y ad am q cL V' fo' F') H locs → lv_has ls 9 (LV b q (am 0) (ad 0 0) i) → W p l e room_1 s m args below meth c H locs cells' slots' Q (F0 m 1718 ls [])) : W p l e room_1 s m args below meth c H locs cells slots Q (F0 m 1071 ls []) := by
  have hx := X.x
  have hb := X.b
  obtain ⟨o, rb, h4, hE, h5, h6, h7, rfl, rfl⟩ := h
  refine lv_aload_n hx hb dL_law_1071 rfl (lv_at hl 3 rfl) ?_
  refine rd_ X hX hbl hbA hW.2.2 hl 1 (by decide) (by omega) hL dL_law_1072 dL_law_1073 dL_law_1075 dL_law_1076 dL_law_1077 ?_
  refine lv_aload_n hx hb dL_law_1078 rfl (lv_at hl 1 rfl) ?_
  have hc2 : cells + 1 ≤ room_1.cells := by omega
  have hs2 : slots + 6 ≤ room_1.slots := by omega
  refine cL_ (As := [.ref (ad 0 0), .int (xs (i + 1)), .ref q]) (rest := []) (wc := WQ Y ad q cL V fo) (post := WM Y am F) (w1 := WQ Y ad q cL (lwI ["java/util/NoSuchElementException"] V fo o).2.1 (lwI ["java/util/NoSuchElementException"] V fo o).2.2) X hKL (kL_ranked l hst Dd Y cL ad q V fo (xs (i + 1)) o h4 hE) (vx_cwSW 3 X.1.2.2.2.2 gL_law_L_ranked rfl rfl rfl (by decide +kernel) ⟨(Nat.le_of_ble_eq_true rfl), (Nat.le_of_ble_eq_true rfl)⟩) hW rfl hl.1 rfl (Nat.le_of_ble_eq_true rfl) dL_law_1079 ⟨hc2, hs2⟩ (fun H locs hW => ?_)
  revert h6 h7 hW kk
  generalize (lwI ["java/util/NoSuchElementException"] V fo o) = z
  obtain ⟨zk, V2, fo2⟩ := z
  intro h6 h7 kk hW
  refine lv_istore (lv' := (5, .int zk) :: LV b q (am 0) (ad 0 0) i) hx hb dL_law_1082 hl (by decide) rfl (fun ls hl => ?_)
  have hl0 : lv_has ls 9 (LV b q (am 0) (ad 0 0) i) := ⟨hl.1, hl.2.1, fun z hz => hl.2.2 z (List.mem_cons_of_mem _ hz)⟩
  refine lv_aload_n hx hb dL_law_1084 rfl (lv_at hl 3 rfl) ?_
  refine rd_ X hX hbl hbA hW.2.2 hl0 1 (by decide) (by omega) hL dL_law_1085 dL_law_1086 dL_law_1088 dL_law_1089 dL_law_1090 ?_
  refine cVmi_ (As := [.int (xs (i + 1))]) (rest := []) (wc := WM Y am F) (post := WQ Y ad q cL V2 fo2) (w1 := WM Y am F') (ws' := (WL Y ad am q cL V2 fo2 F')) X (kX5_ranked l Dd Y am F (xs (i + 1)) rb F' h5) (cwV 1 X.1.2.2.2.2 gL_law_X5_ranked rfl rfl rfl (by decide +kernel) ⟨(Nat.le_of_ble_eq_true rfl), (Nat.le_of_ble_eq_true rfl)⟩) hW (wl_m ..) (wl_m ..).symm 0 5 rfl rfl rfl rfl hl.1 rfl (Nat.le_of_ble_eq_true rfl) dL_law_1091 ⟨hc2, hs2⟩ (fun H locs hW => ?_)
  refine lv_istore (lv' := (6, .int rb) :: (5, .int zk) :: LV b q (am 0) (ad 0 0) i) hx hb dL_law_1094 hl (by decide) rfl (fun ls hl => ?_)
  refine lv_aload_n hx hb dL_law_1096 rfl (lv_at hl 4 rfl) ?_
  refine cVmi_ (As := []) (rest := []) (wc := WM Y am F') (post := WQ Y ad q cL V2 fo2) (w1 := WM Y am F') (ws' := (WL Y ad am q cL V2 fo2 F')) X (kX5_thrown l Dd Y am F' (F' 0 0) rfl) (cwV 0 X.1.2.2.2.2 gL_law_X5_thrown rfl rfl rfl (by decide +kernel) ⟨(Nat.le_of_ble_eq_true rfl), (Nat.le_of_ble_eq_true rfl)⟩) hW (wl_m ..) (wl_m ..).symm 0 5 rfl rfl rfl rfl hl.1 rfl (Nat.le_of_ble_eq_true rfl) dL_law_1097 ⟨hc2, hs2⟩ (fun H locs hW => ?_)
  refine lv_iload hx hb dL_law_1100 (lv_at hl 1 rfl) ?_
  refine lv_icmp_eq (tgt := 1107) hx hb dL_law_1102 (by decide) (fun _ => ?_) (fun hne => absurd h6 hne)
  have fin : W p l e room_1 s m args below meth c H locs (cells + 1) (slots + 6) Q (F0 m 1718 ls []) := kk H locs ls (cells + 1) (slots + 6) (by omega) (by omega) hW ⟨hl.1, hl.2.1, fun z hz => hl.2.2 z (List.mem_cons_of_mem _ (List.mem_cons_of_mem _ hz))⟩
  refine lv_iload hx hb dL_law_1107 (lv_at hl 1 rfl) ?_
  refine lv_if_ne (tgt := 1124) hx hb dL_law_1109 (by decide) (fun _ => lv_goto (tgt := 1718) hx hb dL_law_1124 (by decide) fin) (fun hz => ?_)
  have h8 := h7 hz
  refine lv_aload_n hx hb dL_law_1112 rfl (lv_at hl 3 rfl) ?_
  refine lv_iconst (v := 0) hx hb dL_law_1113 (by decide) ?_
  refine va_lald hx hb hKL hW.1 65 0 rfl rfl (vp_in_nI (n := 0) (by decide) (by decide)) dL_law_1114 ?_
  show W p l e room_1 s m args below meth c H locs (cells + 1) (slots + 6) Q (F0 m 1115 ls [.long (fo2 0)])
  rw [show fo2 0 = _ from h8]
  refine lv_iload hx hb dL_law_1115 (lv_at hl 0 rfl) ?_
  refine lv_i2l (v := rb.toInt64) hx hb dL_law_1117 rfl ?_
  refine W.lcmp hx hb dL_law_1118 ?_
  rw [lg_cmp_self]
  refine lv_if_eq (tgt := 1124) hx hb dL_law_1119 (by decide) (fun _ => ?_) (fun hne => absurd rfl hne)
  exact lv_goto (tgt := 1718) hx hb dL_law_1124 (by decide) fin
set_option maxRecDepth 100000 in
set_option maxHeartbeats 4000000 in
theorem lc_18 (X : cx p s m args c cL_law 9 wsL_law RL Dd Y A) (hst : l.stackTraces = false) {cL : ClassId} (hKL : va_K Dd vwCl [(cL, .long)] s) {b L q i : Nat} {xs : Nat → Int32} {ad : Nat → Nat → Nat} {am : Nat → Nat} (hX : va_X b L xs s s.heap) (hbl : b < s.heap.size) (hbA : ¬ A b) (hi : i + 6 ≤ L) (hL : L ≤ 3072) {V V' : gX} {F F' : gF} {fo fo' : Nat → Int64} (h : LR 18 (xs (i + 1)) (xs (i + 2)) (xs (i + 3)) (xs (i + 4)) (xs (i + 5)) V F fo V' F' fo') (hW : Wd Dd A s.heap (WL Y ad am q cL V fo F) H locs) (hl : lv_has ls 9 (LV b q (am 0) (ad 0 0) i)) (hc : cells + 4 ≤ room_1.cells) (hs : slots + 24 ≤ room_1.slots)
    (kk : ∀ (H : Heap) (locs : List Loc) (ls : Array Slot) (cells' slots' : Nat), cells' ≤ cells + 4 → slots' ≤ slots + 24 → Wd Dd A s.heap (WL Y ad am q cL V' fo' F') H locs → lv_has ls 9 (LV b q (am 0) (ad 0 0) i) → W p l e room_1 s m args below meth c H locs cells' slots' Q (F0 m 1718 ls [])) : W p l e room_1 s m args below meth c H locs cells slots Q (F0 m 1127 ls []) := by
  have hx := X.x
  have hb := X.b
  obtain ⟨r, h4, h5, rfl, rfl⟩ := h
  refine lv_aload_n hx hb dL_law_1127 rfl (lv_at hl 3 rfl) ?_
  refine cVmi_ (As := []) (rest := []) (wc := WX Y ad V) (post := [(q, .inl (cL, 1, .inr (.inl fo)))] ++ WM Y am F) (w1 := WX Y ad V) (ws' := (WL Y ad am q cL V fo F)) X (kX4_gap l Dd Y ad V  r h4) (cwV 0 X.1.2.2.2.2 gL_law_X4_gap rfl rfl rfl (by decide +kernel) ⟨(Nat.le_of_ble_eq_true rfl), (Nat.le_of_ble_eq_true rfl)⟩) hW (wl_x ..) (wl_x ..).symm 0 4 rfl rfl rfl rfl hl.1 rfl (Nat.le_of_ble_eq_true rfl) dL_law_1128 ⟨Nat.le_trans (Nat.le_add_right _ 4) hc, Nat.le_trans (Nat.le_add_right _ 24) hs⟩ (fun H locs hW => ?_)
  refine lv_aload_n hx hb dL_law_1131 rfl (lv_at hl 2 rfl) ?_
  refine cVmi_ (As := []) (rest := [.int r]) (wc := WM Y am F) (post := WQ Y ad q cL V fo) (w1 := WM Y am F') (ws' := (WL Y ad am q cL V fo F')) X (kX5_gap l Dd Y am F  r F' h5) (cwV 0 X.1.2.2.2.2 gL_law_X5_gap rfl rfl rfl (by decide +kernel) ⟨(Nat.le_of_ble_eq_true rfl), (Nat.le_of_ble_eq_true rfl)⟩) hW (wl_m ..) (wl_m ..).symm 0 5 rfl rfl rfl rfl hl.1 rfl (Nat.le_of_ble_eq_true rfl) dL_law_1132 ⟨Nat.le_trans (Nat.le_add_right _ 4) hc, Nat.le_trans (Nat.le_add_right _ 24) hs⟩ (fun H locs hW => ?_)
  refine lv_icmp_eq (tgt := 1718) hx hb dL_law_1135 (by decide) (fun _ => ?_) (fun hne => absurd rfl hne)
  exact kk H locs ls cells slots (Nat.le_add_right _ _) (Nat.le_add_right _ _) hW hl
set_option maxRecDepth 100000 in
set_option maxHeartbeats 4000000 in
theorem lc_19 (X : cx p s m args c cL_law 9 wsL_law RL Dd Y A) (hst : l.stackTraces = false) {cL : ClassId} (hKL : va_K Dd vwCl [(cL, .long)] s) {b L q i : Nat} {xs : Nat → Int32} {ad : Nat → Nat → Nat} {am : Nat → Nat} (hX : va_X b L xs s s.heap) (hbl : b < s.heap.size) (hbA : ¬ A b) (hi : i + 6 ≤ L) (hL : L ≤ 3072) {V V' : gX} {F F' : gF} {fo fo' : Nat → Int64} (h : LR 19 (xs (i + 1)) (xs (i + 2)) (xs (i + 3)) (xs (i + 4)) (xs (i + 5)) V F fo V' F' fo') (hW : Wd Dd A s.heap (WL Y ad am q cL V fo F) H locs) (hl : lv_has ls 9 (LV b q (am 0) (ad 0 0) i)) (hc : cells + 4 ≤ room_1.cells) (hs : slots + 24 ≤ room_1.slots)
    (kk : ∀ (H : Heap) (locs : List Loc) (ls : Array Slot) (cells' slots' : Nat), cells' ≤ cells + 4 → slots' ≤ slots + 24 → Wd Dd A s.heap (WL Y ad am q cL V' fo' F') H locs → lv_has ls 9 (LV b q (am 0) (ad 0 0) i) → W p l e room_1 s m args below meth c H locs cells' slots' Q (F0 m 1718 ls [])) : W p l e room_1 s m args below meth c H locs cells slots Q (F0 m 1140 ls []) := by
  have hx := X.x
  have hb := X.b
  obtain ⟨r, h4, h5, rfl, rfl, hn, hz⟩ := h
  refine lv_aload_n hx hb dL_law_1140 rfl (lv_at hl 3 rfl) ?_
  refine cVm_ (As := []) (rest := []) (wc := WX Y ad V) (post := [(q, .inl (cL, 1, .inr (.inl fo)))] ++ WM Y am F) (w1 := WX Y ad V) (ws' := (WL Y ad am q cL V fo F)) X (kX4_costOfOne l Dd Y ad V  r h4) (cwV 0 X.1.2.2.2.2 gL_law_X4_costOfOne rfl rfl rfl (by decide +kernel) ⟨(Nat.le_of_ble_eq_true rfl), (Nat.le_of_ble_eq_true rfl)⟩) hW (wl_x ..) (wl_x ..).symm 0 4 rfl rfl rfl rfl hl.1 rfl (Nat.le_of_ble_eq_true rfl) dL_law_1141 ⟨Nat.le_trans (Nat.le_add_right _ 4) hc, Nat.le_trans (Nat.le_add_right _ 24) hs⟩ (fun H locs hW => ?_)
  refine lv_f2d hx hb dL_law_1144 hn ?_
  refine lv_dstore (lv' := (5, .double (FP.f2d r)) :: LV b q (am 0) (ad 0 0) i) hx hb dL_law_1145 hl (by decide) rfl (fun ls hl => ?_)
  have hl0 : lv_has ls 9 (LV b q (am 0) (ad 0 0) i) := ⟨hl.1, hl.2.1, fun z hz => hl.2.2 z (List.mem_cons_of_mem _ hz)⟩
  refine lv_aload_n hx hb dL_law_1147 rfl (lv_at hl0 2 rfl) ?_
  refine cVm_ (As := []) (rest := []) (wc := WM Y am F) (post := WQ Y ad q cL V fo) (w1 := WM Y am F') (ws' := (WL Y ad am q cL V fo F')) X (kX5_costOfOne l Dd Y am F  r F' h5) (cwV 0 X.1.2.2.2.2 gL_law_X5_costOfOne rfl rfl rfl (by decide +kernel) ⟨(Nat.le_of_ble_eq_true rfl), (Nat.le_of_ble_eq_true rfl)⟩) hW (wl_m ..) (wl_m ..).symm 0 5 rfl rfl rfl rfl hl0.1 rfl (Nat.le_of_ble_eq_true rfl) dL_law_1148 ⟨Nat.le_trans (Nat.le_add_right _ 4) hc, Nat.le_trans (Nat.le_add_right _ 24) hs⟩ (fun H locs hW => ?_)
  refine lv_f2d hx hb dL_law_1151 hn ?_
  refine lv_dstore (lv' := (7, .double (FP.f2d r)) :: (5, .double (FP.f2d r)) :: LV b q (am 0) (ad 0 0) i) hx hb dL_law_1152 hl (by decide) rfl (fun ls hl => ?_)
  refine lv_dload hx hb dL_law_1154 (lv_at hl 1 rfl) ?_
  refine lv_dload hx hb dL_law_1156 (lv_at hl 0 rfl) ?_
  refine lv_dcmp hx hb dL_law_1158 ?_
  rw [hz]
  refine lv_if_eq (tgt := 1180) hx hb dL_law_1159 (by decide) (fun _ => ?_) (fun hne => absurd rfl hne)
  refine lv_goto (tgt := 1718) hx hb dL_law_1180 (by decide) ?_
  exact kk H locs ls cells slots (Nat.le_add_right _ _) (Nat.le_add_right _ _) hW ⟨hl.1, hl.2.1, fun z hz => hl.2.2 z (List.mem_cons_of_mem _ (List.mem_cons_of_mem _ hz))⟩
set_option maxRecDepth 100000 in
set_option maxHeartbeats 4000000 in
theorem lc_20 (X : cx p s m args c cL_law 9 wsL_law RL Dd Y A) (hst : l.stackTraces = false) {cL : ClassId} (hKL : va_K Dd vwCl [(cL, .long)] s) {b L q i : Nat} {xs : Nat → Int32} {ad : Nat → Nat → Nat} {am : Nat → Nat} (hX : va_X b L xs s s.heap) (hbl : b < s.heap.size) (hbA : ¬ A b) (hi : i + 6 ≤ L) (hL : L ≤ 3072) {V V' : gX} {F F' : gF} {fo fo' : Nat → Int64} (h : LR 20 (xs (i + 1)) (xs (i + 2)) (xs (i + 3)) (xs (i + 4)) (xs (i + 5)) V F fo V' F' fo') (hW : Wd Dd A s.heap (WL Y ad am q cL V fo F) H locs) (hl : lv_has ls 9 (LV b q (am 0) (ad 0 0) i)) (hc : cells + 4 ≤ room_1.cells) (hs : slots + 24 ≤ room_1.slots)
    (kk : ∀ (H : Heap) (locs : List Loc) (ls : Array Slot) (cells' slots' : Nat), cells' ≤ cells + 4 → slots' ≤ slots + 24 → Wd Dd A s.heap (WL Y ad am q cL V' fo' F') H locs → lv_has ls 9 (LV b q (am 0) (ad 0 0) i) → W p l e room_1 s m args below meth c H locs cells' slots' Q (F0 m 1718 ls [])) : W p l e room_1 s m args below meth c H locs cells slots Q (F0 m 1183 ls []) := by
  have hx := X.x
  have hb := X.b
  obtain ⟨o, rb, h4, hE, h5, h6, h7, rfl, rfl⟩ := h
  refine lv_aload_n hx hb dL_law_1183 rfl (lv_at hl 3 rfl) ?_
  refine rd_ X hX hbl hbA hW.2.2 hl 1 (by decide) (by omega) hL dL_law_1184 dL_law_1185 dL_law_1187 dL_law_1188 dL_law_1189 ?_
  refine rd_ X hX hbl hbA hW.2.2 hl 2 (by decide) (by omega) hL dL_law_1190 dL_law_1191 dL_law_1193 dL_law_1194 dL_law_1195 ?_
  refine lv_aload_n hx hb dL_law_1196 rfl (lv_at hl 1 rfl) ?_
  have hc2 : cells + 2 ≤ room_1.cells := by omega
  have hs2 : slots + 12 ≤ room_1.slots := by omega
  refine cL_ (As := [.ref (ad 0 0), .int (xs (i + 1)), .int (xs (i + 2)), .ref q]) (rest := []) (wc := WQ Y ad q cL V fo) (post := WM Y am F) (w1 := WQ Y ad q cL (lwS ["java/lang/IndexOutOfBoundsException", "java/lang/IllegalArgumentException"] V fo o).2.1 (lwS ["java/lang/IndexOutOfBoundsException", "java/lang/IllegalArgumentException"] V fo o).2.2) X hKL (kL_set l hst Dd Y cL ad q V fo (xs (i + 1)) (xs (i + 2)) o h4 hE) (vx_cwSW 4 X.1.2.2.2.2 gL_law_L_set rfl rfl rfl (by decide +kernel) ⟨(Nat.le_of_ble_eq_true rfl), (Nat.le_of_ble_eq_true rfl)⟩) hW rfl hl.1 rfl (Nat.le_of_ble_eq_true rfl) dL_law_1197 ⟨hc2, hs2⟩ (fun H locs hW => ?_)
  revert h6 h7 hW kk
  generalize (lwS ["java/lang/IndexOutOfBoundsException", "java/lang/IllegalArgumentException"] V fo o) = z
  obtain ⟨zk, V2, fo2⟩ := z
  intro h6 h7 kk hW
  refine lv_istore (lv' := (5, .int zk) :: LV b q (am 0) (ad 0 0) i) hx hb dL_law_1200 hl (by decide) rfl (fun ls hl => ?_)
  have hl0 : lv_has ls 9 (LV b q (am 0) (ad 0 0) i) := ⟨hl.1, hl.2.1, fun z hz => hl.2.2 z (List.mem_cons_of_mem _ hz)⟩
  refine lv_aload_n hx hb dL_law_1202 rfl (lv_at hl 3 rfl) ?_
  refine rd_ X hX hbl hbA hW.2.2 hl0 1 (by decide) (by omega) hL dL_law_1203 dL_law_1204 dL_law_1206 dL_law_1207 dL_law_1208 ?_
  refine rd_ X hX hbl hbA hW.2.2 hl0 2 (by decide) (by omega) hL dL_law_1209 dL_law_1210 dL_law_1212 dL_law_1213 dL_law_1214 ?_
  refine cVmi_ (As := [.int (xs (i + 1)), .int (xs (i + 2))]) (rest := []) (wc := WM Y am F) (post := WQ Y ad q cL V2 fo2) (w1 := WM Y am F') (ws' := (WL Y ad am q cL V2 fo2 F')) X (kX5_set l Dd Y am F (xs (i + 1)) (xs (i + 2)) rb F' h5) (cwV 2 X.1.2.2.2.2 gL_law_X5_set rfl rfl rfl (by decide +kernel) ⟨(Nat.le_of_ble_eq_true rfl), (Nat.le_of_ble_eq_true rfl)⟩) hW (wl_m ..) (wl_m ..).symm 0 5 rfl rfl rfl rfl hl.1 rfl (Nat.le_of_ble_eq_true rfl) dL_law_1215 ⟨hc2, hs2⟩ (fun H locs hW => ?_)
  refine lv_istore (lv' := (6, .int rb) :: (5, .int zk) :: LV b q (am 0) (ad 0 0) i) hx hb dL_law_1218 hl (by decide) rfl (fun ls hl => ?_)
  refine lv_aload_n hx hb dL_law_1220 rfl (lv_at hl 4 rfl) ?_
  refine cVmi_ (As := []) (rest := []) (wc := WM Y am F') (post := WQ Y ad q cL V2 fo2) (w1 := WM Y am F') (ws' := (WL Y ad am q cL V2 fo2 F')) X (kX5_thrown l Dd Y am F' (F' 0 0) rfl) (cwV 0 X.1.2.2.2.2 gL_law_X5_thrown rfl rfl rfl (by decide +kernel) ⟨(Nat.le_of_ble_eq_true rfl), (Nat.le_of_ble_eq_true rfl)⟩) hW (wl_m ..) (wl_m ..).symm 0 5 rfl rfl rfl rfl hl.1 rfl (Nat.le_of_ble_eq_true rfl) dL_law_1221 ⟨hc2, hs2⟩ (fun H locs hW => ?_)
  refine lv_iload hx hb dL_law_1224 (lv_at hl 1 rfl) ?_
  refine lv_icmp_eq (tgt := 1231) hx hb dL_law_1226 (by decide) (fun _ => ?_) (fun hne => absurd h6 hne)
  have fin : W p l e room_1 s m args below meth c H locs (cells + 2) (slots + 12) Q (F0 m 1718 ls []) := kk H locs ls (cells + 2) (slots + 12) (by omega) (by omega) hW ⟨hl.1, hl.2.1, fun z hz => hl.2.2 z (List.mem_cons_of_mem _ (List.mem_cons_of_mem _ hz))⟩
  refine lv_iload hx hb dL_law_1231 (lv_at hl 1 rfl) ?_
  refine lv_if_ne (tgt := 1248) hx hb dL_law_1233 (by decide) (fun _ => lv_goto (tgt := 1718) hx hb dL_law_1248 (by decide) fin) (fun hz => ?_)
  have h8 := h7 hz
  refine lv_aload_n hx hb dL_law_1236 rfl (lv_at hl 3 rfl) ?_
  refine lv_iconst (v := 0) hx hb dL_law_1237 (by decide) ?_
  refine va_lald hx hb hKL hW.1 65 0 rfl rfl (vp_in_nI (n := 0) (by decide) (by decide)) dL_law_1238 ?_
  show W p l e room_1 s m args below meth c H locs (cells + 2) (slots + 12) Q (F0 m 1239 ls [.long (fo2 0)])
  rw [show fo2 0 = _ from h8]
  refine lv_iload hx hb dL_law_1239 (lv_at hl 0 rfl) ?_
  refine lv_i2l (v := rb.toInt64) hx hb dL_law_1241 rfl ?_
  refine W.lcmp hx hb dL_law_1242 ?_
  rw [lg_cmp_self]
  refine lv_if_eq (tgt := 1248) hx hb dL_law_1243 (by decide) (fun _ => ?_) (fun hne => absurd rfl hne)
  exact lv_goto (tgt := 1718) hx hb dL_law_1248 (by decide) fin
set_option maxRecDepth 100000 in
set_option maxHeartbeats 4000000 in
theorem lc_21 (X : cx p s m args c cL_law 9 wsL_law RL Dd Y A) (hst : l.stackTraces = false) {cL : ClassId} (hKL : va_K Dd vwCl [(cL, .long)] s) {b L q i : Nat} {xs : Nat → Int32} {ad : Nat → Nat → Nat} {am : Nat → Nat} (hX : va_X b L xs s s.heap) (hbl : b < s.heap.size) (hbA : ¬ A b) (hi : i + 6 ≤ L) (hL : L ≤ 3072) {V V' : gX} {F F' : gF} {fo fo' : Nat → Int64} (h : LR 21 (xs (i + 1)) (xs (i + 2)) (xs (i + 3)) (xs (i + 4)) (xs (i + 5)) V F fo V' F' fo') (hW : Wd Dd A s.heap (WL Y ad am q cL V fo F) H locs) (hl : lv_has ls 9 (LV b q (am 0) (ad 0 0) i)) (hc : cells + 4 ≤ room_1.cells) (hs : slots + 24 ≤ room_1.slots)
    (kk : ∀ (H : Heap) (locs : List Loc) (ls : Array Slot) (cells' slots' : Nat), cells' ≤ cells + 4 → slots' ≤ slots + 24 → Wd Dd A s.heap (WL Y ad am q cL V' fo' F') H locs → lv_has ls 9 (LV b q (am 0) (ad 0 0) i) → W p l e room_1 s m args below meth c H locs cells' slots' Q (F0 m 1718 ls [])) : W p l e room_1 s m args below meth c H locs cells slots Q (F0 m 1251 ls []) := by
  have hx := X.x
  have hb := X.b
  obtain ⟨o, rb, h4, hE, h5, h6, h7, rfl, rfl⟩ := h
  refine lv_aload_n hx hb dL_law_1251 rfl (lv_at hl 3 rfl) ?_
  refine rd_ X hX hbl hbA hW.2.2 hl 1 (by decide) (by omega) hL dL_law_1252 dL_law_1253 dL_law_1255 dL_law_1256 dL_law_1257 ?_
  refine rd_ X hX hbl hbA hW.2.2 hl 2 (by decide) (by omega) hL dL_law_1258 dL_law_1259 dL_law_1261 dL_law_1262 dL_law_1263 ?_
  refine lv_aload_n hx hb dL_law_1264 rfl (lv_at hl 1 rfl) ?_
  have hc2 : cells + 3 ≤ room_1.cells := by omega
  have hs2 : slots + 18 ≤ room_1.slots := by omega
  refine cL_ (As := [.ref (ad 0 0), .int (xs (i + 1)), .int (xs (i + 2)), .ref q]) (rest := []) (wc := WQ Y ad q cL V fo) (post := WM Y am F) (w1 := WQ Y ad q cL (lwS ["java/lang/IndexOutOfBoundsException", "java/lang/IllegalArgumentException"] V fo o).2.1 (lwS ["java/lang/IndexOutOfBoundsException", "java/lang/IllegalArgumentException"] V fo o).2.2) X hKL (kL_ask l hst Dd Y cL ad q V fo (xs (i + 1)) (xs (i + 2)) o h4 hE) (vx_cwSW 4 X.1.2.2.2.2 gL_law_L_ask rfl rfl rfl (by decide +kernel) ⟨(Nat.le_of_ble_eq_true rfl), (Nat.le_of_ble_eq_true rfl)⟩) hW rfl hl.1 rfl (Nat.le_of_ble_eq_true rfl) dL_law_1265 ⟨hc2, hs2⟩ (fun H locs hW => ?_)
  revert h6 h7 hW kk
  generalize (lwS ["java/lang/IndexOutOfBoundsException", "java/lang/IllegalArgumentException"] V fo o) = z
  obtain ⟨zk, V2, fo2⟩ := z
  intro h6 h7 kk hW
  refine lv_istore (lv' := (5, .int zk) :: LV b q (am 0) (ad 0 0) i) hx hb dL_law_1268 hl (by decide) rfl (fun ls hl => ?_)
  have hl0 : lv_has ls 9 (LV b q (am 0) (ad 0 0) i) := ⟨hl.1, hl.2.1, fun z hz => hl.2.2 z (List.mem_cons_of_mem _ hz)⟩
  refine lv_aload_n hx hb dL_law_1270 rfl (lv_at hl 3 rfl) ?_
  refine rd_ X hX hbl hbA hW.2.2 hl0 1 (by decide) (by omega) hL dL_law_1271 dL_law_1272 dL_law_1274 dL_law_1275 dL_law_1276 ?_
  refine rd_ X hX hbl hbA hW.2.2 hl0 2 (by decide) (by omega) hL dL_law_1277 dL_law_1278 dL_law_1280 dL_law_1281 dL_law_1282 ?_
  refine cVmi_ (As := [.int (xs (i + 1)), .int (xs (i + 2))]) (rest := []) (wc := WM Y am F) (post := WQ Y ad q cL V2 fo2) (w1 := WM Y am F') (ws' := (WL Y ad am q cL V2 fo2 F')) X (kX5_ask l Dd Y am F (xs (i + 1)) (xs (i + 2)) rb F' h5) (cwV 2 X.1.2.2.2.2 gL_law_X5_ask rfl rfl rfl (by decide +kernel) ⟨(Nat.le_of_ble_eq_true rfl), (Nat.le_of_ble_eq_true rfl)⟩) hW (wl_m ..) (wl_m ..).symm 0 5 rfl rfl rfl rfl hl.1 rfl (Nat.le_of_ble_eq_true rfl) dL_law_1283 ⟨hc2, hs2⟩ (fun H locs hW => ?_)
  refine lv_istore (lv' := (6, .int rb) :: (5, .int zk) :: LV b q (am 0) (ad 0 0) i) hx hb dL_law_1286 hl (by decide) rfl (fun ls hl => ?_)
  refine lv_aload_n hx hb dL_law_1288 rfl (lv_at hl 4 rfl) ?_
  refine cVmi_ (As := []) (rest := []) (wc := WM Y am F') (post := WQ Y ad q cL V2 fo2) (w1 := WM Y am F') (ws' := (WL Y ad am q cL V2 fo2 F')) X (kX5_thrown l Dd Y am F' (F' 0 0) rfl) (cwV 0 X.1.2.2.2.2 gL_law_X5_thrown rfl rfl rfl (by decide +kernel) ⟨(Nat.le_of_ble_eq_true rfl), (Nat.le_of_ble_eq_true rfl)⟩) hW (wl_m ..) (wl_m ..).symm 0 5 rfl rfl rfl rfl hl.1 rfl (Nat.le_of_ble_eq_true rfl) dL_law_1289 ⟨hc2, hs2⟩ (fun H locs hW => ?_)
  refine lv_iload hx hb dL_law_1292 (lv_at hl 1 rfl) ?_
  refine lv_icmp_eq (tgt := 1299) hx hb dL_law_1294 (by decide) (fun _ => ?_) (fun hne => absurd h6 hne)
  have fin : W p l e room_1 s m args below meth c H locs (cells + 3) (slots + 18) Q (F0 m 1718 ls []) := kk H locs ls (cells + 3) (slots + 18) (by omega) (by omega) hW ⟨hl.1, hl.2.1, fun z hz => hl.2.2 z (List.mem_cons_of_mem _ (List.mem_cons_of_mem _ hz))⟩
  refine lv_iload hx hb dL_law_1299 (lv_at hl 1 rfl) ?_
  refine lv_if_ne (tgt := 1316) hx hb dL_law_1301 (by decide) (fun _ => lv_goto (tgt := 1718) hx hb dL_law_1316 (by decide) fin) (fun hz => ?_)
  have h8 := h7 hz
  refine lv_aload_n hx hb dL_law_1304 rfl (lv_at hl 3 rfl) ?_
  refine lv_iconst (v := 0) hx hb dL_law_1305 (by decide) ?_
  refine va_lald hx hb hKL hW.1 65 0 rfl rfl (vp_in_nI (n := 0) (by decide) (by decide)) dL_law_1306 ?_
  show W p l e room_1 s m args below meth c H locs (cells + 3) (slots + 18) Q (F0 m 1307 ls [.long (fo2 0)])
  rw [show fo2 0 = _ from h8]
  refine lv_iload hx hb dL_law_1307 (lv_at hl 0 rfl) ?_
  refine lv_i2l (v := rb.toInt64) hx hb dL_law_1309 rfl ?_
  refine W.lcmp hx hb dL_law_1310 ?_
  rw [lg_cmp_self]
  refine lv_if_eq (tgt := 1316) hx hb dL_law_1311 (by decide) (fun _ => ?_) (fun hne => absurd rfl hne)
  exact lv_goto (tgt := 1718) hx hb dL_law_1316 (by decide) fin
set_option maxRecDepth 100000 in
set_option maxHeartbeats 4000000 in
theorem lc_22 (X : cx p s m args c cL_law 9 wsL_law RL Dd Y A) (hst : l.stackTraces = false) {cL : ClassId} (hKL : va_K Dd vwCl [(cL, .long)] s) {b L q i : Nat} {xs : Nat → Int32} {ad : Nat → Nat → Nat} {am : Nat → Nat} (hX : va_X b L xs s s.heap) (hbl : b < s.heap.size) (hbA : ¬ A b) (hi : i + 6 ≤ L) (hL : L ≤ 3072) {V V' : gX} {F F' : gF} {fo fo' : Nat → Int64} (h : LR 22 (xs (i + 1)) (xs (i + 2)) (xs (i + 3)) (xs (i + 4)) (xs (i + 5)) V F fo V' F' fo') (hW : Wd Dd A s.heap (WL Y ad am q cL V fo F) H locs) (hl : lv_has ls 9 (LV b q (am 0) (ad 0 0) i)) (hc : cells + 4 ≤ room_1.cells) (hs : slots + 24 ≤ room_1.slots)
    (kk : ∀ (H : Heap) (locs : List Loc) (ls : Array Slot) (cells' slots' : Nat), cells' ≤ cells + 4 → slots' ≤ slots + 24 → Wd Dd A s.heap (WL Y ad am q cL V' fo' F') H locs → lv_has ls 9 (LV b q (am 0) (ad 0 0) i) → W p l e room_1 s m args below meth c H locs cells' slots' Q (F0 m 1718 ls [])) : W p l e room_1 s m args below meth c H locs cells slots Q (F0 m 1319 ls []) := by
  have hx := X.x
  have hb := X.b
  obtain ⟨o, rb, h4, hE, h5, h6, h7, rfl, rfl⟩ := h
  refine lv_aload_n hx hb dL_law_1319 rfl (lv_at hl 3 rfl) ?_
  refine rd_ X hX hbl hbA hW.2.2 hl 1 (by decide) (by omega) hL dL_law_1320 dL_law_1321 dL_law_1323 dL_law_1324 dL_law_1325 ?_
  refine rd_ X hX hbl hbA hW.2.2 hl 2 (by decide) (by omega) hL dL_law_1326 dL_law_1327 dL_law_1329 dL_law_1330 dL_law_1331 ?_
  refine lv_aload_n hx hb dL_law_1332 rfl (lv_at hl 1 rfl) ?_
  have hc2 : cells + 4 ≤ room_1.cells := by omega
  have hs2 : slots + 24 ≤ room_1.slots := by omega
  refine cL_ (As := [.ref (ad 0 0), .int (xs (i + 1)), .int (xs (i + 2)), .ref q]) (rest := []) (wc := WQ Y ad q cL V fo) (post := WM Y am F) (w1 := WQ Y ad q cL (lwS ["java/lang/IndexOutOfBoundsException", "java/lang/IllegalArgumentException", "java/lang/IllegalStateException"] V fo o).2.1 (lwS ["java/lang/IndexOutOfBoundsException", "java/lang/IllegalArgumentException", "java/lang/IllegalStateException"] V fo o).2.2) X hKL (kL_keep l hst Dd Y cL ad q V fo (xs (i + 1)) (xs (i + 2)) o h4 hE) (vx_cwSW 4 X.1.2.2.2.2 gL_law_L_keep rfl rfl rfl (by decide +kernel) ⟨(Nat.le_of_ble_eq_true rfl), (Nat.le_of_ble_eq_true rfl)⟩) hW rfl hl.1 rfl (Nat.le_of_ble_eq_true rfl) dL_law_1333 ⟨hc2, hs2⟩ (fun H locs hW => ?_)
  revert h6 h7 hW kk
  generalize (lwS ["java/lang/IndexOutOfBoundsException", "java/lang/IllegalArgumentException", "java/lang/IllegalStateException"] V fo o) = z
  obtain ⟨zk, V2, fo2⟩ := z
  intro h6 h7 kk hW
  refine lv_istore (lv' := (5, .int zk) :: LV b q (am 0) (ad 0 0) i) hx hb dL_law_1336 hl (by decide) rfl (fun ls hl => ?_)
  have hl0 : lv_has ls 9 (LV b q (am 0) (ad 0 0) i) := ⟨hl.1, hl.2.1, fun z hz => hl.2.2 z (List.mem_cons_of_mem _ hz)⟩
  refine lv_aload_n hx hb dL_law_1338 rfl (lv_at hl 3 rfl) ?_
  refine rd_ X hX hbl hbA hW.2.2 hl0 1 (by decide) (by omega) hL dL_law_1339 dL_law_1340 dL_law_1342 dL_law_1343 dL_law_1344 ?_
  refine rd_ X hX hbl hbA hW.2.2 hl0 2 (by decide) (by omega) hL dL_law_1345 dL_law_1346 dL_law_1348 dL_law_1349 dL_law_1350 ?_
  refine cVmi_ (As := [.int (xs (i + 1)), .int (xs (i + 2))]) (rest := []) (wc := WM Y am F) (post := WQ Y ad q cL V2 fo2) (w1 := WM Y am F') (ws' := (WL Y ad am q cL V2 fo2 F')) X (kX5_keep l Dd Y am F (xs (i + 1)) (xs (i + 2)) rb F' h5) (cwV 2 X.1.2.2.2.2 gL_law_X5_keep rfl rfl rfl (by decide +kernel) ⟨(Nat.le_of_ble_eq_true rfl), (Nat.le_of_ble_eq_true rfl)⟩) hW (wl_m ..) (wl_m ..).symm 0 5 rfl rfl rfl rfl hl.1 rfl (Nat.le_of_ble_eq_true rfl) dL_law_1351 ⟨hc2, hs2⟩ (fun H locs hW => ?_)
  refine lv_istore (lv' := (6, .int rb) :: (5, .int zk) :: LV b q (am 0) (ad 0 0) i) hx hb dL_law_1354 hl (by decide) rfl (fun ls hl => ?_)
  refine lv_aload_n hx hb dL_law_1356 rfl (lv_at hl 4 rfl) ?_
  refine cVmi_ (As := []) (rest := []) (wc := WM Y am F') (post := WQ Y ad q cL V2 fo2) (w1 := WM Y am F') (ws' := (WL Y ad am q cL V2 fo2 F')) X (kX5_thrown l Dd Y am F' (F' 0 0) rfl) (cwV 0 X.1.2.2.2.2 gL_law_X5_thrown rfl rfl rfl (by decide +kernel) ⟨(Nat.le_of_ble_eq_true rfl), (Nat.le_of_ble_eq_true rfl)⟩) hW (wl_m ..) (wl_m ..).symm 0 5 rfl rfl rfl rfl hl.1 rfl (Nat.le_of_ble_eq_true rfl) dL_law_1357 ⟨hc2, hs2⟩ (fun H locs hW => ?_)
  refine lv_iload hx hb dL_law_1360 (lv_at hl 1 rfl) ?_
  refine lv_icmp_eq (tgt := 1367) hx hb dL_law_1362 (by decide) (fun _ => ?_) (fun hne => absurd h6 hne)
  have fin : W p l e room_1 s m args below meth c H locs (cells + 4) (slots + 24) Q (F0 m 1718 ls []) := kk H locs ls (cells + 4) (slots + 24) (by omega) (by omega) hW ⟨hl.1, hl.2.1, fun z hz => hl.2.2 z (List.mem_cons_of_mem _ (List.mem_cons_of_mem _ hz))⟩
  refine lv_iload hx hb dL_law_1367 (lv_at hl 1 rfl) ?_
  refine lv_if_ne (tgt := 1384) hx hb dL_law_1369 (by decide) (fun _ => lv_goto (tgt := 1718) hx hb dL_law_1384 (by decide) fin) (fun hz => ?_)
  have h8 := h7 hz
  refine lv_aload_n hx hb dL_law_1372 rfl (lv_at hl 3 rfl) ?_
  refine lv_iconst (v := 0) hx hb dL_law_1373 (by decide) ?_
  refine va_lald hx hb hKL hW.1 65 0 rfl rfl (vp_in_nI (n := 0) (by decide) (by decide)) dL_law_1374 ?_
  show W p l e room_1 s m args below meth c H locs (cells + 4) (slots + 24) Q (F0 m 1375 ls [.long (fo2 0)])
  rw [show fo2 0 = _ from h8]
  refine lv_iload hx hb dL_law_1375 (lv_at hl 0 rfl) ?_
  refine lv_i2l (v := rb.toInt64) hx hb dL_law_1377 rfl ?_
  refine W.lcmp hx hb dL_law_1378 ?_
  rw [lg_cmp_self]
  refine lv_if_eq (tgt := 1384) hx hb dL_law_1379 (by decide) (fun _ => ?_) (fun hne => absurd rfl hne)
  exact lv_goto (tgt := 1718) hx hb dL_law_1384 (by decide) fin
set_option maxRecDepth 100000 in
set_option maxHeartbeats 4000000 in
theorem lc_23 (X : cx p s m args c cL_law 9 wsL_law RL Dd Y A) (hst : l.stackTraces = false) {cL : ClassId} (hKL : va_K Dd vwCl [(cL, .long)] s) {b L q i : Nat} {xs : Nat → Int32} {ad : Nat → Nat → Nat} {am : Nat → Nat} (hX : va_X b L xs s s.heap) (hbl : b < s.heap.size) (hbA : ¬ A b) (hi : i + 6 ≤ L) (hL : L ≤ 3072) {V V' : gX} {F F' : gF} {fo fo' : Nat → Int64} (h : LR 23 (xs (i + 1)) (xs (i + 2)) (xs (i + 3)) (xs (i + 4)) (xs (i + 5)) V F fo V' F' fo') (hW : Wd Dd A s.heap (WL Y ad am q cL V fo F) H locs) (hl : lv_has ls 9 (LV b q (am 0) (ad 0 0) i)) (hc : cells + 4 ≤ room_1.cells) (hs : slots + 24 ≤ room_1.slots)
    (kk : ∀ (H : Heap) (locs : List Loc) (ls : Array Slot) (cells' slots' : Nat), cells' ≤ cells + 4 → slots' ≤ slots + 24 → Wd Dd A s.heap (WL Y ad am q cL V' fo' F') H locs → lv_has ls 9 (LV b q (am 0) (ad 0 0) i) → W p l e room_1 s m args below meth c H locs cells' slots' Q (F0 m 1718 ls [])) : W p l e room_1 s m args below meth c H locs cells slots Q (F0 m 1387 ls []) := by
  have hx := X.x
  have hb := X.b
  obtain ⟨o, rb, h4, hE, h5, h6, h7, rfl, rfl⟩ := h
  refine lv_aload_n hx hb dL_law_1387 rfl (lv_at hl 3 rfl) ?_
  refine rd_ X hX hbl hbA hW.2.2 hl 1 (by decide) (by omega) hL dL_law_1388 dL_law_1389 dL_law_1391 dL_law_1392 dL_law_1393 ?_
  refine lv_aload_n hx hb dL_law_1394 rfl (lv_at hl 1 rfl) ?_
  have hc2 : cells + 1 ≤ room_1.cells := by omega
  have hs2 : slots + 6 ≤ room_1.slots := by omega
  refine cL_ (As := [.ref (ad 0 0), .int (xs (i + 1)), .ref q]) (rest := []) (wc := WQ Y ad q cL V fo) (post := WM Y am F) (w1 := WQ Y ad q cL (lwS ["java/util/NoSuchElementException"] V fo o).2.1 (lwS ["java/util/NoSuchElementException"] V fo o).2.2) X hKL (kL_forget l hst Dd Y cL ad q V fo (xs (i + 1)) o h4 hE) (vx_cwSW 3 X.1.2.2.2.2 gL_law_L_forget rfl rfl rfl (by decide +kernel) ⟨(Nat.le_of_ble_eq_true rfl), (Nat.le_of_ble_eq_true rfl)⟩) hW rfl hl.1 rfl (Nat.le_of_ble_eq_true rfl) dL_law_1395 ⟨hc2, hs2⟩ (fun H locs hW => ?_)
  revert h6 h7 hW kk
  generalize (lwS ["java/util/NoSuchElementException"] V fo o) = z
  obtain ⟨zk, V2, fo2⟩ := z
  intro h6 h7 kk hW
  refine lv_istore (lv' := (5, .int zk) :: LV b q (am 0) (ad 0 0) i) hx hb dL_law_1398 hl (by decide) rfl (fun ls hl => ?_)
  have hl0 : lv_has ls 9 (LV b q (am 0) (ad 0 0) i) := ⟨hl.1, hl.2.1, fun z hz => hl.2.2 z (List.mem_cons_of_mem _ hz)⟩
  refine lv_aload_n hx hb dL_law_1400 rfl (lv_at hl 3 rfl) ?_
  refine rd_ X hX hbl hbA hW.2.2 hl0 1 (by decide) (by omega) hL dL_law_1401 dL_law_1402 dL_law_1404 dL_law_1405 dL_law_1406 ?_
  refine cVmi_ (As := [.int (xs (i + 1))]) (rest := []) (wc := WM Y am F) (post := WQ Y ad q cL V2 fo2) (w1 := WM Y am F') (ws' := (WL Y ad am q cL V2 fo2 F')) X (kX5_forget l Dd Y am F (xs (i + 1)) rb F' h5) (cwV 1 X.1.2.2.2.2 gL_law_X5_forget rfl rfl rfl (by decide +kernel) ⟨(Nat.le_of_ble_eq_true rfl), (Nat.le_of_ble_eq_true rfl)⟩) hW (wl_m ..) (wl_m ..).symm 0 5 rfl rfl rfl rfl hl.1 rfl (Nat.le_of_ble_eq_true rfl) dL_law_1407 ⟨hc2, hs2⟩ (fun H locs hW => ?_)
  refine lv_istore (lv' := (6, .int rb) :: (5, .int zk) :: LV b q (am 0) (ad 0 0) i) hx hb dL_law_1410 hl (by decide) rfl (fun ls hl => ?_)
  refine lv_aload_n hx hb dL_law_1412 rfl (lv_at hl 4 rfl) ?_
  refine cVmi_ (As := []) (rest := []) (wc := WM Y am F') (post := WQ Y ad q cL V2 fo2) (w1 := WM Y am F') (ws' := (WL Y ad am q cL V2 fo2 F')) X (kX5_thrown l Dd Y am F' (F' 0 0) rfl) (cwV 0 X.1.2.2.2.2 gL_law_X5_thrown rfl rfl rfl (by decide +kernel) ⟨(Nat.le_of_ble_eq_true rfl), (Nat.le_of_ble_eq_true rfl)⟩) hW (wl_m ..) (wl_m ..).symm 0 5 rfl rfl rfl rfl hl.1 rfl (Nat.le_of_ble_eq_true rfl) dL_law_1413 ⟨hc2, hs2⟩ (fun H locs hW => ?_)
  refine lv_iload hx hb dL_law_1416 (lv_at hl 1 rfl) ?_
  refine lv_icmp_eq (tgt := 1423) hx hb dL_law_1418 (by decide) (fun _ => ?_) (fun hne => absurd h6 hne)
  have fin : W p l e room_1 s m args below meth c H locs (cells + 1) (slots + 6) Q (F0 m 1718 ls []) := kk H locs ls (cells + 1) (slots + 6) (by omega) (by omega) hW ⟨hl.1, hl.2.1, fun z hz => hl.2.2 z (List.mem_cons_of_mem _ (List.mem_cons_of_mem _ hz))⟩
  refine lv_iload hx hb dL_law_1423 (lv_at hl 1 rfl) ?_
  refine lv_if_ne (tgt := 1440) hx hb dL_law_1425 (by decide) (fun _ => lv_goto (tgt := 1718) hx hb dL_law_1440 (by decide) fin) (fun hz => ?_)
  have h8 := h7 hz
  refine lv_aload_n hx hb dL_law_1428 rfl (lv_at hl 3 rfl) ?_
  refine lv_iconst (v := 0) hx hb dL_law_1429 (by decide) ?_
  refine va_lald hx hb hKL hW.1 65 0 rfl rfl (vp_in_nI (n := 0) (by decide) (by decide)) dL_law_1430 ?_
  show W p l e room_1 s m args below meth c H locs (cells + 1) (slots + 6) Q (F0 m 1431 ls [.long (fo2 0)])
  rw [show fo2 0 = _ from h8]
  refine lv_iload hx hb dL_law_1431 (lv_at hl 0 rfl) ?_
  refine lv_i2l (v := rb.toInt64) hx hb dL_law_1433 rfl ?_
  refine W.lcmp hx hb dL_law_1434 ?_
  rw [lg_cmp_self]
  refine lv_if_eq (tgt := 1440) hx hb dL_law_1435 (by decide) (fun _ => ?_) (fun hne => absurd rfl hne)
  exact lv_goto (tgt := 1718) hx hb dL_law_1440 (by decide) fin
set_option maxRecDepth 100000 in
set_option maxHeartbeats 4000000 in
theorem lc_24 (X : cx p s m args c cL_law 9 wsL_law RL Dd Y A) (hst : l.stackTraces = false) {cL : ClassId} (hKL : va_K Dd vwCl [(cL, .long)] s) {b L q i : Nat} {xs : Nat → Int32} {ad : Nat → Nat → Nat} {am : Nat → Nat} (hX : va_X b L xs s s.heap) (hbl : b < s.heap.size) (hbA : ¬ A b) (hi : i + 6 ≤ L) (hL : L ≤ 3072) {V V' : gX} {F F' : gF} {fo fo' : Nat → Int64} (h : LR 24 (xs (i + 1)) (xs (i + 2)) (xs (i + 3)) (xs (i + 4)) (xs (i + 5)) V F fo V' F' fo') (hW : Wd Dd A s.heap (WL Y ad am q cL V fo F) H locs) (hl : lv_has ls 9 (LV b q (am 0) (ad 0 0) i)) (hc : cells + 4 ≤ room_1.cells) (hs : slots + 24 ≤ room_1.slots)
    (kk : ∀ (H : Heap) (locs : List Loc) (ls : Array Slot) (cells' slots' : Nat), cells' ≤ cells + 4 → slots' ≤ slots + 24 → Wd Dd A s.heap (WL Y ad am q cL V' fo' F') H locs → lv_has ls 9 (LV b q (am 0) (ad 0 0) i) → W p l e room_1 s m args below meth c H locs cells' slots' Q (F0 m 1718 ls [])) : W p l e room_1 s m args below meth c H locs cells slots Q (F0 m 1443 ls []) := by
  have hx := X.x
  have hb := X.b
  obtain ⟨o, rb, h4, hE, h5, h6, h7, rfl, rfl⟩ := h
  refine lv_aload_n hx hb dL_law_1443 rfl (lv_at hl 3 rfl) ?_
  refine rd_ X hX hbl hbA hW.2.2 hl 1 (by decide) (by omega) hL dL_law_1444 dL_law_1445 dL_law_1447 dL_law_1448 dL_law_1449 ?_
  refine lv_aload_n hx hb dL_law_1450 rfl (lv_at hl 1 rfl) ?_
  have hc2 : cells + 1 ≤ room_1.cells := by omega
  have hs2 : slots + 6 ≤ room_1.slots := by omega
  refine cL_ (As := [.ref (ad 0 0), .int (xs (i + 1)), .ref q]) (rest := []) (wc := WQ Y ad q cL V fo) (post := WM Y am F) (w1 := WQ Y ad q cL (lwS ["java/lang/IllegalArgumentException"] V fo o).2.1 (lwS ["java/lang/IllegalArgumentException"] V fo o).2.2) X hKL (kL_sweep l hst Dd Y cL ad q V fo (xs (i + 1)) o h4 hE) (vx_cwSW 3 X.1.2.2.2.2 gL_law_L_sweep rfl rfl rfl (by decide +kernel) ⟨(Nat.le_of_ble_eq_true rfl), (Nat.le_of_ble_eq_true rfl)⟩) hW rfl hl.1 rfl (Nat.le_of_ble_eq_true rfl) dL_law_1451 ⟨hc2, hs2⟩ (fun H locs hW => ?_)
  revert h6 h7 hW kk
  generalize (lwS ["java/lang/IllegalArgumentException"] V fo o) = z
  obtain ⟨zk, V2, fo2⟩ := z
  intro h6 h7 kk hW
  refine lv_istore (lv' := (5, .int zk) :: LV b q (am 0) (ad 0 0) i) hx hb dL_law_1454 hl (by decide) rfl (fun ls hl => ?_)
  have hl0 : lv_has ls 9 (LV b q (am 0) (ad 0 0) i) := ⟨hl.1, hl.2.1, fun z hz => hl.2.2 z (List.mem_cons_of_mem _ hz)⟩
  refine lv_aload_n hx hb dL_law_1456 rfl (lv_at hl 3 rfl) ?_
  refine rd_ X hX hbl hbA hW.2.2 hl0 1 (by decide) (by omega) hL dL_law_1457 dL_law_1458 dL_law_1460 dL_law_1461 dL_law_1462 ?_
  refine cVmi_ (As := [.int (xs (i + 1))]) (rest := []) (wc := WM Y am F) (post := WQ Y ad q cL V2 fo2) (w1 := WM Y am F') (ws' := (WL Y ad am q cL V2 fo2 F')) X (kX5_sweep l Dd Y am F (xs (i + 1)) rb F' h5) (cwV 1 X.1.2.2.2.2 gL_law_X5_sweep rfl rfl rfl (by decide +kernel) ⟨(Nat.le_of_ble_eq_true rfl), (Nat.le_of_ble_eq_true rfl)⟩) hW (wl_m ..) (wl_m ..).symm 0 5 rfl rfl rfl rfl hl.1 rfl (Nat.le_of_ble_eq_true rfl) dL_law_1463 ⟨hc2, hs2⟩ (fun H locs hW => ?_)
  refine lv_istore (lv' := (6, .int rb) :: (5, .int zk) :: LV b q (am 0) (ad 0 0) i) hx hb dL_law_1466 hl (by decide) rfl (fun ls hl => ?_)
  refine lv_aload_n hx hb dL_law_1468 rfl (lv_at hl 4 rfl) ?_
  refine cVmi_ (As := []) (rest := []) (wc := WM Y am F') (post := WQ Y ad q cL V2 fo2) (w1 := WM Y am F') (ws' := (WL Y ad am q cL V2 fo2 F')) X (kX5_thrown l Dd Y am F' (F' 0 0) rfl) (cwV 0 X.1.2.2.2.2 gL_law_X5_thrown rfl rfl rfl (by decide +kernel) ⟨(Nat.le_of_ble_eq_true rfl), (Nat.le_of_ble_eq_true rfl)⟩) hW (wl_m ..) (wl_m ..).symm 0 5 rfl rfl rfl rfl hl.1 rfl (Nat.le_of_ble_eq_true rfl) dL_law_1469 ⟨hc2, hs2⟩ (fun H locs hW => ?_)
  refine lv_iload hx hb dL_law_1472 (lv_at hl 1 rfl) ?_
  refine lv_icmp_eq (tgt := 1479) hx hb dL_law_1474 (by decide) (fun _ => ?_) (fun hne => absurd h6 hne)
  have fin : W p l e room_1 s m args below meth c H locs (cells + 1) (slots + 6) Q (F0 m 1718 ls []) := kk H locs ls (cells + 1) (slots + 6) (by omega) (by omega) hW ⟨hl.1, hl.2.1, fun z hz => hl.2.2 z (List.mem_cons_of_mem _ (List.mem_cons_of_mem _ hz))⟩
  refine lv_iload hx hb dL_law_1479 (lv_at hl 1 rfl) ?_
  refine lv_if_ne (tgt := 1496) hx hb dL_law_1481 (by decide) (fun _ => lv_goto (tgt := 1718) hx hb dL_law_1496 (by decide) fin) (fun hz => ?_)
  have h8 := h7 hz
  refine lv_aload_n hx hb dL_law_1484 rfl (lv_at hl 3 rfl) ?_
  refine lv_iconst (v := 0) hx hb dL_law_1485 (by decide) ?_
  refine va_lald hx hb hKL hW.1 65 0 rfl rfl (vp_in_nI (n := 0) (by decide) (by decide)) dL_law_1486 ?_
  show W p l e room_1 s m args below meth c H locs (cells + 1) (slots + 6) Q (F0 m 1487 ls [.long (fo2 0)])
  rw [show fo2 0 = _ from h8]
  refine lv_iload hx hb dL_law_1487 (lv_at hl 0 rfl) ?_
  refine lv_i2l (v := rb.toInt64) hx hb dL_law_1489 rfl ?_
  refine W.lcmp hx hb dL_law_1490 ?_
  rw [lg_cmp_self]
  refine lv_if_eq (tgt := 1496) hx hb dL_law_1491 (by decide) (fun _ => ?_) (fun hne => absurd rfl hne)
  exact lv_goto (tgt := 1718) hx hb dL_law_1496 (by decide) fin
set_option maxRecDepth 100000 in
set_option maxHeartbeats 4000000 in
theorem lc_25 (X : cx p s m args c cL_law 9 wsL_law RL Dd Y A) (hst : l.stackTraces = false) {cL : ClassId} (hKL : va_K Dd vwCl [(cL, .long)] s) {b L q i : Nat} {xs : Nat → Int32} {ad : Nat → Nat → Nat} {am : Nat → Nat} (hX : va_X b L xs s s.heap) (hbl : b < s.heap.size) (hbA : ¬ A b) (hi : i + 6 ≤ L) (hL : L ≤ 3072) {V V' : gX} {F F' : gF} {fo fo' : Nat → Int64} (h : LR 25 (xs (i + 1)) (xs (i + 2)) (xs (i + 3)) (xs (i + 4)) (xs (i + 5)) V F fo V' F' fo') (hW : Wd Dd A s.heap (WL Y ad am q cL V fo F) H locs) (hl : lv_has ls 9 (LV b q (am 0) (ad 0 0) i)) (hc : cells + 4 ≤ room_1.cells) (hs : slots + 24 ≤ room_1.slots)
    (kk : ∀ (H : Heap) (locs : List Loc) (ls : Array Slot) (cells' slots' : Nat), cells' ≤ cells + 4 → slots' ≤ slots + 24 → Wd Dd A s.heap (WL Y ad am q cL V' fo' F') H locs → lv_has ls 9 (LV b q (am 0) (ad 0 0) i) → W p l e room_1 s m args below meth c H locs cells' slots' Q (F0 m 1718 ls [])) : W p l e room_1 s m args below meth c H locs cells slots Q (F0 m 1499 ls []) := by
  have hx := X.x
  have hb := X.b
  obtain ⟨o, rb, h4, hE, h5, h6, h7, rfl, rfl⟩ := h
  refine lv_aload_n hx hb dL_law_1499 rfl (lv_at hl 3 rfl) ?_
  refine rd_ X hX hbl hbA hW.2.2 hl 1 (by decide) (by omega) hL dL_law_1500 dL_law_1501 dL_law_1503 dL_law_1504 dL_law_1505 ?_
  refine rd_ X hX hbl hbA hW.2.2 hl 2 (by decide) (by omega) hL dL_law_1506 dL_law_1507 dL_law_1509 dL_law_1510 dL_law_1511 ?_
  refine lv_aload_n hx hb dL_law_1512 rfl (lv_at hl 1 rfl) ?_
  have hc2 : cells + 3 ≤ room_1.cells := by omega
  have hs2 : slots + 18 ≤ room_1.slots := by omega
  refine cL_ (As := [.ref (ad 0 0), .int (xs (i + 1)), .int (xs (i + 2)), .ref q]) (rest := []) (wc := WQ Y ad q cL V fo) (post := WM Y am F) (w1 := WQ Y ad q cL (lwS ["java/lang/IndexOutOfBoundsException", "java/lang/IllegalArgumentException", "java/lang/IllegalStateException"] V fo o).2.1 (lwS ["java/lang/IndexOutOfBoundsException", "java/lang/IllegalArgumentException", "java/lang/IllegalStateException"] V fo o).2.2) X hKL (kL_put l hst Dd Y cL ad q V fo (xs (i + 1)) (xs (i + 2)) o h4 hE) (vx_cwSW 4 X.1.2.2.2.2 gL_law_L_put rfl rfl rfl (by decide +kernel) ⟨(Nat.le_of_ble_eq_true rfl), (Nat.le_of_ble_eq_true rfl)⟩) hW rfl hl.1 rfl (Nat.le_of_ble_eq_true rfl) dL_law_1513 ⟨hc2, hs2⟩ (fun H locs hW => ?_)
  revert h6 h7 hW kk
  generalize (lwS ["java/lang/IndexOutOfBoundsException", "java/lang/IllegalArgumentException", "java/lang/IllegalStateException"] V fo o) = z
  obtain ⟨zk, V2, fo2⟩ := z
  intro h6 h7 kk hW
  refine lv_istore (lv' := (5, .int zk) :: LV b q (am 0) (ad 0 0) i) hx hb dL_law_1516 hl (by decide) rfl (fun ls hl => ?_)
  have hl0 : lv_has ls 9 (LV b q (am 0) (ad 0 0) i) := ⟨hl.1, hl.2.1, fun z hz => hl.2.2 z (List.mem_cons_of_mem _ hz)⟩
  refine lv_aload_n hx hb dL_law_1518 rfl (lv_at hl 3 rfl) ?_
  refine rd_ X hX hbl hbA hW.2.2 hl0 1 (by decide) (by omega) hL dL_law_1519 dL_law_1520 dL_law_1522 dL_law_1523 dL_law_1524 ?_
  refine rd_ X hX hbl hbA hW.2.2 hl0 2 (by decide) (by omega) hL dL_law_1525 dL_law_1526 dL_law_1528 dL_law_1529 dL_law_1530 ?_
  refine cVmi_ (As := [.int (xs (i + 1)), .int (xs (i + 2))]) (rest := []) (wc := WM Y am F) (post := WQ Y ad q cL V2 fo2) (w1 := WM Y am F') (ws' := (WL Y ad am q cL V2 fo2 F')) X (kX5_put l Dd Y am F (xs (i + 1)) (xs (i + 2)) rb F' h5) (cwV 2 X.1.2.2.2.2 gL_law_X5_put rfl rfl rfl (by decide +kernel) ⟨(Nat.le_of_ble_eq_true rfl), (Nat.le_of_ble_eq_true rfl)⟩) hW (wl_m ..) (wl_m ..).symm 0 5 rfl rfl rfl rfl hl.1 rfl (Nat.le_of_ble_eq_true rfl) dL_law_1531 ⟨hc2, hs2⟩ (fun H locs hW => ?_)
  refine lv_istore (lv' := (6, .int rb) :: (5, .int zk) :: LV b q (am 0) (ad 0 0) i) hx hb dL_law_1534 hl (by decide) rfl (fun ls hl => ?_)
  refine lv_aload_n hx hb dL_law_1536 rfl (lv_at hl 4 rfl) ?_
  refine cVmi_ (As := []) (rest := []) (wc := WM Y am F') (post := WQ Y ad q cL V2 fo2) (w1 := WM Y am F') (ws' := (WL Y ad am q cL V2 fo2 F')) X (kX5_thrown l Dd Y am F' (F' 0 0) rfl) (cwV 0 X.1.2.2.2.2 gL_law_X5_thrown rfl rfl rfl (by decide +kernel) ⟨(Nat.le_of_ble_eq_true rfl), (Nat.le_of_ble_eq_true rfl)⟩) hW (wl_m ..) (wl_m ..).symm 0 5 rfl rfl rfl rfl hl.1 rfl (Nat.le_of_ble_eq_true rfl) dL_law_1537 ⟨hc2, hs2⟩ (fun H locs hW => ?_)
  refine lv_iload hx hb dL_law_1540 (lv_at hl 1 rfl) ?_
  refine lv_icmp_eq (tgt := 1547) hx hb dL_law_1542 (by decide) (fun _ => ?_) (fun hne => absurd h6 hne)
  have fin : W p l e room_1 s m args below meth c H locs (cells + 3) (slots + 18) Q (F0 m 1718 ls []) := kk H locs ls (cells + 3) (slots + 18) (by omega) (by omega) hW ⟨hl.1, hl.2.1, fun z hz => hl.2.2 z (List.mem_cons_of_mem _ (List.mem_cons_of_mem _ hz))⟩
  refine lv_iload hx hb dL_law_1547 (lv_at hl 1 rfl) ?_
  refine lv_if_ne (tgt := 1564) hx hb dL_law_1549 (by decide) (fun _ => lv_goto (tgt := 1718) hx hb dL_law_1564 (by decide) fin) (fun hz => ?_)
  have h8 := h7 hz
  refine lv_aload_n hx hb dL_law_1552 rfl (lv_at hl 3 rfl) ?_
  refine lv_iconst (v := 0) hx hb dL_law_1553 (by decide) ?_
  refine va_lald hx hb hKL hW.1 65 0 rfl rfl (vp_in_nI (n := 0) (by decide) (by decide)) dL_law_1554 ?_
  show W p l e room_1 s m args below meth c H locs (cells + 3) (slots + 18) Q (F0 m 1555 ls [.long (fo2 0)])
  rw [show fo2 0 = _ from h8]
  refine lv_iload hx hb dL_law_1555 (lv_at hl 0 rfl) ?_
  refine lv_i2l (v := rb.toInt64) hx hb dL_law_1557 rfl ?_
  refine W.lcmp hx hb dL_law_1558 ?_
  rw [lg_cmp_self]
  refine lv_if_eq (tgt := 1564) hx hb dL_law_1559 (by decide) (fun _ => ?_) (fun hne => absurd rfl hne)
  exact lv_goto (tgt := 1718) hx hb dL_law_1564 (by decide) fin
set_option maxRecDepth 100000 in
set_option maxHeartbeats 4000000 in
theorem lc_26 (X : cx p s m args c cL_law 9 wsL_law RL Dd Y A) (hst : l.stackTraces = false) {cL : ClassId} (hKL : va_K Dd vwCl [(cL, .long)] s) {b L q i : Nat} {xs : Nat → Int32} {ad : Nat → Nat → Nat} {am : Nat → Nat} (hX : va_X b L xs s s.heap) (hbl : b < s.heap.size) (hbA : ¬ A b) (hi : i + 6 ≤ L) (hL : L ≤ 3072) {V V' : gX} {F F' : gF} {fo fo' : Nat → Int64} (h : LR 26 (xs (i + 1)) (xs (i + 2)) (xs (i + 3)) (xs (i + 4)) (xs (i + 5)) V F fo V' F' fo') (hW : Wd Dd A s.heap (WL Y ad am q cL V fo F) H locs) (hl : lv_has ls 9 (LV b q (am 0) (ad 0 0) i)) (hc : cells + 4 ≤ room_1.cells) (hs : slots + 24 ≤ room_1.slots)
    (kk : ∀ (H : Heap) (locs : List Loc) (ls : Array Slot) (cells' slots' : Nat), cells' ≤ cells + 4 → slots' ≤ slots + 24 → Wd Dd A s.heap (WL Y ad am q cL V' fo' F') H locs → lv_has ls 9 (LV b q (am 0) (ad 0 0) i) → W p l e room_1 s m args below meth c H locs cells' slots' Q (F0 m 1718 ls [])) : W p l e room_1 s m args below meth c H locs cells slots Q (F0 m 1567 ls []) := by
  have hx := X.x
  have hb := X.b
  obtain ⟨o, rb, h4, hE, h5, h6, h7, rfl, rfl⟩ := h
  refine lv_aload_n hx hb dL_law_1567 rfl (lv_at hl 3 rfl) ?_
  refine rd_ X hX hbl hbA hW.2.2 hl 1 (by decide) (by omega) hL dL_law_1568 dL_law_1569 dL_law_1571 dL_law_1572 dL_law_1573 ?_
  refine lv_aload_n hx hb dL_law_1574 rfl (lv_at hl 1 rfl) ?_
  have hc2 : cells + 2 ≤ room_1.cells := by omega
  have hs2 : slots + 12 ≤ room_1.slots := by omega
  refine cL_ (As := [.ref (ad 0 0), .int (xs (i + 1)), .ref q]) (rest := []) (wc := WQ Y ad q cL V fo) (post := WM Y am F) (w1 := WQ Y ad q cL (lwS ["java/lang/IndexOutOfBoundsException", "java/lang/IllegalStateException"] V fo o).2.1 (lwS ["java/lang/IndexOutOfBoundsException", "java/lang/IllegalStateException"] V fo o).2.2) X hKL (kL_take l hst Dd Y cL ad q V fo (xs (i + 1)) o h4 hE) (vx_cwSW 3 X.1.2.2.2.2 gL_law_L_take rfl rfl rfl (by decide +kernel) ⟨(Nat.le_of_ble_eq_true rfl), (Nat.le_of_ble_eq_true rfl)⟩) hW rfl hl.1 rfl (Nat.le_of_ble_eq_true rfl) dL_law_1575 ⟨hc2, hs2⟩ (fun H locs hW => ?_)
  revert h6 h7 hW kk
  generalize (lwS ["java/lang/IndexOutOfBoundsException", "java/lang/IllegalStateException"] V fo o) = z
  obtain ⟨zk, V2, fo2⟩ := z
  intro h6 h7 kk hW
  refine lv_istore (lv' := (5, .int zk) :: LV b q (am 0) (ad 0 0) i) hx hb dL_law_1578 hl (by decide) rfl (fun ls hl => ?_)
  have hl0 : lv_has ls 9 (LV b q (am 0) (ad 0 0) i) := ⟨hl.1, hl.2.1, fun z hz => hl.2.2 z (List.mem_cons_of_mem _ hz)⟩
  refine lv_aload_n hx hb dL_law_1580 rfl (lv_at hl 3 rfl) ?_
  refine rd_ X hX hbl hbA hW.2.2 hl0 1 (by decide) (by omega) hL dL_law_1581 dL_law_1582 dL_law_1584 dL_law_1585 dL_law_1586 ?_
  refine cVmi_ (As := [.int (xs (i + 1))]) (rest := []) (wc := WM Y am F) (post := WQ Y ad q cL V2 fo2) (w1 := WM Y am F') (ws' := (WL Y ad am q cL V2 fo2 F')) X (kX5_take l Dd Y am F (xs (i + 1)) rb F' h5) (cwV 1 X.1.2.2.2.2 gL_law_X5_take rfl rfl rfl (by decide +kernel) ⟨(Nat.le_of_ble_eq_true rfl), (Nat.le_of_ble_eq_true rfl)⟩) hW (wl_m ..) (wl_m ..).symm 0 5 rfl rfl rfl rfl hl.1 rfl (Nat.le_of_ble_eq_true rfl) dL_law_1587 ⟨hc2, hs2⟩ (fun H locs hW => ?_)
  refine lv_istore (lv' := (6, .int rb) :: (5, .int zk) :: LV b q (am 0) (ad 0 0) i) hx hb dL_law_1590 hl (by decide) rfl (fun ls hl => ?_)
  refine lv_aload_n hx hb dL_law_1592 rfl (lv_at hl 4 rfl) ?_
  refine cVmi_ (As := []) (rest := []) (wc := WM Y am F') (post := WQ Y ad q cL V2 fo2) (w1 := WM Y am F') (ws' := (WL Y ad am q cL V2 fo2 F')) X (kX5_thrown l Dd Y am F' (F' 0 0) rfl) (cwV 0 X.1.2.2.2.2 gL_law_X5_thrown rfl rfl rfl (by decide +kernel) ⟨(Nat.le_of_ble_eq_true rfl), (Nat.le_of_ble_eq_true rfl)⟩) hW (wl_m ..) (wl_m ..).symm 0 5 rfl rfl rfl rfl hl.1 rfl (Nat.le_of_ble_eq_true rfl) dL_law_1593 ⟨hc2, hs2⟩ (fun H locs hW => ?_)
  refine lv_iload hx hb dL_law_1596 (lv_at hl 1 rfl) ?_
  refine lv_icmp_eq (tgt := 1603) hx hb dL_law_1598 (by decide) (fun _ => ?_) (fun hne => absurd h6 hne)
  have fin : W p l e room_1 s m args below meth c H locs (cells + 2) (slots + 12) Q (F0 m 1718 ls []) := kk H locs ls (cells + 2) (slots + 12) (by omega) (by omega) hW ⟨hl.1, hl.2.1, fun z hz => hl.2.2 z (List.mem_cons_of_mem _ (List.mem_cons_of_mem _ hz))⟩
  refine lv_iload hx hb dL_law_1603 (lv_at hl 1 rfl) ?_
  refine lv_if_ne (tgt := 1620) hx hb dL_law_1605 (by decide) (fun _ => lv_goto (tgt := 1718) hx hb dL_law_1620 (by decide) fin) (fun hz => ?_)
  have h8 := h7 hz
  refine lv_aload_n hx hb dL_law_1608 rfl (lv_at hl 3 rfl) ?_
  refine lv_iconst (v := 0) hx hb dL_law_1609 (by decide) ?_
  refine va_lald hx hb hKL hW.1 65 0 rfl rfl (vp_in_nI (n := 0) (by decide) (by decide)) dL_law_1610 ?_
  show W p l e room_1 s m args below meth c H locs (cells + 2) (slots + 12) Q (F0 m 1611 ls [.long (fo2 0)])
  rw [show fo2 0 = _ from h8]
  refine lv_iload hx hb dL_law_1611 (lv_at hl 0 rfl) ?_
  refine lv_i2l (v := rb.toInt64) hx hb dL_law_1613 rfl ?_
  refine W.lcmp hx hb dL_law_1614 ?_
  rw [lg_cmp_self]
  refine lv_if_eq (tgt := 1620) hx hb dL_law_1615 (by decide) (fun _ => ?_) (fun hne => absurd rfl hne)
  exact lv_goto (tgt := 1718) hx hb dL_law_1620 (by decide) fin
set_option maxRecDepth 100000 in
set_option maxHeartbeats 4000000 in
theorem lc_27 (X : cx p s m args c cL_law 9 wsL_law RL Dd Y A) (hst : l.stackTraces = false) {cL : ClassId} (hKL : va_K Dd vwCl [(cL, .long)] s) {b L q i : Nat} {xs : Nat → Int32} {ad : Nat → Nat → Nat} {am : Nat → Nat} (hX : va_X b L xs s s.heap) (hbl : b < s.heap.size) (hbA : ¬ A b) (hi : i + 6 ≤ L) (hL : L ≤ 3072) {V V' : gX} {F F' : gF} {fo fo' : Nat → Int64} (h : LR 27 (xs (i + 1)) (xs (i + 2)) (xs (i + 3)) (xs (i + 4)) (xs (i + 5)) V F fo V' F' fo') (hW : Wd Dd A s.heap (WL Y ad am q cL V fo F) H locs) (hl : lv_has ls 9 (LV b q (am 0) (ad 0 0) i)) (hc : cells + 4 ≤ room_1.cells) (hs : slots + 24 ≤ room_1.slots)
    (kk : ∀ (H : Heap) (locs : List Loc) (ls : Array Slot) (cells' slots' : Nat), cells' ≤ cells + 4 → slots' ≤ slots + 24 → Wd Dd A s.heap (WL Y ad am q cL V' fo' F') H locs → lv_has ls 9 (LV b q (am 0) (ad 0 0) i) → W p l e room_1 s m args below meth c H locs cells' slots' Q (F0 m 1718 ls [])) : W p l e room_1 s m args below meth c H locs cells slots Q (F0 m 1623 ls []) := by
  have hx := X.x
  have hb := X.b
  obtain ⟨o, rb, h4, hE, h5, h6, h7, rfl, rfl⟩ := h
  refine lv_aload_n hx hb dL_law_1623 rfl (lv_at hl 3 rfl) ?_
  refine rd_ X hX hbl hbA hW.2.2 hl 1 (by decide) (by omega) hL dL_law_1624 dL_law_1625 dL_law_1627 dL_law_1628 dL_law_1629 ?_
  refine rd_ X hX hbl hbA hW.2.2 hl 2 (by decide) (by omega) hL dL_law_1630 dL_law_1631 dL_law_1633 dL_law_1634 dL_law_1635 ?_
  refine lv_aload_n hx hb dL_law_1636 rfl (lv_at hl 1 rfl) ?_
  have hc2 : cells + 1 ≤ room_1.cells := by omega
  have hs2 : slots + 6 ≤ room_1.slots := by omega
  refine cL_ (As := [.ref (ad 0 0), .int (xs (i + 1)), .int (xs (i + 2)), .ref q]) (rest := []) (wc := WQ Y ad q cL V fo) (post := WM Y am F) (w1 := WQ Y ad q cL (lwS ["java/lang/IllegalArgumentException"] V fo o).2.1 (lwS ["java/lang/IllegalArgumentException"] V fo o).2.2) X hKL (kL_rule l hst Dd Y cL ad q V fo (xs (i + 1)) (xs (i + 2)) o h4 hE) (vx_cwSW 4 X.1.2.2.2.2 gL_law_L_rule rfl rfl rfl (by decide +kernel) ⟨(Nat.le_of_ble_eq_true rfl), (Nat.le_of_ble_eq_true rfl)⟩) hW rfl hl.1 rfl (Nat.le_of_ble_eq_true rfl) dL_law_1637 ⟨hc2, hs2⟩ (fun H locs hW => ?_)
  revert h6 h7 hW kk
  generalize (lwS ["java/lang/IllegalArgumentException"] V fo o) = z
  obtain ⟨zk, V2, fo2⟩ := z
  intro h6 h7 kk hW
  refine lv_istore (lv' := (5, .int zk) :: LV b q (am 0) (ad 0 0) i) hx hb dL_law_1640 hl (by decide) rfl (fun ls hl => ?_)
  have hl0 : lv_has ls 9 (LV b q (am 0) (ad 0 0) i) := ⟨hl.1, hl.2.1, fun z hz => hl.2.2 z (List.mem_cons_of_mem _ hz)⟩
  refine lv_aload_n hx hb dL_law_1642 rfl (lv_at hl 3 rfl) ?_
  refine rd_ X hX hbl hbA hW.2.2 hl0 1 (by decide) (by omega) hL dL_law_1643 dL_law_1644 dL_law_1646 dL_law_1647 dL_law_1648 ?_
  refine rd_ X hX hbl hbA hW.2.2 hl0 2 (by decide) (by omega) hL dL_law_1649 dL_law_1650 dL_law_1652 dL_law_1653 dL_law_1654 ?_
  refine cVmi_ (As := [.int (xs (i + 1)), .int (xs (i + 2))]) (rest := []) (wc := WM Y am F) (post := WQ Y ad q cL V2 fo2) (w1 := WM Y am F') (ws' := (WL Y ad am q cL V2 fo2 F')) X (kX5_rule l Dd Y am F (xs (i + 1)) (xs (i + 2)) rb F' h5) (cwV 2 X.1.2.2.2.2 gL_law_X5_rule rfl rfl rfl (by decide +kernel) ⟨(Nat.le_of_ble_eq_true rfl), (Nat.le_of_ble_eq_true rfl)⟩) hW (wl_m ..) (wl_m ..).symm 0 5 rfl rfl rfl rfl hl.1 rfl (Nat.le_of_ble_eq_true rfl) dL_law_1655 ⟨hc2, hs2⟩ (fun H locs hW => ?_)
  refine lv_istore (lv' := (6, .int rb) :: (5, .int zk) :: LV b q (am 0) (ad 0 0) i) hx hb dL_law_1658 hl (by decide) rfl (fun ls hl => ?_)
  refine lv_aload_n hx hb dL_law_1660 rfl (lv_at hl 4 rfl) ?_
  refine cVmi_ (As := []) (rest := []) (wc := WM Y am F') (post := WQ Y ad q cL V2 fo2) (w1 := WM Y am F') (ws' := (WL Y ad am q cL V2 fo2 F')) X (kX5_thrown l Dd Y am F' (F' 0 0) rfl) (cwV 0 X.1.2.2.2.2 gL_law_X5_thrown rfl rfl rfl (by decide +kernel) ⟨(Nat.le_of_ble_eq_true rfl), (Nat.le_of_ble_eq_true rfl)⟩) hW (wl_m ..) (wl_m ..).symm 0 5 rfl rfl rfl rfl hl.1 rfl (Nat.le_of_ble_eq_true rfl) dL_law_1661 ⟨hc2, hs2⟩ (fun H locs hW => ?_)
  refine lv_iload hx hb dL_law_1664 (lv_at hl 1 rfl) ?_
  refine lv_icmp_eq (tgt := 1671) hx hb dL_law_1666 (by decide) (fun _ => ?_) (fun hne => absurd h6 hne)
  have fin : W p l e room_1 s m args below meth c H locs (cells + 1) (slots + 6) Q (F0 m 1718 ls []) := kk H locs ls (cells + 1) (slots + 6) (by omega) (by omega) hW ⟨hl.1, hl.2.1, fun z hz => hl.2.2 z (List.mem_cons_of_mem _ (List.mem_cons_of_mem _ hz))⟩
  refine lv_iload hx hb dL_law_1671 (lv_at hl 1 rfl) ?_
  refine lv_if_ne (tgt := 1688) hx hb dL_law_1673 (by decide) (fun _ => lv_goto (tgt := 1718) hx hb dL_law_1688 (by decide) fin) (fun hz => ?_)
  have h8 := h7 hz
  refine lv_aload_n hx hb dL_law_1676 rfl (lv_at hl 3 rfl) ?_
  refine lv_iconst (v := 0) hx hb dL_law_1677 (by decide) ?_
  refine va_lald hx hb hKL hW.1 65 0 rfl rfl (vp_in_nI (n := 0) (by decide) (by decide)) dL_law_1678 ?_
  show W p l e room_1 s m args below meth c H locs (cells + 1) (slots + 6) Q (F0 m 1679 ls [.long (fo2 0)])
  rw [show fo2 0 = _ from h8]
  refine lv_iload hx hb dL_law_1679 (lv_at hl 0 rfl) ?_
  refine lv_i2l (v := rb.toInt64) hx hb dL_law_1681 rfl ?_
  refine W.lcmp hx hb dL_law_1682 ?_
  rw [lg_cmp_self]
  refine lv_if_eq (tgt := 1688) hx hb dL_law_1683 (by decide) (fun _ => ?_) (fun hne => absurd rfl hne)
  exact lv_goto (tgt := 1718) hx hb dL_law_1688 (by decide) fin
set_option maxRecDepth 100000 in
set_option maxHeartbeats 4000000 in
theorem lc_28 (X : cx p s m args c cL_law 9 wsL_law RL Dd Y A) (hst : l.stackTraces = false) {cL : ClassId} (hKL : va_K Dd vwCl [(cL, .long)] s) {b L q i : Nat} {xs : Nat → Int32} {ad : Nat → Nat → Nat} {am : Nat → Nat} (hX : va_X b L xs s s.heap) (hbl : b < s.heap.size) (hbA : ¬ A b) (hi : i + 6 ≤ L) (hL : L ≤ 3072) {V V' : gX} {F F' : gF} {fo fo' : Nat → Int64} (h : LR 28 (xs (i + 1)) (xs (i + 2)) (xs (i + 3)) (xs (i + 4)) (xs (i + 5)) V F fo V' F' fo') (hW : Wd Dd A s.heap (WL Y ad am q cL V fo F) H locs) (hl : lv_has ls 9 (LV b q (am 0) (ad 0 0) i)) (hc : cells + 4 ≤ room_1.cells) (hs : slots + 24 ≤ room_1.slots)
    (kk : ∀ (H : Heap) (locs : List Loc) (ls : Array Slot) (cells' slots' : Nat), cells' ≤ cells + 4 → slots' ≤ slots + 24 → Wd Dd A s.heap (WL Y ad am q cL V' fo' F') H locs → lv_has ls 9 (LV b q (am 0) (ad 0 0) i) → W p l e room_1 s m args below meth c H locs cells' slots' Q (F0 m 1718 ls [])) : W p l e room_1 s m args below meth c H locs cells slots Q (F0 m 1691 ls []) := by
  have hx := X.x
  have hb := X.b
  obtain ⟨r, h4, h5, rfl⟩ := h
  refine lv_aload_n hx hb dL_law_1691 rfl (lv_at hl 3 rfl) ?_
  refine cVmi_ (As := []) (rest := []) (wc := WX Y ad V) (post := [(q, .inl (cL, 1, .inr (.inl fo)))] ++ WM Y am F) (w1 := WX Y ad V') (ws' := (WL Y ad am q cL V' fo F)) X (kX4_undo l Dd Y ad V  r V' h4) (cwV 0 X.1.2.2.2.2 gL_law_X4_undo rfl rfl rfl (by decide +kernel) ⟨(Nat.le_of_ble_eq_true rfl), (Nat.le_of_ble_eq_true rfl)⟩) hW (wl_x ..) (wl_x ..).symm 0 4 rfl rfl rfl rfl hl.1 rfl (Nat.le_of_ble_eq_true rfl) dL_law_1692 ⟨Nat.le_trans (Nat.le_add_right _ 4) hc, Nat.le_trans (Nat.le_add_right _ 24) hs⟩ (fun H locs hW => ?_)
  refine lv_aload_n hx hb dL_law_1695 rfl (lv_at hl 2 rfl) ?_
  refine cVmi_ (As := []) (rest := [.int r]) (wc := WM Y am F) (post := WQ Y ad q cL V' fo) (w1 := WM Y am F') (ws' := (WL Y ad am q cL V' fo F')) X (kX5_undo l Dd Y am F  r F' h5) (cwV 0 X.1.2.2.2.2 gL_law_X5_undo rfl rfl rfl (by decide +kernel) ⟨(Nat.le_of_ble_eq_true rfl), (Nat.le_of_ble_eq_true rfl)⟩) hW (wl_m ..) (wl_m ..).symm 0 5 rfl rfl rfl rfl hl.1 rfl (Nat.le_of_ble_eq_true rfl) dL_law_1696 ⟨Nat.le_trans (Nat.le_add_right _ 4) hc, Nat.le_trans (Nat.le_add_right _ 24) hs⟩ (fun H locs hW => ?_)
  refine lv_icmp_eq (tgt := 1718) hx hb dL_law_1699 (by decide) (fun _ => ?_) (fun hne => absurd rfl hne)
  exact kk H locs ls cells slots (Nat.le_add_right _ _) (Nat.le_add_right _ _) hW hl
set_option maxRecDepth 100000 in
set_option maxHeartbeats 4000000 in
theorem lc_29 (X : cx p s m args c cL_law 9 wsL_law RL Dd Y A) (hst : l.stackTraces = false) {cL : ClassId} (hKL : va_K Dd vwCl [(cL, .long)] s) {b L q i : Nat} {xs : Nat → Int32} {ad : Nat → Nat → Nat} {am : Nat → Nat} (hX : va_X b L xs s s.heap) (hbl : b < s.heap.size) (hbA : ¬ A b) (hi : i + 6 ≤ L) (hL : L ≤ 3072) {V V' : gX} {F F' : gF} {fo fo' : Nat → Int64} (h : LR 29 (xs (i + 1)) (xs (i + 2)) (xs (i + 3)) (xs (i + 4)) (xs (i + 5)) V F fo V' F' fo') (hW : Wd Dd A s.heap (WL Y ad am q cL V fo F) H locs) (hl : lv_has ls 9 (LV b q (am 0) (ad 0 0) i)) (hc : cells + 4 ≤ room_1.cells) (hs : slots + 24 ≤ room_1.slots)
    (kk : ∀ (H : Heap) (locs : List Loc) (ls : Array Slot) (cells' slots' : Nat), cells' ≤ cells + 4 → slots' ≤ slots + 24 → Wd Dd A s.heap (WL Y ad am q cL V' fo' F') H locs → lv_has ls 9 (LV b q (am 0) (ad 0 0) i) → W p l e room_1 s m args below meth c H locs cells' slots' Q (F0 m 1718 ls [])) : W p l e room_1 s m args below meth c H locs cells slots Q (F0 m 1704 ls []) := by
  have hx := X.x
  have hb := X.b
  obtain ⟨r, h4, h5, rfl, rfl⟩ := h
  refine lv_aload_n hx hb dL_law_1704 rfl (lv_at hl 3 rfl) ?_
  refine cVml_ (As := []) (rest := []) (wc := WX Y ad V) (post := [(q, .inl (cL, 1, .inr (.inl fo)))] ++ WM Y am F) (w1 := WX Y ad V) (ws' := (WL Y ad am q cL V fo F)) X (kX4_checksum l Dd Y ad V  r h4) (cwV 0 X.1.2.2.2.2 gL_law_X4_checksum rfl rfl rfl (by decide +kernel) ⟨(Nat.le_of_ble_eq_true rfl), (Nat.le_of_ble_eq_true rfl)⟩) hW (wl_x ..) (wl_x ..).symm 0 4 rfl rfl rfl rfl hl.1 rfl (Nat.le_of_ble_eq_true rfl) dL_law_1705 ⟨Nat.le_trans (Nat.le_add_right _ 4) hc, Nat.le_trans (Nat.le_add_right _ 24) hs⟩ (fun H locs hW => ?_)
  refine lv_aload_n hx hb dL_law_1708 rfl (lv_at hl 2 rfl) ?_
  refine cVml_ (As := []) (rest := [.long r]) (wc := WM Y am F) (post := WQ Y ad q cL V fo) (w1 := WM Y am F') (ws' := (WL Y ad am q cL V fo F')) X (kX5_checksum l Dd Y am F  r F' h5) (cwV 0 X.1.2.2.2.2 gL_law_X5_checksum rfl rfl rfl (by decide +kernel) ⟨(Nat.le_of_ble_eq_true rfl), (Nat.le_of_ble_eq_true rfl)⟩) hW (wl_m ..) (wl_m ..).symm 0 5 rfl rfl rfl rfl hl.1 rfl (Nat.le_of_ble_eq_true rfl) dL_law_1709 ⟨Nat.le_trans (Nat.le_add_right _ 4) hc, Nat.le_trans (Nat.le_add_right _ 24) hs⟩ (fun H locs hW => ?_)
  refine W.lcmp hx hb dL_law_1712 ?_
  rw [lg_cmp_self]
  refine lv_if_eq (tgt := 1718) hx hb dL_law_1713 (by decide) (fun _ => ?_) (fun hne => absurd rfl hne)
  exact kk H locs ls cells slots (Nat.le_add_right _ _) (Nat.le_add_right _ _) hW hl
end LAWB
