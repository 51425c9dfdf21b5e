/-! what the statement gives of the start, as the worlds want it -/
theorem eq_int {a : Term} {n : Int32} {args : Array Value} {s : State} (h : (Cond.eq a (.int n)).before args s = true) : a.eval args s none [] s = some (.int n) := by
  simp only [Cond.before, Cond.holds, Cond.value, Term.eval] at h
  cases ha : a.eval args s none [] s with
  | none => simp [ha] at h
  | some v =>
    cases v with
    | int k => simp [ha] at h; rw [h]
    | _ => simp [ha] at h
def tmS (i : Nat) : Term := match i with
  | 0 => .string RX2 67
  | 1 => .string RX2 108
  | 2 => .string RX2 110
  | 3 => .string RX2 112
  | 4 => .string RX2 114
  | 5 => .string RX2 116
  | 6 => .string RL 55
  | 7 => .string RL 63
  | 8 => .string RL 65
  | _ => .string RL 89
theorem le10 {P : Nat → Prop} (h0 : P 0) (h1 : P 1) (h2 : P 2) (h3 : P 3) (h4 : P 4) (h5 : P 5) (h6 : P 6) (h7 : P 7) (h8 : P 8) (h9 : P 9) : ∀ i : Nat, i < 10 → P i := by
  intro i hi
  rcases (show i = 0 ∨ i = 1 ∨ i = 2 ∨ i = 3 ∨ i = 4 ∨ i = 5 ∨ i = 6 ∨ i = 7 ∨ i = 8 ∨ i = 9 by omega) with rfl | rfl | rfl | rfl | rfl | rfl | rfl | rfl | rfl | rfl <;> assumption
theorem arr_k {s : State} {args : Array Value} {ty : FieldType} (hp : ∀ C, ty ≠ .object C) (h : (Cond.arrayClass ty).before args s = true) : ∃ cA : ClassId, ArrOfT s cA ty ∧ va_RA s cA ty := by
  obtain ⟨cA, kA, comp, h1, h2, h3⟩ := Cond.arrayClass_spec h
  refine ⟨cA, fun n z => ⟨(fun k h => by cases h), kA, h2, comp, h3⟩, ?_⟩
  cases ty with
  | object C => exact absurd rfl (hp C)
  | _ => exact h1
theorem arr_o {s : State} {args : Array Value} {C : String} (h : (Cond.arrayOver (.object C)).before args s = true) : ∃ cA : ClassId, ArrOfT s cA (.object C) ∧ va_RA s cA (.object C) := by
  obtain ⟨comp, cR, kR, r1, -, r3, r4, r5⟩ := Cond.arrayOver_spec h
  exact ⟨cR, fun n z => ⟨(fun k h => by cases h), kR, r3, comp, r4⟩, kR, comp, r3, r4, r1, r5⟩
theorem arr_a {s : State} {args : Array Value} {C : String} (h : (Cond.arrayOver (.array (.object C))).before args s = true) : ∃ cA : ClassId, ArrOfT s cA (.array (.object C)) ∧ s.vm.findClass ("[" ++ (FieldType.array (.object C)).toString) = some cA := by
  obtain ⟨comp, cO, kO, r1, r3, r4, r5⟩ := Cond.arrayOver_specA h
  exact ⟨cO, fun n z => ⟨(fun k h => by cases h), kO, r3, comp, r4⟩, r5⟩
theorem vk_S.cg {N : Nat} {len : List Nat} {byt : List (List Int32)} {adK adK' adV : Nat → Nat} {A : Nat → Prop} {U : State} {H : Heap} (h : vk_S N len byt adK adV A U H) (e : ∀ i : Nat, i < N → adK' i = adK i) : vk_S N len byt adK' adV A U H := ⟨fun i hi => by rw [e i hi]; exact h.1 i hi, fun i j hi hj q => h.2 i j hi hj (by rw [← e i hi, ← e j hj]; exact q)⟩
theorem fl_ne01 : (Cond.not (Cond.eq (tmS 0) (tmS 1))) ∈ flatC (Jvm.Cond.and given_1 narrow_1) := by decide +kernel
theorem fl_ne02 : (Cond.not (Cond.eq (tmS 0) (tmS 2))) ∈ flatC (Jvm.Cond.and given_1 narrow_1) := by decide +kernel
theorem fl_ne12 : (Cond.not (Cond.eq (tmS 1) (tmS 2))) ∈ flatC (Jvm.Cond.and given_1 narrow_1) := by decide +kernel
theorem fl_ne03 : (Cond.not (Cond.eq (tmS 0) (tmS 3))) ∈ flatC (Jvm.Cond.and given_1 narrow_1) := by decide +kernel
theorem fl_ne13 : (Cond.not (Cond.eq (tmS 1) (tmS 3))) ∈ flatC (Jvm.Cond.and given_1 narrow_1) := by decide +kernel
theorem fl_ne23 : (Cond.not (Cond.eq (tmS 2) (tmS 3))) ∈ flatC (Jvm.Cond.and given_1 narrow_1) := by decide +kernel
theorem fl_ne04 : (Cond.not (Cond.eq (tmS 0) (tmS 4))) ∈ flatC (Jvm.Cond.and given_1 narrow_1) := by decide +kernel
theorem fl_ne14 : (Cond.not (Cond.eq (tmS 1) (tmS 4))) ∈ flatC (Jvm.Cond.and given_1 narrow_1) := by decide +kernel
theorem fl_ne24 : (Cond.not (Cond.eq (tmS 2) (tmS 4))) ∈ flatC (Jvm.Cond.and given_1 narrow_1) := by decide +kernel
theorem fl_ne34 : (Cond.not (Cond.eq (tmS 3) (tmS 4))) ∈ flatC (Jvm.Cond.and given_1 narrow_1) := by decide +kernel
theorem fl_ne05 : (Cond.not (Cond.eq (tmS 0) (tmS 5))) ∈ flatC (Jvm.Cond.and given_1 narrow_1) := by decide +kernel
theorem fl_ne15 : (Cond.not (Cond.eq (tmS 1) (tmS 5))) ∈ flatC (Jvm.Cond.and given_1 narrow_1) := by decide +kernel
theorem fl_ne25 : (Cond.not (Cond.eq (tmS 2) (tmS 5))) ∈ flatC (Jvm.Cond.and given_1 narrow_1) := by decide +kernel
theorem fl_ne35 : (Cond.not (Cond.eq (tmS 3) (tmS 5))) ∈ flatC (Jvm.Cond.and given_1 narrow_1) := by decide +kernel
theorem fl_ne45 : (Cond.not (Cond.eq (tmS 4) (tmS 5))) ∈ flatC (Jvm.Cond.and given_1 narrow_1) := by decide +kernel
theorem fl_ne06 : (Cond.not (Cond.eq (tmS 0) (tmS 6))) ∈ flatC (Jvm.Cond.and given_1 narrow_1) := by decide +kernel
theorem fl_ne16 : (Cond.not (Cond.eq (tmS 1) (tmS 6))) ∈ flatC (Jvm.Cond.and given_1 narrow_1) := by decide +kernel
theorem fl_ne26 : (Cond.not (Cond.eq (tmS 2) (tmS 6))) ∈ flatC (Jvm.Cond.and given_1 narrow_1) := by decide +kernel
theorem fl_ne36 : (Cond.not (Cond.eq (tmS 3) (tmS 6))) ∈ flatC (Jvm.Cond.and given_1 narrow_1) := by decide +kernel
theorem fl_ne46 : (Cond.not (Cond.eq (tmS 4) (tmS 6))) ∈ flatC (Jvm.Cond.and given_1 narrow_1) := by decide +kernel
theorem fl_ne56 : (Cond.not (Cond.eq (tmS 5) (tmS 6))) ∈ flatC (Jvm.Cond.and given_1 narrow_1) := by decide +kernel
theorem fl_ne07 : (Cond.not (Cond.eq (tmS 0) (tmS 7))) ∈ flatC (Jvm.Cond.and given_1 narrow_1) := by decide +kernel
theorem fl_ne17 : (Cond.not (Cond.eq (tmS 1) (tmS 7))) ∈ flatC (Jvm.Cond.and given_1 narrow_1) := by decide +kernel
theorem fl_ne27 : (Cond.not (Cond.eq (tmS 2) (tmS 7))) ∈ flatC (Jvm.Cond.and given_1 narrow_1) := by decide +kernel
theorem fl_ne37 : (Cond.not (Cond.eq (tmS 3) (tmS 7))) ∈ flatC (Jvm.Cond.and given_1 narrow_1) := by decide +kernel
theorem fl_ne47 : (Cond.not (Cond.eq (tmS 4) (tmS 7))) ∈ flatC (Jvm.Cond.and given_1 narrow_1) := by decide +kernel
theorem fl_ne57 : (Cond.not (Cond.eq (tmS 5) (tmS 7))) ∈ flatC (Jvm.Cond.and given_1 narrow_1) := by decide +kernel
theorem fl_ne67 : (Cond.not (Cond.eq (tmS 6) (tmS 7))) ∈ flatC (Jvm.Cond.and given_1 narrow_1) := by decide +kernel
theorem fl_ne08 : (Cond.not (Cond.eq (tmS 0) (tmS 8))) ∈ flatC (Jvm.Cond.and given_1 narrow_1) := by decide +kernel
theorem fl_ne18 : (Cond.not (Cond.eq (tmS 1) (tmS 8))) ∈ flatC (Jvm.Cond.and given_1 narrow_1) := by decide +kernel
theorem fl_ne28 : (Cond.not (Cond.eq (tmS 2) (tmS 8))) ∈ flatC (Jvm.Cond.and given_1 narrow_1) := by decide +kernel
theorem fl_ne38 : (Cond.not (Cond.eq (tmS 3) (tmS 8))) ∈ flatC (Jvm.Cond.and given_1 narrow_1) := by decide +kernel
theorem fl_ne48 : (Cond.not (Cond.eq (tmS 4) (tmS 8))) ∈ flatC (Jvm.Cond.and given_1 narrow_1) := by decide +kernel
theorem fl_ne58 : (Cond.not (Cond.eq (tmS 5) (tmS 8))) ∈ flatC (Jvm.Cond.and given_1 narrow_1) := by decide +kernel
theorem fl_ne68 : (Cond.not (Cond.eq (tmS 6) (tmS 8))) ∈ flatC (Jvm.Cond.and given_1 narrow_1) := by decide +kernel
theorem fl_ne78 : (Cond.not (Cond.eq (tmS 7) (tmS 8))) ∈ flatC (Jvm.Cond.and given_1 narrow_1) := by decide +kernel
theorem fl_ne09 : (Cond.not (Cond.eq (tmS 0) (tmS 9))) ∈ flatC (Jvm.Cond.and given_1 narrow_1) := by decide +kernel
theorem fl_ne19 : (Cond.not (Cond.eq (tmS 1) (tmS 9))) ∈ flatC (Jvm.Cond.and given_1 narrow_1) := by decide +kernel
theorem fl_ne29 : (Cond.not (Cond.eq (tmS 2) (tmS 9))) ∈ flatC (Jvm.Cond.and given_1 narrow_1) := by decide +kernel
theorem fl_ne39 : (Cond.not (Cond.eq (tmS 3) (tmS 9))) ∈ flatC (Jvm.Cond.and given_1 narrow_1) := by decide +kernel
theorem fl_ne49 : (Cond.not (Cond.eq (tmS 4) (tmS 9))) ∈ flatC (Jvm.Cond.and given_1 narrow_1) := by decide +kernel
theorem fl_ne59 : (Cond.not (Cond.eq (tmS 5) (tmS 9))) ∈ flatC (Jvm.Cond.and given_1 narrow_1) := by decide +kernel
theorem fl_ne69 : (Cond.not (Cond.eq (tmS 6) (tmS 9))) ∈ flatC (Jvm.Cond.and given_1 narrow_1) := by decide +kernel
theorem fl_ne79 : (Cond.not (Cond.eq (tmS 7) (tmS 9))) ∈ flatC (Jvm.Cond.and given_1 narrow_1) := by decide +kernel
theorem fl_ne89 : (Cond.not (Cond.eq (tmS 8) (tmS 9))) ∈ flatC (Jvm.Cond.and given_1 narrow_1) := by decide +kernel
theorem fl_ne : ∀ i, i < 10 → ∀ j, j < 10 → i ≠ j → ((Cond.not (Cond.eq (tmS i) (tmS j))) ∈ flatC (Jvm.Cond.and given_1 narrow_1) ∨ (Cond.not (Cond.eq (tmS j) (tmS i))) ∈ flatC (Jvm.Cond.and given_1 narrow_1)) :=
  le10 (le10 (fun h => absurd rfl h) (fun _ => Or.inl fl_ne01) (fun _ => Or.inl fl_ne02) (fun _ => Or.inl fl_ne03) (fun _ => Or.inl fl_ne04) (fun _ => Or.inl fl_ne05) (fun _ => Or.inl fl_ne06) (fun _ => Or.inl fl_ne07) (fun _ => Or.inl fl_ne08) (fun _ => Or.inl fl_ne09)) (le10 (fun _ => Or.inr fl_ne01) (fun h => absurd rfl h) (fun _ => Or.inl fl_ne12) (fun _ => Or.inl fl_ne13) (fun _ => Or.inl fl_ne14) (fun _ => Or.inl fl_ne15) (fun _ => Or.inl fl_ne16) (fun _ => Or.inl fl_ne17) (fun _ => Or.inl fl_ne18) (fun _ => Or.inl fl_ne19)) (le10 (fun _ => Or.inr fl_ne02) (fun _ => Or.inr fl_ne12) (fun h => absurd rfl h) (fun _ => Or.inl fl_ne23) (fun _ => Or.inl fl_ne24) (fun _ => Or.inl fl_ne25) (fun _ => Or.inl fl_ne26) (fun _ => Or.inl fl_ne27) (fun _ => Or.inl fl_ne28) (fun _ => Or.inl fl_ne29)) (le10 (fun _ => Or.inr fl_ne03) (fun _ => Or.inr fl_ne13) (fun _ => Or.inr fl_ne23) (fun h => absurd rfl h) (fun _ => Or.inl fl_ne34) (fun _ => Or.inl fl_ne35) (fun _ => Or.inl fl_ne36) (fun _ => Or.inl fl_ne37) (fun _ => Or.inl fl_ne38) (fun _ => Or.inl fl_ne39)) (le10 (fun _ => Or.inr fl_ne04) (fun _ => Or.inr fl_ne14) (fun _ => Or.inr fl_ne24) (fun _ => Or.inr fl_ne34) (fun h => absurd rfl h) (fun _ => Or.inl fl_ne45) (fun _ => Or.inl fl_ne46) (fun _ => Or.inl fl_ne47) (fun _ => Or.inl fl_ne48) (fun _ => Or.inl fl_ne49)) (le10 (fun _ => Or.inr fl_ne05) (fun _ => Or.inr fl_ne15) (fun _ => Or.inr fl_ne25) (fun _ => Or.inr fl_ne35) (fun _ => Or.inr fl_ne45) (fun h => absurd rfl h) (fun _ => Or.inl fl_ne56) (fun _ => Or.inl fl_ne57) (fun _ => Or.inl fl_ne58) (fun _ => Or.inl fl_ne59)) (le10 (fun _ => Or.inr fl_ne06) (fun _ => Or.inr fl_ne16) (fun _ => Or.inr fl_ne26) (fun _ => Or.inr fl_ne36) (fun _ => Or.inr fl_ne46) (fun _ => Or.inr fl_ne56) (fun h => absurd rfl h) (fun _ => Or.inl fl_ne67) (fun _ => Or.inl fl_ne68) (fun _ => Or.inl fl_ne69)) (le10 (fun _ => Or.inr fl_ne07) (fun _ => Or.inr fl_ne17) (fun _ => Or.inr fl_ne27) (fun _ => Or.inr fl_ne37) (fun _ => Or.inr fl_ne47) (fun _ => Or.inr fl_ne57) (fun _ => Or.inr fl_ne67) (fun h => absurd rfl h) (fun _ => Or.inl fl_ne78) (fun _ => Or.inl fl_ne79)) (le10 (fun _ => Or.inr fl_ne08) (fun _ => Or.inr fl_ne18) (fun _ => Or.inr fl_ne28) (fun _ => Or.inr fl_ne38) (fun _ => Or.inr fl_ne48) (fun _ => Or.inr fl_ne58) (fun _ => Or.inr fl_ne68) (fun _ => Or.inr fl_ne78) (fun h => absurd rfl h) (fun _ => Or.inl fl_ne89)) (le10 (fun _ => Or.inr fl_ne09) (fun _ => Or.inr fl_ne19) (fun _ => Or.inr fl_ne29) (fun _ => Or.inr fl_ne39) (fun _ => Or.inr fl_ne49) (fun _ => Or.inr fl_ne59) (fun _ => Or.inr fl_ne69) (fun _ => Or.inr fl_ne79) (fun _ => Or.inr fl_ne89) (fun h => absurd rfl h))
theorem l_ones : ((flatC (Jvm.Cond.and given_1 narrow_1)).drop 18).take 100 = (List.range 100).map (fun j => (Cond.eq (.elem (.static RJ6 "DigitOnes" "[B") (.int (Int32.ofNat j))) (.int (nI (48 + j % 10))))) := by decide +kernel
theorem fl_ones : ∀ j : Nat, j < 100 → (Cond.eq (.elem (.static RJ6 "DigitOnes" "[B") (.int (Int32.ofNat j))) (.int (nI (48 + j % 10)))) ∈ flatC (Jvm.Cond.and given_1 narrow_1) := fun j hj => by
  have h : (Cond.eq (.elem (.static RJ6 "DigitOnes" "[B") (.int (Int32.ofNat j))) (.int (nI (48 + j % 10)))) ∈ (List.range 100).map (fun j => (Cond.eq (.elem (.static RJ6 "DigitOnes" "[B") (.int (Int32.ofNat j))) (.int (nI (48 + j % 10))))) := List.mem_map.mpr ⟨j, List.mem_range.mpr hj, rfl⟩
  rw [← l_ones] at h
  exact List.mem_of_mem_drop (List.mem_of_mem_take h)
theorem l_tens : ((flatC (Jvm.Cond.and given_1 narrow_1)).drop 121).take 100 = (List.range 100).map (fun j => (Cond.eq (.elem (.static RJ6 "DigitTens" "[B") (.int (Int32.ofNat j))) (.int (nI (48 + j / 10))))) := by decide +kernel
theorem fl_tens : ∀ j : Nat, j < 100 → (Cond.eq (.elem (.static RJ6 "DigitTens" "[B") (.int (Int32.ofNat j))) (.int (nI (48 + j / 10)))) ∈ flatC (Jvm.Cond.and given_1 narrow_1) := fun j hj => by
  have h : (Cond.eq (.elem (.static RJ6 "DigitTens" "[B") (.int (Int32.ofNat j))) (.int (nI (48 + j / 10)))) ∈ (List.range 100).map (fun j => (Cond.eq (.elem (.static RJ6 "DigitTens" "[B") (.int (Int32.ofNat j))) (.int (nI (48 + j / 10))))) := List.mem_map.mpr ⟨j, List.mem_range.mpr hj, rfl⟩
  rw [← l_tens] at h
  exact List.mem_of_mem_drop (List.mem_of_mem_take h)
