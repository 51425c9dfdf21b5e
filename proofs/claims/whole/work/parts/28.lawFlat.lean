/-! what the statement gives of the start, as the worlds want it -/
theorem eq_int {a : Term} {n : Int32} {args : Array Value} {s : State} (h : (Cond.eq a (.int n)).before args s = true) : a.eval args s none [] s = some (.int n) := by
  simp only [Cond.before, Cond.holds, Cond.value, Term.eval] at h
  cases ha : a.eval args s none [] s with
  | none => simp [ha] at h
  | some v =>
    cases v with
    | int k => simp [ha] at h; rw [h]
    | _ => simp [ha] at h
def tmS (i : Nat) : Term := match i with
  | 0 => .string RX5 217
  | 1 => .string RX5 188
  | 2 => .string RX5 197
  | 3 => .string RX5 202
  | 4 => .string RX5 207
  | _ => .string RX5 212
theorem le6 {P : Nat → Prop} (h0 : P 0) (h1 : P 1) (h2 : P 2) (h3 : P 3) (h4 : P 4) (h5 : P 5) : ∀ i : Nat, i < 6 → P i := by
  intro i hi
  rcases (show i = 0 ∨ i = 1 ∨ i = 2 ∨ i = 3 ∨ i = 4 ∨ i = 5 by omega) with rfl | rfl | rfl | rfl | rfl | rfl <;> assumption
theorem arr_k {s : State} {args : Array Value} {ty : FieldType} (hp : ∀ C, ty ≠ .object C) (h : (Cond.arrayClass ty).before args s = true) : ∃ cA : ClassId, ArrOfT s cA ty ∧ va_RA s cA ty := by
  obtain ⟨cA, kA, comp, h1, h2, h3⟩ := Cond.arrayClass_spec h
  refine ⟨cA, fun n z => ⟨(fun k h => by cases h), kA, h2, comp, h3⟩, ?_⟩
  cases ty with
  | object C => exact absurd rfl (hp C)
  | _ => exact h1
theorem fl_ne01 : (Cond.not (Cond.eq (tmS 0) (tmS 1))) ∈ flatC (Jvm.Cond.and given_1 narrow_1) := by decide +kernel
theorem fl_ne02 : (Cond.not (Cond.eq (tmS 0) (tmS 2))) ∈ flatC (Jvm.Cond.and given_1 narrow_1) := by decide +kernel
theorem fl_ne12 : (Cond.not (Cond.eq (tmS 1) (tmS 2))) ∈ flatC (Jvm.Cond.and given_1 narrow_1) := by decide +kernel
theorem fl_ne03 : (Cond.not (Cond.eq (tmS 0) (tmS 3))) ∈ flatC (Jvm.Cond.and given_1 narrow_1) := by decide +kernel
theorem fl_ne13 : (Cond.not (Cond.eq (tmS 1) (tmS 3))) ∈ flatC (Jvm.Cond.and given_1 narrow_1) := by decide +kernel
theorem fl_ne23 : (Cond.not (Cond.eq (tmS 2) (tmS 3))) ∈ flatC (Jvm.Cond.and given_1 narrow_1) := by decide +kernel
theorem fl_ne04 : (Cond.not (Cond.eq (tmS 0) (tmS 4))) ∈ flatC (Jvm.Cond.and given_1 narrow_1) := by decide +kernel
theorem fl_ne14 : (Cond.not (Cond.eq (tmS 1) (tmS 4))) ∈ flatC (Jvm.Cond.and given_1 narrow_1) := by decide +kernel
theorem fl_ne24 : (Cond.not (Cond.eq (tmS 2) (tmS 4))) ∈ flatC (Jvm.Cond.and given_1 narrow_1) := by decide +kernel
theorem fl_ne34 : (Cond.not (Cond.eq (tmS 3) (tmS 4))) ∈ flatC (Jvm.Cond.and given_1 narrow_1) := by decide +kernel
theorem fl_ne05 : (Cond.not (Cond.eq (tmS 0) (tmS 5))) ∈ flatC (Jvm.Cond.and given_1 narrow_1) := by decide +kernel
theorem fl_ne15 : (Cond.not (Cond.eq (tmS 1) (tmS 5))) ∈ flatC (Jvm.Cond.and given_1 narrow_1) := by decide +kernel
theorem fl_ne25 : (Cond.not (Cond.eq (tmS 2) (tmS 5))) ∈ flatC (Jvm.Cond.and given_1 narrow_1) := by decide +kernel
theorem fl_ne35 : (Cond.not (Cond.eq (tmS 3) (tmS 5))) ∈ flatC (Jvm.Cond.and given_1 narrow_1) := by decide +kernel
theorem fl_ne45 : (Cond.not (Cond.eq (tmS 4) (tmS 5))) ∈ flatC (Jvm.Cond.and given_1 narrow_1) := by decide +kernel
theorem fl_ne : ∀ i, i < 6 → ∀ j, j < 6 → i ≠ j → ((Cond.not (Cond.eq (tmS i) (tmS j))) ∈ flatC (Jvm.Cond.and given_1 narrow_1) ∨ (Cond.not (Cond.eq (tmS j) (tmS i))) ∈ flatC (Jvm.Cond.and given_1 narrow_1)) :=
  le6 (le6 (fun h => absurd rfl h) (fun _ => Or.inl fl_ne01) (fun _ => Or.inl fl_ne02) (fun _ => Or.inl fl_ne03) (fun _ => Or.inl fl_ne04) (fun _ => Or.inl fl_ne05)) (le6 (fun _ => Or.inr fl_ne01) (fun h => absurd rfl h) (fun _ => Or.inl fl_ne12) (fun _ => Or.inl fl_ne13) (fun _ => Or.inl fl_ne14) (fun _ => Or.inl fl_ne15)) (le6 (fun _ => Or.inr fl_ne02) (fun _ => Or.inr fl_ne12) (fun h => absurd rfl h) (fun _ => Or.inl fl_ne23) (fun _ => Or.inl fl_ne24) (fun _ => Or.inl fl_ne25)) (le6 (fun _ => Or.inr fl_ne03) (fun _ => Or.inr fl_ne13) (fun _ => Or.inr fl_ne23) (fun h => absurd rfl h) (fun _ => Or.inl fl_ne34) (fun _ => Or.inl fl_ne35)) (le6 (fun _ => Or.inr fl_ne04) (fun _ => Or.inr fl_ne14) (fun _ => Or.inr fl_ne24) (fun _ => Or.inr fl_ne34) (fun h => absurd rfl h) (fun _ => Or.inl fl_ne45)) (le6 (fun _ => Or.inr fl_ne05) (fun _ => Or.inr fl_ne15) (fun _ => Or.inr fl_ne25) (fun _ => Or.inr fl_ne35) (fun _ => Or.inr fl_ne45) (fun h => absurd rfl h))
