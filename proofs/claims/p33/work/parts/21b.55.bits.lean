/-! how many bits of a long -/
theorem land_b {a b r s : Nat} (hr : r < 256) (hs : s < 256) : (256 * a + r) &&& (256 * b + s) = 256 * (a &&& b) + (r &&& s) := by
  apply Nat.eq_of_testBit_eq
  intro j
  have h : r &&& s < 2 ^ 8 := Nat.and_lt_two_pow r (n := 8) hs
  rw [Nat.testBit_and, show 256 = 2 ^ 8 from rfl, Nat.testBit_two_pow_mul_add _ hr, Nat.testBit_two_pow_mul_add _ hs, Nat.testBit_two_pow_mul_add _ h]
  split <;> simp [Nat.testBit_and]
def M1 : Nat → Nat
  | 0 => 0
  | k + 1 => 256 * M1 k + 85
def M2 : Nat → Nat
  | 0 => 0
  | k + 1 => 256 * M2 k + 51
def M4 : Nat → Nat
  | 0 => 0
  | k + 1 => 256 * M4 k + 15
def b1 (k X : Nat) : Nat := X - ((X / 2) &&& M1 k)
def b2 (k X : Nat) : Nat := (X &&& M2 k) + ((X / 4) &&& M2 k)
def b4 (k X : Nat) : Nat := (X + X / 16) &&& M4 k
def h1b (r : Nat) : Nat := r - ((r / 2) &&& 85)
def h2b (r : Nat) : Nat := (h1b r &&& 51) + ((h1b r / 4) &&& 51)
def pcb (r : Nat) : Nat := (h2b r + h2b r / 16) &&& 15
theorem b1_s {k a r : Nat} (hr : r < 256) : b1 (k + 1) (256 * a + r) = 256 * b1 k a + h1b r := by
  have e : (256 * a + r) / 2 = 256 * (a / 2) + ((a % 2) * 128 + r / 2) := by omega
  have h1 : ((a % 2) * 128 + r / 2) &&& 85 = (r / 2) &&& 85 := by
    have hd : ∀ u : Nat, u < 2 → ∀ r : Nat, r < 256 → (u * 128 + r / 2) &&& 85 = (r / 2) &&& 85 := by decide +kernel
    exact hd (a % 2) (Nat.mod_lt _ (by decide)) r hr
  have h2 : (a / 2) &&& M1 k ≤ a / 2 := Nat.and_le_left
  have h3 : (r / 2) &&& 85 ≤ r / 2 := Nat.and_le_left
  unfold b1 h1b
  rw [M1, e, land_b (by omega) (by decide), h1]
  omega
theorem b2_s {k a r : Nat} (hr : r < 256) : b2 (k + 1) (256 * a + r) = 256 * b2 k a + ((r &&& 51) + ((r / 4) &&& 51)) := by
  have e : (256 * a + r) / 4 = 256 * (a / 4) + ((a % 4) * 64 + r / 4) := by omega
  have h1 : ((a % 4) * 64 + r / 4) &&& 51 = (r / 4) &&& 51 := by
    have hd : ∀ u : Nat, u < 4 → ∀ r : Nat, r < 256 → (u * 64 + r / 4) &&& 51 = (r / 4) &&& 51 := by decide +kernel
    exact hd (a % 4) (Nat.mod_lt _ (by decide)) r hr
  unfold b2
  rw [M2, e, land_b hr (by decide), land_b (by omega) (by decide), h1]
  omega
theorem b4_s {k c t : Nat} (hc : c % 16 ≤ 4) (ht : t ≤ 68) : b4 (k + 1) (256 * c + t) = 256 * b4 k c + ((t + t / 16) &&& 15) := by
  have e : 256 * c + t + (256 * c + t) / 16 = 256 * (c + c / 16) + ((c % 16) * 16 + t + t / 16) := by omega
  have h1 : ((c % 16) * 16 + t + t / 16) &&& 15 = (t + t / 16) &&& 15 := by
    have hd : ∀ u : Nat, u < 5 → ∀ t : Nat, t < 69 → (u * 16 + t + t / 16) &&& 15 = (t + t / 16) &&& 15 := by decide +kernel
    exact hd (c % 16) (by omega) t (by omega)
  unfold b4
  rw [M4, e, land_b (by omega) (by decide), h1]
theorem h1b_lt {r : Nat} (hr : r < 256) : h1b r < 256 := by unfold h1b; omega
theorem h2b_ok : ∀ r : Nat, r < 256 → h2b r ≤ 68 ∧ h2b r % 16 ≤ 4 := by decide +kernel
theorem H_s {k a r : Nat} (hr : r < 256) : b2 (k + 1) (b1 (k + 1) (256 * a + r)) = 256 * b2 k (b1 k a) + h2b r := by
  rw [b1_s hr, b2_s (h1b_lt hr)]
  rfl
def Db : Nat → Nat → Nat
  | 0, _ => 0
  | k + 1, X => 256 * Db k (X / 256) + pcb (X % 256)
theorem Db_ok : ∀ k X : Nat, X < 256 ^ k → b2 k (b1 k X) % 16 ≤ 4 ∧ b4 k (b2 k (b1 k X)) = Db k X := by
  intro k
  induction k with
  | zero =>
    intro X hX
    have : X = 0 := by have : X < 1 := hX; omega
    subst this
    decide
  | succ k ih =>
    intro X hX
    have hr : X % 256 < 256 := Nat.mod_lt _ (by decide)
    have ha : X / 256 < 256 ^ k := by rw [Nat.pow_succ] at hX; omega
    obtain ⟨i1, i2⟩ := ih (X / 256) ha
    obtain ⟨q1, q2⟩ := h2b_ok _ hr
    have eX : X = 256 * (X / 256) + X % 256 := by omega
    have e := H_s (k := k) (a := X / 256) hr
    rw [← eX] at e
    rw [e, b4_s i1 q1, i2]
    exact ⟨by omega, rfl⟩
def SDb : Nat → Nat → Nat
  | 0, _ => 0
  | k + 1, X => SDb k (X / 256) + pcb (X % 256)
theorem pcb_le : ∀ r : Nat, r < 256 → pcb r ≤ 8 := by decide +kernel
theorem dvn {m T p : Nat} (h : p < m) : (m * T + p) / m = T := by
  rw [Nat.mul_add_div (by omega), Nat.div_eq_of_lt h, Nat.add_zero]
theorem fin_b (p0 p1 p2 p3 p4 p5 p6 p7 Y z1 z2 z3 : Nat) (h0 : p0 ≤ 8) (h1 : p1 ≤ 8) (h2 : p2 ≤ 8) (h3 : p3 ≤ 8) (h4 : p4 ≤ 8) (h5 : p5 ≤ 8) (h6 : p6 ≤ 8) (h7 : p7 ≤ 8) (hY : Y = 256 * (256 * (256 * (256 * (256 * (256 * (256 * (256 * 0 + p7) + p6) + p5) + p4) + p3) + p2) + p1) + p0) (e1 : z1 = Y + Y / 256) (e2 : z2 = z1 + z1 / 65536) (e3 : z3 = z2 + z2 / 4294967296) : z1 < 2 ^ 64 ∧ z2 < 2 ^ 64 ∧ z3 < 2 ^ 64 ∧ z3 % 128 = p7 + p6 + p5 + p4 + p3 + p2 + p1 + p0 ∧ Y < 2 ^ 64 := by
  have f1 : Y / 256 = 256 * (256 * (256 * (256 * (256 * (256 * (256 * 0 + p7) + p6) + p5) + p4) + p3) + p2) + p1 := by rw [hY]; exact dvn (by omega)
  have g1 : z1 = 65536 * (256 * (256 * (256 * (256 * (256 * p7 + (p6 + p7)) + (p5 + p6)) + (p4 + p5)) + (p3 + p4)) + (p2 + p3)) + (256 * (p1 + p2) + (p0 + p1)) := by
    rw [e1, f1, hY]
    clear e1 e2 e3 f1 hY h0 h1 h2 h3 h4 h5 h6 h7
    omega
  have f2 : z1 / 65536 = 256 * (256 * (256 * (256 * (256 * p7 + (p6 + p7)) + (p5 + p6)) + (p4 + p5)) + (p3 + p4)) + (p2 + p3) := by rw [g1]; exact dvn (by clear e1 e2 e3 f1 g1 hY; omega)
  have g2 : z2 = 4294967296 * (256 * (256 * (256 * p7 + (p6 + p7)) + (p5 + p6 + p7)) + (p4 + p5 + p6 + p7)) + (256 * (256 * (256 * (p3 + p4 + p5 + p6) + (p2 + p3 + p4 + p5)) + (p1 + p2 + p3 + p4)) + (p0 + p1 + p2 + p3)) := by
    rw [e2, f2, g1]
    clear e1 e2 e3 f1 f2 g1 hY h0 h1 h2 h3 h4 h5 h6 h7
    omega
  have f3 : z2 / 4294967296 = 256 * (256 * (256 * p7 + (p6 + p7)) + (p5 + p6 + p7)) + (p4 + p5 + p6 + p7) := by rw [g2]; exact dvn (by clear e1 e2 e3 f1 f2 g1 g2 hY; omega)
  have g3 : z3 = 128 * (2 * (16777216 * (256 * (256 * (256 * p7 + (p6 + p7)) + (p5 + p6 + p7)) + (p4 + p5 + p6 + p7)) + (256 * (256 * (p3 + p4 + p5 + p6) + (p2 + p3 + p4 + p5)) + (p1 + p2 + p3 + p4)) + (256 * (256 * p7 + (p6 + p7)) + (p5 + p6 + p7)))) + (p7 + p6 + p5 + p4 + p3 + p2 + p1 + p0) := by
    rw [e3, f3, g2]
    clear e1 e2 e3 f1 f2 f3 g1 g2 hY h0 h1 h2 h3 h4 h5 h6 h7
    omega
  refine ⟨?_, ?_, ?_, ?_, ?_⟩
  · rw [g1]; clear e1 e2 e3 f1 f2 f3 g1 g2 g3 hY; omega
  · rw [g2]; clear e1 e2 e3 f1 f2 f3 g1 g2 g3 hY; omega
  · rw [g3]; clear e1 e2 e3 f1 f2 f3 g1 g2 g3 hY; omega
  · rw [g3, Nat.mul_add_mod]; exact Nat.mod_eq_of_lt (by clear e1 e2 e3 f1 f2 f3 g1 g2 g3 hY; omega)
  · rw [hY]; clear e1 e2 e3 f1 f2 f3 g1 g2 g3 hY; omega
def pcn (X : Nat) : Nat → Nat
  | 0 => 0
  | m + 1 => pcn X m + (if X.testBit m = true then 1 else 0)
theorem pcn_cg {X Y : Nat} : ∀ m : Nat, (∀ j : Nat, j < m → X.testBit j = Y.testBit j) → pcn X m = pcn Y m := by
  intro m
  induction m with
  | zero => intro _; rfl
  | succ m ih => intro h; rw [pcn, pcn, ih (fun j hj => h j (by omega)), h m (by omega)]
theorem pcn_8 : ∀ r : Nat, r < 256 → pcn r 8 = pcb r := by decide +kernel
theorem pcn_s (X : Nat) : ∀ m : Nat, pcn X (8 + m) = pcn (X / 256) m + pcb (X % 256) := by
  intro m
  induction m with
  | zero =>
    rw [← pcn_8 _ (Nat.mod_lt _ (by decide)), show pcn (X / 256) 0 = 0 from rfl, Nat.zero_add]
    exact pcn_cg 8 (fun j hj => by rw [show 256 = 2 ^ 8 from rfl, Nat.testBit_mod_two_pow]; simp [hj])
  | succ m ih =>
    rw [show 8 + (m + 1) = (8 + m) + 1 by omega, pcn, ih, pcn, show 256 = 2 ^ 8 from rfl, Nat.testBit_div_two_pow, Nat.add_comm m 8]
    omega
theorem SDb_ok : ∀ k X : Nat, SDb k X = pcn X (8 * k) := by
  intro k
  induction k with
  | zero => intro X; rfl
  | succ k ih =>
    intro X
    rw [SDb, ih, show 8 * (k + 1) = 8 + 8 * k by omega, pcn_s]
