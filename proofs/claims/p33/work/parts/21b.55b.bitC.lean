/-! how many bits of a long: the words of the machine -/
theorem N_add (x y : Int64) : (x + y).toBitVec.toNat = (x.toBitVec.toNat + y.toBitVec.toNat) % 2 ^ 64 := by
  rw [Int64.toBitVec_add, BitVec.toNat_add]
theorem N_sub (x y : Int64) : (x - y).toBitVec.toNat = (2 ^ 64 - y.toBitVec.toNat + x.toBitVec.toNat) % 2 ^ 64 := by
  rw [Int64.toBitVec_sub, BitVec.toNat_sub]
theorem N_and (x y : Int64) : (x &&& y).toBitVec.toNat = x.toBitVec.toNat &&& y.toBitVec.toNat := by
  rw [Int64.toBitVec_and, BitVec.toNat_and]
theorem N_shr (x : Int64) (c : UInt64) {k : Nat} (hk : (c % 64).toBitVec.toNat = k) : ((x.toUInt64 >>> c).toInt64).toBitVec.toNat = x.toBitVec.toNat / 2 ^ k := by
  show (x.toBitVec >>> (c % 64).toBitVec.toNat).toNat = _
  rw [hk, BitVec.toNat_ushiftRight, Nat.shiftRight_eq_div_pow]
theorem bitC (x : Int64) : dnJ13_bitCount_95d88 x = some (nI (pcn x.toBitVec.toNat 64)) := by
  have hX : x.toBitVec.toNat < 2 ^ 64 := x.toBitVec.isLt
  unfold dnJ13_bitCount_95d88
  rw [bw_s]
  generalize e1 : x - (((x.toUInt64 >>> ((1 : Int32).toInt64.toUInt64 &&& Int64.toUInt64 63)).toInt64) &&& 6148914691236517205) = y1
  have n1 : y1.toBitVec.toNat = b1 8 x.toBitVec.toNat := by
    rw [← e1, N_sub, N_and, N_shr x _ (k := 1) (by decide), show (6148914691236517205 : Int64).toBitVec.toNat = M1 8 from by decide]
    have hl : x.toBitVec.toNat / 2 ^ 1 &&& M1 8 ≤ x.toBitVec.toNat / 2 ^ 1 := Nat.and_le_left
    unfold b1
    rw [show x.toBitVec.toNat / 2 = x.toBitVec.toNat / 2 ^ 1 from rfl]
    omega
  rw [bw_s]
  generalize e2 : (y1 &&& 3689348814741910323) + (((y1.toUInt64 >>> ((2 : Int32).toInt64.toUInt64 &&& Int64.toUInt64 63)).toInt64) &&& 3689348814741910323) = y2
  have hb2 : b2 8 (b1 8 x.toBitVec.toNat) ≤ 7378697629483820646 := by
    have q1 : b1 8 x.toBitVec.toNat &&& M2 8 ≤ M2 8 := Nat.and_le_right
    have q2 : b1 8 x.toBitVec.toNat / 4 &&& M2 8 ≤ M2 8 := Nat.and_le_right
    have q3 : M2 8 = 3689348814741910323 := by decide
    unfold b2
    omega
  have n2 : y2.toBitVec.toNat = b2 8 (b1 8 x.toBitVec.toNat) := by
    rw [← e2, N_add, N_and, N_and, N_shr y1 _ (k := 2) (by decide), n1, show (3689348814741910323 : Int64).toBitVec.toNat = M2 8 from by decide]
    exact Nat.mod_eq_of_lt (show b2 8 (b1 8 x.toBitVec.toNat) < 2 ^ 64 by omega)
  rw [bw_s]
  generalize e3 : (y2 + ((y2.toUInt64 >>> ((4 : Int32).toInt64.toUInt64 &&& Int64.toUInt64 63)).toInt64)) &&& 1085102592571150095 = y3
  have n3 : y3.toBitVec.toNat = Db 8 x.toBitVec.toNat := by
    rw [← e3, N_and, N_add, N_shr y2 _ (k := 4) (by decide), n2, show (1085102592571150095 : Int64).toBitVec.toNat = M4 8 from by decide, Nat.mod_eq_of_lt (by omega)]
    exact (Db_ok 8 _ hX).2
  rw [bw_s]
  generalize e4 : y3 + ((y3.toUInt64 >>> ((8 : Int32).toInt64.toUInt64 &&& Int64.toUInt64 63)).toInt64) = y4
  rw [bw_s]
  generalize e5 : y4 + ((y4.toUInt64 >>> ((16 : Int32).toInt64.toUInt64 &&& Int64.toUInt64 63)).toInt64) = y5
  rw [bw_s]
  generalize e6 : y5 + ((y5.toUInt64 >>> ((32 : Int32).toInt64.toUInt64 &&& Int64.toUInt64 63)).toInt64) = y6
  have hm : ∀ X : Nat, pcb (X % 256) ≤ 8 := fun X => pcb_le _ (Nat.mod_lt _ (by decide))
  obtain ⟨z1, z2, z3, z4, z5⟩ := fin_b _ _ _ _ _ _ _ _ (Db 8 x.toBitVec.toNat) _ _ _ (hm x.toBitVec.toNat) (hm (x.toBitVec.toNat / 256)) (hm (x.toBitVec.toNat / 256 / 256)) (hm (x.toBitVec.toNat / 256 / 256 / 256)) (hm (x.toBitVec.toNat / 256 / 256 / 256 / 256)) (hm (x.toBitVec.toNat / 256 / 256 / 256 / 256 / 256)) (hm (x.toBitVec.toNat / 256 / 256 / 256 / 256 / 256 / 256)) (hm (x.toBitVec.toNat / 256 / 256 / 256 / 256 / 256 / 256 / 256)) rfl rfl rfl rfl
  have n4 := N_add y3 ((y3.toUInt64 >>> ((8 : Int32).toInt64.toUInt64 &&& Int64.toUInt64 63)).toInt64)
  rw [e4, N_shr y3 _ (k := 8) (by decide), n3, show (2 : Nat) ^ 8 = 256 from rfl, Nat.mod_eq_of_lt z1] at n4
  have n5 := N_add y4 ((y4.toUInt64 >>> ((16 : Int32).toInt64.toUInt64 &&& Int64.toUInt64 63)).toInt64)
  rw [e5, N_shr y4 _ (k := 16) (by decide), n4, show (2 : Nat) ^ 16 = 65536 from rfl, Nat.mod_eq_of_lt z2] at n5
  have n6 := N_add y5 ((y5.toUInt64 >>> ((32 : Int32).toInt64.toUInt64 &&& Int64.toUInt64 63)).toInt64)
  rw [e6, N_shr y5 _ (k := 32) (by decide), n5, show (2 : Nat) ^ 32 = 4294967296 from rfl, Nat.mod_eq_of_lt z3] at n6
  congr 1
  apply Int32.toBitVec_inj.mp
  apply BitVec.eq_of_toNat_eq
  have hp : pcn x.toBitVec.toNat 64 = SDb 8 x.toBitVec.toNat := (SDb_ok 8 _).symm
  have hs : SDb 8 x.toBitVec.toNat = y6.toBitVec.toNat % 128 := by
    rw [n6, z4]
    simp only [SDb, Nat.zero_add]
  have el : (y6.toInt32 &&& 127).toBitVec.toNat = y6.toBitVec.toNat % 128 := by
    rw [Int32.toBitVec_and, BitVec.toNat_and, show (127 : Int32).toBitVec.toNat = 2 ^ 7 - 1 from by decide, Nat.and_two_pow_sub_one_eq_mod]
    rw [Int64.toBitVec_toInt32, BitVec.signExtend_eq_setWidth_of_le _ (by decide), BitVec.toNat_setWidth]
    omega
  rw [el, ← hs, hp]
  have : (nI (SDb 8 x.toBitVec.toNat)).toBitVec.toNat = SDb 8 x.toBitVec.toNat % 2 ^ 32 := by
    show (BitVec.ofNat 32 _).toNat = _
    rw [BitVec.toNat_ofNat]
  rw [this, hs]
  omega
/-- how many wait, of a row that is alike -/
theorem bitW {G : gR} {g : Nat → Int32} {n : Nat} (hn : n ≤ 40) (hw : ∀ p : Nat, p < 64 → (wb G.2 p = true ↔ p < 40 ∧ g (52 + p) = 1)) (hz : ∀ p : Nat, n ≤ p → p < 40 → ¬ g (52 + p) = 1) : dnJ13_bitCount_95d88 G.2 = some (nI (wc g n)) := by
  rw [bitC]
  have K : ∀ m : Nat, m ≤ 64 → pcn G.2.toBitVec.toNat m = if m ≤ n then wc g m else wc g n := by
    intro m
    induction m with
    | zero => intro _; rw [if_pos (Nat.zero_le _)]; rfl
    | succ m ih =>
      intro hm
      have e : (G.2.toBitVec.toNat.testBit m = true) ↔ m < 40 ∧ g (52 + m) = 1 := hw m (by omega)
      rw [pcn, ih (by omega)]
      by_cases h1 : m + 1 ≤ n
      · rw [if_pos (by omega), if_pos h1, wc]
        by_cases h2 : g (52 + m) = 1
        · rw [if_pos (e.mpr ⟨by omega, h2⟩), if_pos h2]
        · rw [if_neg (fun q => h2 (e.mp q).2), if_neg h2]
      · rw [if_neg h1, if_neg (fun q => hz m (by omega) (e.mp q).1 (e.mp q).2), Nat.add_zero]
        by_cases h2 : m ≤ n
        · rw [if_pos h2, show m = n by omega]
        · rw [if_neg h2]
  rw [K 64 (Nat.le_refl _)]
  by_cases h : 64 ≤ n
  · omega
  · rw [if_neg h]
