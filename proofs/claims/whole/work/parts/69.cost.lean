/-! costOfOne -/
theorem nn32 {r : UInt32} (h : FP.Core.fIsNaN r = false) : r &&& 0x7fffffff ≤ 0x7f800000 := by
  have h2 : ¬ 2139095040 < r.toNat % 2 ^ 31 := fun q => by
    rw [(FP.Core.isNaN_bits32 r).mpr q] at h; cases h
  rw [UInt32.le_iff_toNat_le, UInt32.toNat_and, show (0x7fffffff : UInt32).toNat = 2 ^ 31 - 1 from by decide, Nat.and_two_pow_sub_one_eq_mod, show (0x7f800000 : UInt32).toNat = 2139095040 from by decide]
  omega
theorem nn64 {r : UInt64} (h : FP.Core.dIsNaN r = false) : vf_n64 r := by
  have h2 : ¬ 9218868437227405312 < r.toNat % 2 ^ 63 := fun q => by
    rw [(FP.Core.isNaN_bits r).mpr q] at h; cases h
  unfold vf_n64
  rw [UInt64.le_iff_toNat_le, UInt64.toNat_and, show (0x7fffffffffffffff : UInt64).toNat = 2 ^ 63 - 1 from by decide, Nat.and_two_pow_sub_one_eq_mod, show (0x7ff0000000000000 : UInt64).toNat = 9218868437227405312 from by decide]
  omega
theorem nn_ok {r : UInt32} (h : FP.Core.fIsNaN r = false) : vf_n64 (FP.f2d r) ∧ Op.cmpValue (FP.dcmp (FP.f2d r) (FP.f2d r)) .l = 0 := by
  have h2 : FP.Core.dIsNaN (FP.f2d r) = false := (FP.f2d_nan r).trans h
  refine ⟨nn64 h2, ?_⟩
  have h3 : FP.dcmp (FP.f2d r) (FP.f2d r) = some .eq := FP.Core.dcmp_self ((FP.Core.notNaN_iff _).mp h2)
  rw [h3]
  rfl
theorem nn_div (a : Int32) {b : Int32} (hb : b ≠ 0) : FP.Core.fIsNaN (FP.fdiv (FP.i2f a) (FP.i2f b)) = false :=
  FP.Core.fdiv_out (FP.Core.i2f_fin a).notNaN (FP.Core.i2f_fin b) (fun z => FP.Core.i2f_ne_zero hb ((FP.Core.zero_bits232 _).mp z))
theorem s_cost (x1 x2 x3 x4 x5 : Int32) (V : gX) (F : gF) (fo : Nat → Int64) (h : JJ V F) : ∃ V' F' fo', LR 19 x1 x2 x3 x4 x5 V F fo V' F' fo' ∧ JJ V' F' := by
  obtain ⟨w, n, kc, hM, hW, hR⟩ := h.r
  obtain ⟨s0, s1, s2, s7, s8, s9, s10, s6⟩ := hR.1
  have g9 : dnX5_get (wr F 0 0 0) 9 = some (row (wr F 0 0 0) w 9) := by rw [show (9 : Int32) = nI 9 from rfl, getr hM (by decide)]
  have g7 : dnX5_get (wr F 0 0 0) 7 = some (row (wr F 0 0 0) w 7) := by rw [show (7 : Int32) = nI 7 from rfl, getr hM (by decide)]
  have g8 : dnX5_get (wr F 0 0 0) 8 = some (row (wr F 0 0 0) w 8) := by rw [show (8 : Int32) = nI 8 from rfl, getr hM (by decide)]
  by_cases hz : row (wr F 0 0 0) w 9 = 0
  · have hnn : FP.Core.fIsNaN FP.fconst0 = false := by
      cases e : FP.Core.fIsNaN FP.fconst0 with
      | false => rfl
      | true => exact absurd ((FP.Core.isNaN_bits32 _).mp e) (by decide)
    refine ⟨V, wr F 0 0 0, fo, ⟨FP.fconst0, ?_, ?_, rfl, rfl, nn_ok hnn⟩, h.t 0⟩
    · unfold dnX4_costOfOne
      rw [s9, if_pos hz]
    · unfold dnX5_costOfOne
      rw [bw_s, g9, bp_s, if_pos hz]
  · have hnn := nn_div (row (wr F 0 0 0) w 7 + row (wr F 0 0 0) w 8) hz
    refine ⟨V, wr F 0 0 0, fo, ⟨_, ?_, ?_, rfl, rfl, nn_ok hnn⟩, h.t 0⟩
    · unfold dnX4_costOfOne fd32
      rw [s9, s7, s8, if_neg hz, if_pos (nn32 hnn)]
    · unfold dnX5_costOfOne fd32
      rw [bw_s, g9, bp_s, if_neg hz, g7, bp_s, g8, bp_s, bp_s, if_pos (nn32 hnn)]
