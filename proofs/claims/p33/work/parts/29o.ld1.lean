/-! the class reads the law's text: the four letters of a word -/
theorem shl8 {x : Int32} {m c : Nat} (hx : x.toBitVec.toNat = m) (hm : m < 2 ^ 23) (hc : c < 256) : ((x <<< ((8 : Int32) &&& 31)) ||| nI c).toBitVec.toNat = m * 256 + c := by
  have e : (x <<< ((8 : Int32) &&& 31)).toBitVec = x.toBitVec <<< 8 := rfl
  have ec : (nI c).toBitVec.toNat = c := by
    show (BitVec.ofNat 32 c).toNat = c
    rw [BitVec.toNat_ofNat]; omega
  rw [Int32.toBitVec_or, BitVec.toNat_or, e, BitVec.toNat_shiftLeft, ec, hx, Nat.shiftLeft_eq, Nat.mod_eq_of_lt (by omega), ← Nat.shiftLeft_eq, ← Nat.shiftLeft_add_eq_or_of_lt (show c < 2 ^ 8 by omega), Nat.shiftLeft_eq]
theorem and255 (y : Int32) : y &&& 255 = nI (y.toBitVec.toNat % 256) := by
  apply Int32.toBitVec_inj.mp
  apply BitVec.eq_of_toNat_eq
  rw [Int32.toBitVec_and, BitVec.toNat_and, show (255 : Int32).toBitVec.toNat = 2 ^ 8 - 1 from by decide, Nat.and_two_pow_sub_one_eq_mod]
  show _ = (BitVec.ofNat 32 _).toNat
  rw [BitVec.toNat_ofNat]
  omega
/-- the byte at a shift -/
def sBy (x : Int32) (s : Int32) : Int32 := ((x.toUInt32 >>> (s.toUInt32 &&& Int32.toUInt32 31)).toInt32) &&& 255
theorem sBy_24 (x : Int32) : sBy x 24 = nI (x.toBitVec.toNat / 2 ^ 24 % 256) := by
  unfold sBy
  rw [and255, show ((x.toUInt32 >>> ((24 : Int32).toUInt32 &&& Int32.toUInt32 31)).toInt32).toBitVec = x.toBitVec >>> 24 from rfl, BitVec.toNat_ushiftRight, Nat.shiftRight_eq_div_pow]
theorem sBy_16 (x : Int32) : sBy x 16 = nI (x.toBitVec.toNat / 2 ^ 16 % 256) := by
  unfold sBy
  rw [and255, show ((x.toUInt32 >>> ((16 : Int32).toUInt32 &&& Int32.toUInt32 31)).toInt32).toBitVec = x.toBitVec >>> 16 from rfl, BitVec.toNat_ushiftRight, Nat.shiftRight_eq_div_pow]
theorem sBy_8 (x : Int32) : sBy x 8 = nI (x.toBitVec.toNat / 2 ^ 8 % 256) := by
  unfold sBy
  rw [and255, show ((x.toUInt32 >>> ((8 : Int32).toUInt32 &&& Int32.toUInt32 31)).toInt32).toBitVec = x.toBitVec >>> 8 from rfl, BitVec.toNat_ushiftRight, Nat.shiftRight_eq_div_pow]
theorem sBy_0 (x : Int32) : sBy x 0 = nI (x.toBitVec.toNat % 256) := by
  unfold sBy
  rw [and255, show ((x.toUInt32 >>> ((0 : Int32).toUInt32 &&& Int32.toUInt32 31)).toInt32).toBitVec = x.toBitVec >>> 0 from rfl, BitVec.toNat_ushiftRight, Nat.shiftRight_eq_div_pow, Nat.pow_zero, Nat.div_one]
theorem ltr_c {S : List Nat} (h : ∀ c ∈ S, c < 128) (k : Nat) : ∃ c : Nat, c < 128 ∧ ltr S k = nI c := by
  unfold ltr
  by_cases e : k < S.length
  · rw [if_pos e]; exact ⟨S.getD k 0, h _ (by rw [gD_i e]; exact List.getElem_mem e), rfl⟩
  · rw [if_neg e]; exact ⟨32, by decide, rfl⟩
theorem prt_4 {S : List Nat} (h : ∀ c ∈ S, c < 128) (i q : Nat) : sBy (prt S i q 4) 24 = ltr S (i + (4 * q + 0)) ∧ sBy (prt S i q 4) 16 = ltr S (i + (4 * q + 1)) ∧ sBy (prt S i q 4) 8 = ltr S (i + (4 * q + 2)) ∧ sBy (prt S i q 4) 0 = ltr S (i + (4 * q + 3)) := by
  obtain ⟨a, ha, ea⟩ := ltr_c h (i + (4 * q + 0))
  obtain ⟨b, hb, eb⟩ := ltr_c h (i + (4 * q + 1))
  obtain ⟨c, hc, ec⟩ := ltr_c h (i + (4 * q + 2))
  obtain ⟨d, hd, ed⟩ := ltr_c h (i + (4 * q + 3))
  have e1 : (prt S i q 1).toBitVec.toNat = a := by
    have := shl8 (x := prt S i q 0) (m := 0) (c := a) rfl (by decide) (by omega)
    rw [← ea] at this
    rw [prt]; omega
  have e2 : (prt S i q 2).toBitVec.toNat = a * 256 + b := by
    have := shl8 (c := b) e1 (by omega) (by omega)
    rw [← eb] at this
    rw [prt]; exact this
  have e3 : (prt S i q 3).toBitVec.toNat = (a * 256 + b) * 256 + c := by
    have := shl8 (c := c) e2 (by omega) (by omega)
    rw [← ec] at this
    rw [prt]; exact this
  have e4 : (prt S i q 4).toBitVec.toNat = ((a * 256 + b) * 256 + c) * 256 + d := by
    have := shl8 (c := d) e3 (by omega) (by omega)
    rw [← ed] at this
    rw [prt]; exact this
  rw [sBy_24, sBy_16, sBy_8, sBy_0, e4, ea, eb, ec, ed]
  refine ⟨congrArg nI ?_, congrArg nI ?_, congrArg nI ?_, congrArg nI ?_⟩ <;> omega
/-- what stands in the buffer: so many letters of the text -/
def BUd (S : List Nat) (f : Nat) (D : gF) : Prop := D 0 1 = nI f ∧ ∀ j : Nat, j < f → D 1 j = ltr S j
theorem byte_d {S : List Nat} {D : gD} {f N : Nat} {x s : Int32} (hs : s = 24 ∨ s = 16 ∨ s = 8 ∨ s = 0) (h : BUd S f D.1) (hf : f < 500) (hb : sBy x s = ltr S f) : ∃ D' : gD, lpX2_addWord_3 x (N + 1) s D = lpX2_addWord_3 x N (s + (-8)) D' ∧ BUd S (f + 1) D'.1 ∧ D'.2 = D.2 := by
  obtain ⟨h1, h3⟩ := h
  have hn : ¬ s < 0 := by rcases hs with rfl | rfl | rfl | rfl <;> decide
  refine ⟨(wr (wr D.1 1 f (sBy x s)) 0 1 (nI (f + 1)), D.2), ?_, ⟨by simp [wr, upd], fun j hj => ?_⟩, rfl⟩
  · have e : (wr D.1 1 f (sBy x s)) 0 1 = nI f := by unfold wr; rw [if_neg (by decide)]; exact h1
    conv => lhs; unfold lpX2_addWord_3
    rw [if_neg hn, h1, if_neg (nI_pos (by omega)), if_neg (show ¬ (500 : Int32) ≤ nI f from nI_ge (b := 500) hf (by decide)), wi_ok hf (by decide), show ((x.toUInt32 >>> (s.toUInt32 &&& Int32.toUInt32 31)).toInt32) &&& 255 = sBy x s from rfl, bw_s, e, bw_s, nI_1]
  · have eD : (wr (wr D.1 1 f (sBy x s)) 0 1 (nI (f + 1))) 1 j = if j = f then sBy x s else D.1 1 j := by simp [wr, upd]
    show (wr (wr D.1 1 f (sBy x s)) 0 1 (nI (f + 1))) 1 j = _
    rw [eD]
    by_cases e : j = f
    · rw [if_pos e, hb, e]
    · rw [if_neg e]; exact h3 j (by omega)
theorem word_d {S : List Nat} {D : gD} {i q : Nat} (hS : ∀ c ∈ S, c < 128) (h : BUd S (i + 4 * q) D.1) (hf : i + 4 * q + 4 ≤ 500) : ∃ D' : gD, dnX2_addWord D (prt S i q 4) = some D' ∧ BUd S (i + 4 * (q + 1)) D'.1 ∧ D'.2 = D.2 := by
  obtain ⟨p1, p2, p3, p4⟩ := prt_4 hS i q
  obtain ⟨D1, a1, c1, d1⟩ := byte_d (N := FU - 1) (x := prt S i q 4) (s := 24) (Or.inl rfl) h (by omega) p1
  obtain ⟨D2, a2, c2, d2⟩ := byte_d (N := FU - 2) (x := prt S i q 4) (s := 16) (Or.inr (Or.inl rfl)) c1 (by omega) p2
  obtain ⟨D3, a3, c3, d3⟩ := byte_d (N := FU - 3) (x := prt S i q 4) (s := 8) (Or.inr (Or.inr (Or.inl rfl))) c2 (by omega) p3
  obtain ⟨D4, a4, c4, d4⟩ := byte_d (N := FU - 4) (x := prt S i q 4) (s := 0) (Or.inr (Or.inr (Or.inr rfl))) c3 (by omega) p4
  refine ⟨D4, ?_, c4, by rw [d4, d3, d2, d1]⟩
  unfold dnX2_addWord
  rw [show FU = FU - 1 + 1 from rfl, a1, show (24 : Int32) + (-8) = 16 from by decide, show FU - 1 = FU - 2 + 1 from rfl, a2, show (16 : Int32) + (-8) = 8 from by decide, show FU - 2 = FU - 3 + 1 from rfl, a3, show (8 : Int32) + (-8) = 0 from by decide, show FU - 3 = FU - 4 + 1 from rfl, a4, show FU - 4 = FU - 5 + 1 from rfl]
  unfold lpX2_addWord_3
  rw [if_pos (by decide), bp_s]
/-- the class behind so many letters -/
def BUx (S : List Nat) (V0 : gX) (f : Nat) (V : gX) : Prop := BUd S f V.2.2.1.1 ∧ V.1 = V0.1 ∧ V.2.1 = V0.2.1 ∧ V.2.2.1.2 = V0.2.2.1.2 ∧ V.2.2.2 = V0.2.2.2
theorem app_d {S : List Nat} {V0 V : gX} {j : Nat} (hS : ∀ c ∈ S, c < 128) (h : BUx S V0 (20 * j) V) (hj : 20 * j ≤ 480) : ∃ V' : gX, dnX4_append V (prt S (20 * j) 0 4) (prt S (20 * j) 1 4) (prt S (20 * j) 2 4) (prt S (20 * j) 3 4) (prt S (20 * j) 4 4) = some (nI (20 * (j + 1)), V') ∧ BUx S V0 (20 * (j + 1)) V' := by
  obtain ⟨hb, e1, e2, e3, e4⟩ := h
  obtain ⟨D1, a1, c1, d1⟩ := word_d (i := 20 * j) (q := 0) hS hb (by omega)
  obtain ⟨D2, a2, c2, d2⟩ := word_d (i := 20 * j) (q := 1) hS c1 (by omega)
  obtain ⟨D3, a3, c3, d3⟩ := word_d (i := 20 * j) (q := 2) hS c2 (by omega)
  obtain ⟨D4, a4, c4, d4⟩ := word_d (i := 20 * j) (q := 3) hS c3 (by omega)
  obtain ⟨D5, a5, c5, d5⟩ := word_d (i := 20 * j) (q := 4) hS c4 (by omega)
  have ef : 20 * j + 4 * (4 + 1) = 20 * (j + 1) := by omega
  rw [ef] at c5
  refine ⟨(V.1, V.2.1, D5, V.2.2.2), ?_, c5, e1, e2, by show D5.2 = _; rw [d5, d4, d3, d2, d1, e3], e4⟩
  unfold dnX4_append
  rw [hb.1, if_pos (show nI (20 * j) ≤ (480 : Int32) from nI_le (b := 480) hj (by decide)), a1, bp_s, a2, bp_s, a3, bp_s, a4, bp_s, a5, bp_s, c5.1]
/-- all of feeds -/
theorem feed_d {S : List Nat} {V0 : gX} (hS : ∀ c ∈ S, c < 128) (hl : S.length ≤ 140) (h0 : V0.2.2.1.1 0 1 = 0) : ∃ (Vs : Nat → gX) (rs : Nat → Int32), Vs 0 = V0 ∧ rs 0 = 0 ∧ (∀ j : Nat, 20 * j < S.length → dnX4_append (Vs j) (prt S (20 * j) 0 4) (prt S (20 * j) 1 4) (prt S (20 * j) 2 4) (prt S (20 * j) 3 4) (prt S (20 * j) 4 4) = some (rs (j + 1), Vs (j + 1))) ∧ ∀ j : Nat, 20 * j < S.length + 20 → BUx S V0 (20 * j) (Vs j) ∧ rs j = nI (20 * j) := by
  have hx : ∀ V : gX, ∀ j : Nat, ∃ V' : gX, BUx S V0 (20 * j) V → 20 * j < S.length → dnX4_append V (prt S (20 * j) 0 4) (prt S (20 * j) 1 4) (prt S (20 * j) 2 4) (prt S (20 * j) 3 4) (prt S (20 * j) 4 4) = some (nI (20 * (j + 1)), V') ∧ BUx S V0 (20 * (j + 1)) V' := fun V j => by
    by_cases c : BUx S V0 (20 * j) V ∧ 20 * j < S.length
    · obtain ⟨V', k1, k2⟩ := app_d hS c.1 (by omega)
      exact ⟨V', fun _ _ => ⟨k1, k2⟩⟩
    · exact ⟨V, fun z1 z2 => absurd ⟨z1, z2⟩ c⟩
  have hB0 : BUx S V0 (20 * 0) V0 := ⟨⟨h0, fun j hj => by omega⟩, rfl, rfl, rfl, rfl⟩
  have hB : ∀ j : Nat, 20 * j < S.length + 20 → BUx S V0 (20 * j) (Nat.rec V0 (fun j V => (hx V j).choose) j : gX) := by
    intro j
    induction j with
    | zero => intro _; exact hB0
    | succ j ih => intro hj; exact ((hx _ j).choose_spec (ih (by omega)) (by omega)).2
  refine ⟨fun j => Nat.rec V0 (fun j V => (hx V j).choose) j, fun j => nI (20 * j), rfl, rfl, fun j hj => ?_, fun j hj => ⟨hB j hj, rfl⟩⟩
  exact ((hx _ j).choose_spec (hB j (by omega)) hj).1
