/-! append -/
theorem byteE (x : Int32) {s : Int32} (hs : s = 24 ∨ s = 16 ∨ s = 8 ∨ s = 0) : ((x.toUInt32 >>> (s.toUInt32 &&& Int32.toUInt32 31)).toInt32) &&& 255 = (x >>> (s &&& 31)) &&& 255 := by
  have h255 : ∀ i : Nat, i < 32 → ¬ i < 8 → (255 : Int32).toBitVec.getLsbD i = false := by decide
  have K : ∀ k : Nat, k ≤ 24 → ∀ i : Nat, i < 32 → ((x.toBitVec >>> k).getLsbD i && (255 : Int32).toBitVec.getLsbD i) = ((x.toBitVec.sshiftRight k).getLsbD i && (255 : Int32).toBitVec.getLsbD i) := by
    intro k hk i hi
    by_cases h8 : i < 8
    · congr 1
      rw [BitVec.getLsbD_ushiftRight, BitVec.getLsbD_sshiftRight]
      have h1 : k + i < 32 := by omega
      simp [h1, hi]
    · rw [h255 i hi h8, Bool.and_false, Bool.and_false]
  rcases hs with rfl | rfl | rfl | rfl
  · apply Int32.toBitVec_inj.mp
    apply BitVec.eq_of_getLsbD_eq
    intro i hi
    rw [Int32.toBitVec_and, Int32.toBitVec_and, BitVec.getLsbD_and, BitVec.getLsbD_and]
    exact K 24 (by decide) i hi
  · apply Int32.toBitVec_inj.mp
    apply BitVec.eq_of_getLsbD_eq
    intro i hi
    rw [Int32.toBitVec_and, Int32.toBitVec_and, BitVec.getLsbD_and, BitVec.getLsbD_and]
    exact K 16 (by decide) i hi
  · apply Int32.toBitVec_inj.mp
    apply BitVec.eq_of_getLsbD_eq
    intro i hi
    rw [Int32.toBitVec_and, Int32.toBitVec_and, BitVec.getLsbD_and, BitVec.getLsbD_and]
    exact K 8 (by decide) i hi
  · apply Int32.toBitVec_inj.mp
    apply BitVec.eq_of_getLsbD_eq
    intro i hi
    rw [Int32.toBitVec_and, Int32.toBitVec_and, BitVec.getLsbD_and, BitVec.getLsbD_and]
    exact K 0 (by decide) i hi
theorem byte0 (y : Int32) : 0 ≤ y &&& 255 := by
  have e : y &&& 255 = nI (y.toBitVec.toNat % 256) := by
    apply Int32.toBitVec_inj.mp
    apply BitVec.eq_of_toNat_eq
    rw [Int32.toBitVec_and, BitVec.toNat_and, show (255 : Int32).toBitVec.toNat = 2 ^ 8 - 1 from by decide, Nat.and_two_pow_sub_one_eq_mod]
    show _ = (BitVec.ofNat 32 _).toNat
    rw [BitVec.toNat_ofNat]
    omega
  rw [e]
  exact nI_pos' (by omega)
def BUF (D : gF) (F : gF) (f : Nat) : Prop := D 0 1 = nI f ∧ F 0 7 = nI f ∧ ∀ j : Nat, j < f → D 1 j = F 4 j ∧ 0 ≤ F 4 j
theorem byte_b {D : gD} {F : gF} {f N : Nat} {x s : Int32} (hs : s = 24 ∨ s = 16 ∨ s = 8 ∨ s = 0) (h : BUF D.1 F f) (hf : f < 500) : ∃ (D' : gD) (F' : gF), lpX2_addWord_3 x (N + 1) s D = lpX2_addWord_3 x N (s + (-8)) D' ∧ lpX5_four_3 x (N + 1) s F = lpX5_four_3 x N (s + (-8)) F' ∧ BUF D'.1 F' (f + 1) ∧ D'.2 = D.2 ∧ (∀ a : Nat, a ≠ 0 → a ≠ 4 → F' a = F a) ∧ (∀ k : Nat, k ≠ 7 → F' 0 k = F 0 k) := by
  obtain ⟨h1, h2, h3⟩ := h
  have hn : ¬ s < 0 := by rcases hs with rfl | rfl | rfl | rfl <;> decide
  refine ⟨(wr (wr D.1 1 f ((x >>> (s &&& 31)) &&& 255)) 0 1 (nI (f + 1)), D.2), wr (wr F 4 f ((x >>> (s &&& 31)) &&& 255)) 0 7 (nI (f + 1)), ?_, ?_, ⟨by simp [wr, upd], by simp [wr, upd], fun j hj => ?_⟩, rfl, fun a a0 a4 => ?_, fun k hk => ?_⟩
  · have e : (wr D.1 1 f ((x >>> (s &&& 31)) &&& 255)) 0 1 = nI f := by unfold wr; rw [if_neg (by decide)]; exact h1
    conv => lhs; unfold lpX2_addWord_3
    rw [if_neg hn, h1, if_neg (nI_pos (by omega)), if_neg (show ¬ (500 : Int32) ≤ nI f from nI_ge (b := 500) hf (by decide)), wi_ok hf (by decide), byteE x hs, bw_s, e, bw_s, nI_1]
  · have e : (wr F 4 f ((x >>> (s &&& 31)) &&& 255)) 0 7 = nI f := by unfold wr; rw [if_neg (by decide)]; exact h2
    conv => lhs; unfold lpX5_four_3
    rw [if_neg hn, h2, wi_ok hf (by decide), bw_s, e, bw_s, nI_1]
  · have eD : (wr (wr D.1 1 f ((x >>> (s &&& 31)) &&& 255)) 0 1 (nI (f + 1))) 1 j = if j = f then ((x >>> (s &&& 31)) &&& 255) else D.1 1 j := by simp [wr, upd]
    have eF : (wr (wr F 4 f ((x >>> (s &&& 31)) &&& 255)) 0 7 (nI (f + 1))) 4 j = if j = f then ((x >>> (s &&& 31)) &&& 255) else F 4 j := by simp [wr, upd]
    show (wr (wr D.1 1 f ((x >>> (s &&& 31)) &&& 255)) 0 1 (nI (f + 1))) 1 j = _ ∧ _
    rw [eD, eF]
    by_cases e : j = f
    · rw [if_pos e, if_pos e]; exact ⟨rfl, byte0 _⟩
    · rw [if_neg e, if_neg e]; exact h3 j (by omega)
  · simp only [wr]; rw [if_neg a0, if_neg a4]
  · simp only [wr, if_true, upd]; rw [if_neg hk, if_neg (by decide)]
theorem word_b {D : gD} {F : gF} {f : Nat} {x : Int32} (h : BUF D.1 F f) (hf : f + 4 ≤ 500) : ∃ (D' : gD) (F' : gF), dnX2_addWord D x = some D' ∧ dnX5_four F x = some F' ∧ BUF D'.1 F' (f + 4) ∧ D'.2 = D.2 ∧ (∀ a : Nat, a ≠ 0 → a ≠ 4 → F' a = F a) ∧ (∀ k : Nat, k ≠ 7 → F' 0 k = F 0 k) := by
  obtain ⟨D1, F1, a1, b1, c1, d1, e1, g1⟩ := byte_b (N := FU - 1) (x := x) (s := 24) (Or.inl rfl) h (by omega)
  obtain ⟨D2, F2, a2, b2, c2, d2, e2, g2⟩ := byte_b (N := FU - 2) (x := x) (s := 16) (Or.inr (Or.inl rfl)) c1 (by omega)
  obtain ⟨D3, F3, a3, b3, c3, d3, e3, g3⟩ := byte_b (N := FU - 3) (x := x) (s := 8) (Or.inr (Or.inr (Or.inl rfl))) c2 (by omega)
  obtain ⟨D4, F4, a4, b4, c4, d4, e4, g4⟩ := byte_b (N := FU - 4) (x := x) (s := 0) (Or.inr (Or.inr (Or.inr rfl))) c3 (by omega)
  refine ⟨D4, F4, ?_, ?_, c4, by rw [d4, d3, d2, d1], fun a h0 h4 => by rw [e4 a h0 h4, e3 a h0 h4, e2 a h0 h4, e1 a h0 h4], fun k hk => by rw [g4 k hk, g3 k hk, g2 k hk, g1 k hk]⟩
  · unfold dnX2_addWord
    rw [show FU = FU - 1 + 1 from rfl, a1, show (24 : Int32) + (-8) = 16 from by decide, show FU - 1 = FU - 2 + 1 from rfl, a2, show (16 : Int32) + (-8) = 8 from by decide, show FU - 2 = FU - 3 + 1 from rfl, a3, show (8 : Int32) + (-8) = 0 from by decide, show FU - 3 = FU - 4 + 1 from rfl, a4, show FU - 4 = FU - 5 + 1 from rfl]
    unfold lpX2_addWord_3
    rw [if_pos (by decide), bp_s]
  · unfold dnX5_four
    rw [show FU = FU - 1 + 1 from rfl, b1, show (24 : Int32) + (-8) = 16 from by decide, show FU - 1 = FU - 2 + 1 from rfl, b2, show (16 : Int32) + (-8) = 8 from by decide, show FU - 2 = FU - 3 + 1 from rfl, b3, show (8 : Int32) + (-8) = 0 from by decide, show FU - 3 = FU - 4 + 1 from rfl, b4, show FU - 4 = FU - 5 + 1 from rfl]
    unfold lpX5_four_3
    rw [if_pos (by decide), bp_s]
theorem JJ.buf {V : gX} {F F' : gF} {D : gD} {f : Nat} (h : JJ V F) (ea : ∀ a : Nat, a ≠ 0 → a ≠ 4 → F' a = F a) (ek : ∀ k : Nat, k ≠ 0 → k ≠ 7 → F' 0 k = F 0 k) (hf : f ≤ 500) (hb : BUF D.1 F' f) : JJ (V.1, V.2.1, D, V.2.2.2) F' := by
  obtain ⟨⟨w, h1, ⟨n, kc, h2, h3⟩, u, x, q1, q2, q3, q4, q5, q6⟩, h4, -⟩ := h
  have er : ∀ w : Nat, row F' w = row F w := fun w => row_b (ea 1 (by decide) (by decide))
  refine ⟨⟨w, ⟨by rw [ek 4 (by decide) (by decide)]; exact h1.1, h1.2⟩, ⟨n, kc, by rw [er]; exact h2, by rw [er]; exact h3⟩, u, x, q1, q2, by rw [ek 5 (by decide) (by decide)]; exact q3, q4, q5, fun j hj => ?_⟩, by rw [ek 11 (by decide) (by decide)]; exact h4, f, hf, hb.2.1, hb.1, hb.2.2⟩
  obtain ⟨n1, kc1, p1, p2⟩ := q6 j hj
  exact ⟨n1, kc1, by rw [er]; exact p1, by rw [er]; exact p2⟩
theorem s_append (x1 x2 x3 x4 x5 : Int32) (V : gX) (F : gF) (fo : Nat → Int64) (h : JJ V F) : ∃ V' F' fo', LR 0 x1 x2 x3 x4 x5 V F fo V' F' fo' ∧ JJ V' F' := by
  obtain ⟨-, -, f, hf, f2, f3, f4⟩ := id h
  have hb : BUF V.2.2.1.1 (wr F 0 0 0) f := ⟨f3, by rw [wr_o (by decide)]; exact f2, fun j hj => by rw [wr_b (by decide)]; exact f4 j hj⟩
  by_cases h480 : f ≤ 480
  · obtain ⟨D1, F1, a1, b1, c1, d1, e1, g1⟩ := word_b (x := x1) hb (by omega)
    obtain ⟨D2, F2, a2, b2, c2, d2, e2, g2⟩ := word_b (x := x2) c1 (by omega)
    obtain ⟨D3, F3, a3, b3, c3, d3, e3, g3⟩ := word_b (x := x3) c2 (by omega)
    obtain ⟨D4, F4, a4, b4, c4, d4, e4, g4⟩ := word_b (x := x4) c3 (by omega)
    obtain ⟨D5, F5, a5, b5, c5, d5, e5, g5⟩ := word_b (x := x5) c4 (by omega)
    refine ⟨(V.1, V.2.1, D5, V.2.2.2), F5, fo, ⟨nI (f + 4 + 4 + 4 + 4 + 4), ?_, ?_, rfl⟩, (h.t 0).buf (fun a k0 k4 => by rw [e5 a k0 k4, e4 a k0 k4, e3 a k0 k4, e2 a k0 k4, e1 a k0 k4]) (fun k k0 k7 => by rw [g5 k k7, g4 k k7, g3 k k7, g2 k k7, g1 k k7]) (by omega) c5⟩
    · unfold dnX4_append
      rw [f3, if_pos (show nI f ≤ (480 : Int32) from nI_le (b := 480) h480 (by decide)), a1, bp_s, a2, bp_s, a3, bp_s, a4, bp_s, a5, bp_s, c5.1]
    · unfold dnX5_append
      rw [bw_s, wr_o (by decide), f2, show (20 : Int32) = nI 20 from rfl, nI_add, if_pos (show nI (f + 20) ≤ (500 : Int32) from nI_le (b := 500) (by omega) (by decide)), b1, bp_s, b2, bp_s, b3, bp_s, b4, bp_s, b5, bp_s, c5.2.1]
  · refine ⟨V, wr F 0 0 0, fo, ⟨-1, ?_, ?_, rfl⟩, h.t 0⟩
    · unfold dnX4_append
      rw [f3, if_neg (show ¬ nI f ≤ (480 : Int32) from nI_ge (a := 480) (by omega) (by omega))]
    · unfold dnX5_append
      rw [bw_s, wr_o (by decide), f2, show (20 : Int32) = nI 20 from rfl, nI_add, if_neg (show ¬ nI (f + 20) ≤ (500 : Int32) from nI_ge (a := 500) (by omega) (by omega))]
