/-! words -/
theorem let_em (c : Int32) : (dnX2_isLetter c = some 0 ∧ dnX5_isSmall c = some 0) ∨ (dnX2_isLetter c = some 1 ∧ dnX5_isSmall c = some 1) := by
  unfold dnX2_isLetter dnX5_isSmall
  by_cases h1 : c < 97
  · rw [if_pos h1]; exact Or.inl ⟨rfl, rfl⟩
  · by_cases h2 : 122 < c
    · rw [if_neg h1, if_pos h2]; exact Or.inl ⟨rfl, rfl⟩
    · rw [if_neg h1, if_neg h2]; exact Or.inr ⟨rfl, rfl⟩
theorem ch_let : ∀ i : Nat, i < 6 → ∀ k : Nat, k < 4 → k < sLen.getD i 0 → dnX2_isLetter (sCh i (nI k)) = some 1 ∧ sCh i (nI k) ≠ -1 := by decide +kernel
theorem sl_b : ∀ i : Nat, i < 6 → 1 ≤ sLen.getD i 0 ∧ sLen.getD i 0 ≤ 4 := by decide
theorem sc_ok {β : Type} {i k : Nat} {f : Int32 → Option β} (hi : i < 6) (h : k < sLen.getD i 0) : sc i (nI k) f = f (sCh i (nI k)) := by
  have := sl_b i hi
  unfold sc
  rw [if_neg (nI_in h (by omega))]
theorem hw7 {T : Nat → Int32} {len q i : Nat} {D : gD} {P : gF} (h : TX T len D.1 P) (h6 : D.1 0 6 = nI q) (hq : q ≤ len) (hi : i < 6) : ∀ (N k : Nat), k ≤ sLen.getD i 0 → sLen.getD i 0 < N + k → ∃ z : Nat, lpX2_hasWord_7 D i (nI (sLen.getD i 0)) N (nI k) = some z ∧ ((z = 1 ∧ ∀ j : Nat, k ≤ j → j < sLen.getD i 0 → tb T len (q + j) = sCh i (nI j)) ∨ (z = 0 ∧ ∃ j : Nat, k ≤ j ∧ j < sLen.getD i 0 ∧ tb T len (q + j) ≠ sCh i (nI j))) := by
  have h5 := h.1
  have hl := sl_b i hi
  intro N
  induction N with
  | zero => intro k h1 h2; omega
  | succ N ih =>
    intro k h1 h2
    unfold lpX2_hasWord_7
    by_cases hk : sLen.getD i 0 ≤ k
    · rw [if_pos (nI_le hk (by omega))]
      exact ⟨1, rfl, Or.inl ⟨rfl, fun j j1 j2 => by omega⟩⟩
    · rw [if_neg (nI_ge (by omega) (by omega)), h6, nI_add, byteC h (by omega), bp_s, sc_ok hi (by omega)]
      by_cases e : tb T len (q + k) = sCh i (nI k)
      · rw [if_pos e, nI_1]
        obtain ⟨z, z1, z2⟩ := ih (k + 1) (by omega) (by omega)
        refine ⟨z, z1, ?_⟩
        rcases z2 with ⟨z3, z4⟩ | ⟨z3, j, j1, j2, j3⟩
        · refine Or.inl ⟨z3, fun j j1 j2 => ?_⟩
          by_cases ej : j = k
          · rw [ej]; exact e
          · exact z4 j (by omega) j2
        · exact Or.inr ⟨z3, j, by omega, j2, j3⟩
      · rw [if_neg e]
        exact ⟨0, rfl, Or.inr ⟨rfl, k, Nat.le_refl _, by omega, e⟩⟩
theorem p7 {T : Nat → Int32} {len q w i : Nat} {D P : gF} {g : Nat → Int32} (h : TX T len D P) (h9 : P 0 9 = nI q) (hq : q ≤ len) : ∀ (N k : Nat), q + k ≤ len → len < N + (q + k) → ∃ m : Nat, k ≤ m ∧ q + m ≤ len ∧ lpX5_passes_7 (st P w g) i N (nI k) = some (0, nI m) ∧ (∀ j : Nat, k ≤ j → j < m → dnX2_isLetter (T (q + j)) = some 1) ∧ (q + m = len ∨ dnX2_isLetter (T (q + m)) = some 0) := by
  have h5 := h.1
  intro N
  induction N with
  | zero => intro k h1 h2; omega
  | succ N ih =>
    intro k h1 h2
    have e8 : (st P w g) 0 8 = nI len := by rw [st_0]; exact h.2.2.1
    have e9 : (st P w g) 0 9 = nI q := by rw [st_0]; exact h9
    have e4 : (st P w g) 4 = P 4 := by rw [st_b (by decide)]
    unfold lpX5_passes_7
    rw [e8, e9, e4, nI_add]
    by_cases c : len ≤ q + k
    · rw [if_pos (nI_le c (by omega))]
      exact ⟨k, Nat.le_refl _, h1, rfl, fun j j1 j2 => by omega, Or.inl (by omega)⟩
    · rw [if_neg (nI_ge (by omega) (by omega)), ra_ok (by omega) (by decide), (h.2.2.2 (q + k) (by omega)).2.1]
      rcases let_em (T (q + k)) with ⟨l2, l5⟩ | ⟨l2, l5⟩
      · rw [l5, bp_s, if_pos rfl]
        exact ⟨k, Nat.le_refl _, h1, rfl, fun j j1 j2 => by omega, Or.inr l2⟩
      · rw [l5, bp_s, if_neg (by decide), nI_1]
        obtain ⟨m, m1, m2, m3, m4, m5⟩ := ih (k + 1) (by omega) (by omega)
        refine ⟨m, by omega, m2, m3, fun j j1 j2 => ?_, m5⟩
        by_cases ej : j = k
        · rw [ej]; exact l2
        · exact m4 j (by omega) j2
theorem p55 {T : Nat → Int32} {len q w i : Nat} {D P : gF} {g : Nat → Int32} (h : TX T len D P) (h9 : P 0 9 = nI q) (hq : q + sLen.getD i 0 ≤ len) (hi : i < 6) : ∀ (N k : Nat), k ≤ sLen.getD i 0 → sLen.getD i 0 < N + k → ∃ z : Nat, lpX5_passes_55 (st P w g) i (nI (sLen.getD i 0)) N (nI k) = some z ∧ ((z = 1 ∧ ∀ j : Nat, k ≤ j → j < sLen.getD i 0 → T (q + j) = sCh i (nI j)) ∨ (z = 0 ∧ ∃ j : Nat, k ≤ j ∧ j < sLen.getD i 0 ∧ T (q + j) ≠ sCh i (nI j))) := by
  have h5 := h.1
  have hl := sl_b i hi
  intro N
  induction N with
  | zero => intro k h1 h2; omega
  | succ N ih =>
    intro k h1 h2
    have e9 : (st P w g) 0 9 = nI q := by rw [st_0]; exact h9
    have e4 : (st P w g) 4 = P 4 := by rw [st_b (by decide)]
    unfold lpX5_passes_55
    rw [e9, e4, nI_add]
    by_cases hk : sLen.getD i 0 ≤ k
    · rw [if_pos (nI_le hk (by omega))]
      exact ⟨1, rfl, Or.inl ⟨rfl, fun j j1 j2 => by omega⟩⟩
    · rw [if_neg (nI_ge (by omega) (by omega)), ra_ok (by omega) (by decide), (h.2.2.2 (q + k) (by omega)).2.1, sc_ok hi (by omega)]
      by_cases e : T (q + k) = sCh i (nI k)
      · rw [if_pos e, nI_1]
        obtain ⟨z, z1, z2⟩ := ih (k + 1) (by omega) (by omega)
        refine ⟨z, z1, ?_⟩
        rcases z2 with ⟨z3, z4⟩ | ⟨z3, j, j1, j2, j3⟩
        · refine Or.inl ⟨z3, fun j j1 j2 => ?_⟩
          by_cases ej : j = k
          · rw [ej]; exact e
          · exact z4 j (by omega) j2
        · exact Or.inr ⟨z3, j, by omega, j2, j3⟩
      · rw [if_neg e]
        exact ⟨0, rfl, Or.inr ⟨rfl, k, Nat.le_refl _, by omega, e⟩⟩
/-- a word is there, for both, or for none -/
theorem word_w {T : Nat → Int32} {len q w i : Nat} {D : gD} {P : gF} {g : Nat → Int32} (h : PS T len q D.1 P) (hi : i < 6) : (∃ (q' : Nat) (P' : gF), dnX2_hasWord D i = some (1, (wr D.1 0 6 (nI q'), D.2)) ∧ dnX5_passes (st P w g) i = some (1, st P' w g) ∧ PS T len q' (wr D.1 0 6 (nI q')) P' ∧ PF P P' ∧ q < q') ∨ (dnX2_hasWord D i = some (0, D) ∧ dnX5_passes (st P w g) i = some (0, st (wr P 0 9 (nI q)) w g)) := by
  have h5 := h.1.1
  have hl := sl_b i hi
  obtain ⟨p, hp, hs⟩ := h.2.2.1
  have s2 := hs.2.1
  have hT : TX T len D.1 (wr P 0 9 (nI q)) := h.h.1
  obtain ⟨z, z1, z2⟩ := hw7 h.1 h.2.1 s2 hi FU 0 (by omega) (by unfold FU; omega)
  obtain ⟨m, m1, m2, m3, m4, m5⟩ := p7 (w := w) (g := g) (i := i) hT (wr_i ..) s2 FU 0 (by omega) (by unfold FU; omega)
  have ebyte : dnX2_byteAt D (nI q + nI (sLen.getD i 0)) = some (tb T len (q + sLen.getD i 0)) := by rw [nI_add, byteC h.1 (by omega)]
  have hlet : ∀ j : Nat, j < sLen.getD i 0 → dnX2_isLetter (sCh i (nI j)) = some 1 ∧ sCh i (nI j) ≠ -1 := fun j hj => ch_let i hi j (by omega) hj
  have hm1 : dnX2_isLetter (-1) = some 0 := rfl
  unfold dnX2_hasWord dnX5_passes
  rw [h.2.1, show lpX2_hasWord_7 D i (nI (sLen.getD i 0)) FU 0 = _ from z1, bp_s, h.here, bs_s, show lpX5_passes_7 (st (wr P 0 9 (nI q)) w g) i FU 0 = _ from m3, bp_s]
  by_cases hml : m = sLen.getD i 0
  · subst hml
    obtain ⟨y, y1, y2⟩ := p55 (w := w) (g := g) hT (wr_i ..) m2 hi FU 0 (by omega) (by unfold FU; omega)
    have etb : ∀ j : Nat, j < sLen.getD i 0 → tb T len (q + j) = T (q + j) := fun j hj => by unfold tb; rw [if_pos (by omega)]
    rw [if_pos rfl, show lpX5_passes_55 (st (wr P 0 9 (nI q)) w g) i (nI (sLen.getD i 0)) FU 0 = _ from y1, bp_s]
    rcases z2 with ⟨rfl, z3⟩ | ⟨rfl, j, j1, j2, j3⟩
    · have hy : y = 1 := by
        rcases y2 with ⟨y3, -⟩ | ⟨-, j, j1, j2, j3⟩
        · exact y3
        · exact absurd ((etb j j2).symm.trans (z3 j j1 j2)) j3
      subst hy
      have hno : dnX2_isLetter (tb T len (q + sLen.getD i 0)) = some 0 := by
        unfold tb
        rcases m5 with e | e
        · rw [if_neg (by omega)]; rfl
        · by_cases c : q + sLen.getD i 0 < len
          · rw [if_pos c]; exact e
          · rw [if_neg c]; rfl
      obtain ⟨q', g1, g2, g3⟩ := h.go (w := 0) m2
      refine Or.inl ⟨q', wr P 0 9 (nI (q + sLen.getD i 0)), ?_, ?_, g3, (PF.rf P).w (by omega) _, by omega⟩
      · rw [if_neg (by decide), ebyte, bp_s, hno, bp_s, if_pos rfl, nI_add, g2, bp_s]
      · rw [if_neg (by decide), st_0, wr_i, nI_add, st_w0, wr_wr, bw_s]
    · have hy : y = 0 := by
        rcases y2 with ⟨-, y3⟩ | ⟨y3, -⟩
        · exact absurd ((etb j j2).trans (y3 j j1 j2)) j3
        · exact y3
      subst hy
      refine Or.inr ⟨?_, ?_⟩
      · rw [if_pos rfl]
      · rw [if_pos rfl]
  · have hne : ¬ nI m = nI (sLen.getD i 0) := fun z => hml ((nI_eq (by omega) (by omega)).mp z)
    rw [if_neg hne]
    rcases z2 with ⟨rfl, z3⟩ | ⟨rfl, -⟩
    · -- all letters of the word are there, so a letter follows
      have hge : sLen.getD i 0 ≤ m := by
        by_cases c : sLen.getD i 0 ≤ m
        · exact c
        · have e := z3 m (Nat.zero_le _) (by omega)
          obtain ⟨l1, l2⟩ := hlet m (by omega)
          have hin : q + m < len := tb_in l2 e
          have e2 : tb T len (q + m) = T (q + m) := by unfold tb; rw [if_pos hin]
          rcases m5 with z | z
          · omega
          · rw [← e2, e, l1] at z
            exact absurd (Option.some.inj z) (by decide)
      have hle : dnX2_isLetter (tb T len (q + sLen.getD i 0)) = some 1 := by
        have e2 : tb T len (q + sLen.getD i 0) = T (q + sLen.getD i 0) := by unfold tb; rw [if_pos (by omega)]
        rw [e2]
        exact m4 _ (Nat.zero_le _) (by omega)
      refine Or.inr ⟨?_, rfl⟩
      rw [if_neg (show ¬ (1 : Nat) = 0 by decide), ebyte, bp_s, hle, bp_s, if_neg (show ¬ (1 : Int32) = 0 by decide)]
    · refine Or.inr ⟨?_, rfl⟩
      rw [if_pos rfl]
