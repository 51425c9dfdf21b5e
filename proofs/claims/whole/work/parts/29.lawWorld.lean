set_option maxRecDepth 100000 in
set_option maxHeartbeats 8000000 in
theorem law_world {s : State} {b : Nat} (hts : ∀ w ∈ lw_tbl, w.before #[Value.ref b] s = true) (hgv : (Jvm.Cond.and given_1 narrow_1).before #[Value.ref b] s = true) (A : Nat → Prop) (hA : ∀ a : Nat, a < s.heap.size → ¬ A a) :
    ∃ (Dd : va_G) (Y : yT), va_K Dd vwCl (TY Y) s ∧ XW Y s ∧ ZW Y A s s.heap := by
  have hs := flat_of_before _ hgv
  obtain ⟨c0, i0, k0⟩ := u_known (C := RX0) (T := TX0) (N := 3) (n := 3) hts lwxX0 (hts (.instantiable RX0 3) (by decide +kernel))
  obtain ⟨c1, i1, k1⟩ := u_known (C := RX1) (T := TX1) (N := 11) (n := 11) hts lwxX1 (hts (.instantiable RX1 11) (by decide +kernel))
  obtain ⟨c2, i2, k2⟩ := u_known (C := RX2) (T := TX2) (N := 11) (n := 11) hts lwxX2 (hts (.instantiable RX2 11) (by decide +kernel))
  obtain ⟨c3, i3, k3⟩ := u_known (C := RX3) (T := TX3) (N := 3) (n := 3) hts lwxX3 (hts (.instantiable RX3 3) (by decide +kernel))
  obtain ⟨c4, i4, k4⟩ := u_known (C := RX4) (T := TX4) (N := 4) (n := 4) hts lwxX4 (hts (.instantiable RX4 4) (by decide +kernel))
  obtain ⟨c5, i5, k5⟩ := u_known (C := RX5) (T := TX5) (N := 15) (n := 15) hts lwxX5 (hts (.instantiable RX5 15) (by decide +kernel))
  obtain ⟨cI, aI, nI_⟩ := arr_k (fun C h => by cases h) (hts (.arrayClass .int) (by decide +kernel))
  obtain ⟨cB, aB, nB_⟩ := arr_k (fun C h => by cases h) (hts (.arrayClass .boolean) (by decide +kernel))
  have hov := hts (.arrayOver (.object "DoubledRows$Row")) (by decide +kernel)
  obtain ⟨comp, cR, kR, r1, -, r3, r4, r5⟩ := Cond.arrayOver_spec hov
  have hL : ∀ i : Nat, i < 6 → sLen.getD i 0 < 2 ^ 31 := le6 (by decide) (by decide) (by decide) (by decide) (by decide) (by decide)
  obtain ⟨adK, adV, hSt, hev⟩ := vk_Sof (args := #[Value.ref b]) (s := s) (N := 6) (tm := tmS) (len := sLen) (byt := sByt) (A := A) hL
    (le6 (hs _ (by decide +kernel)) (hs _ (by decide +kernel)) (hs _ (by decide +kernel)) (hs _ (by decide +kernel)) (hs _ (by decide +kernel)) (hs _ (by decide +kernel)))
    (le6 (hs _ (by decide +kernel)) (hs _ (by decide +kernel)) (hs _ (by decide +kernel)) (hs _ (by decide +kernel)) (hs _ (by decide +kernel)) (hs _ (by decide +kernel)))
    (le6 (hs _ (by decide +kernel)) (hs _ (by decide +kernel)) (hs _ (by decide +kernel)) (hs _ (by decide +kernel)) (hs _ (by decide +kernel)) (hs _ (by decide +kernel)))
    (le6 (hs _ (by decide +kernel)) (hs _ (by decide +kernel)) (hs _ (by decide +kernel)) (hs _ (by decide +kernel)) (hs _ (by decide +kernel)) (hs _ (by decide +kernel)))
    (le6 (fun j hj => by rcases (show j = 0 ∨ j = 1 ∨ j = 2 from by have : j < 3 := hj; omega) with rfl | rfl | rfl <;> exact hs _ (by decide +kernel)) (fun j hj => by rcases (show j = 0 ∨ j = 1 ∨ j = 2 from by have : j < 3 := hj; omega) with rfl | rfl | rfl <;> exact hs _ (by decide +kernel)) (fun j hj => by rcases (show j = 0 ∨ j = 1 ∨ j = 2 from by have : j < 3 := hj; omega) with rfl | rfl | rfl <;> exact hs _ (by decide +kernel)) (fun j hj => by rcases (show j = 0 ∨ j = 1 ∨ j = 2 ∨ j = 3 from by have : j < 4 := hj; omega) with rfl | rfl | rfl | rfl <;> exact hs _ (by decide +kernel)) (fun j hj => by rcases (show j = 0 ∨ j = 1 ∨ j = 2 from by have : j < 3 := hj; omega) with rfl | rfl | rfl <;> exact hs _ (by decide +kernel)) (fun j hj => by rcases (show j = 0 ∨ j = 1 ∨ j = 2 ∨ j = 3 from by have : j < 4 := hj; omega) with rfl | rfl | rfl | rfl <;> exact hs _ (by decide +kernel)))
    (fun i j hi hj hij => (fl_ne i hi j hj hij).imp (hs _) (hs _)) hA
  have hrow : ∀ (i : Nat) (k : Nat), i < 6 → (Cond.eq (.string RX2 k) (tmS i)).before #[Value.ref b] s = true → (Term.string RX2 k).eval #[Value.ref b] s none [] s = some (.ref (adK i)) := fun i k hi h => Cond.eq_refs h (hev i hi) rfl
  refine ⟨(fun k => if k = 0 then c0 else if k = 1 then c1 else if k = 2 then c2 else if k = 3 then c3 else if k = 4 then c4 else c5, fun k => if k = 0 then i0 else if k = 1 then i1 else if k = 2 then i2 else if k = 3 then i3 else if k = 4 then i4 else i5), (cI, cB, cR, adK, adV), ⟨?_, ?_⟩, ⟨⟨?_, ?_, ?_, ?_⟩, ?_, ?_, ?_, ?_, ?_, ?_⟩, hSt, ?_, ?_, ?_, ?_⟩
  · intro k q hq
    match k, hq with
    | 0, hq => cases hq; exact k0
    | 1, hq => cases hq; exact k1
    | 2, hq => cases hq; exact k2
    | 3, hq => cases hq; exact k3
    | 4, hq => cases hq; exact k4
    | 5, hq => cases hq; exact k5
    | k + 6, hq => simp [vwCl] at hq
  · intro k q hq
    match k, hq with
    | 0, hq => cases hq; exact ⟨aI, nI_⟩
    | 1, hq => cases hq; exact ⟨aB, nB_⟩
    | 2, hq => cases hq; exact ⟨fun N z => ⟨(fun k h => by cases h), kR, r3, comp, r4⟩, kR, comp, r3, r4, r1, r5⟩
    | k + 3, hq => simp [TY] at hq
  · exact va_Nw.of rfl (hts n99 (by decide +kernel))
  · exact va_Nw.of rfl (hts n72 (by decide +kernel))
  · exact va_Nw.of rfl (hts n109 (by decide +kernel))
  · exact va_Nw.of rfl (hts n122 (by decide +kernel))
  · intro k hk
    simp only [tWs, List.mem_cons, List.not_mem_nil, or_false] at hk
    rcases hk with rfl | rfl | rfl | rfl | rfl | rfl | rfl | rfl | rfl | rfl | rfl | rfl
    · exact vk_R.of (hts (.stringRef RX2 67 "row") (by decide +kernel)) (hrow 0 67 (by decide) (hs _ (by decide +kernel)))
    · exact vk_R.of (hts (.stringRef RX2 108 "set") (by decide +kernel)) (hrow 1 108 (by decide) (hs _ (by decide +kernel)))
    · exact vk_R.of (hts (.stringRef RX2 110 "ask") (by decide +kernel)) (hrow 2 110 (by decide) (hs _ (by decide +kernel)))
    · exact vk_R.of (hts (.stringRef RX2 112 "keep") (by decide +kernel)) (hrow 3 112 (by decide) (hs _ (by decide +kernel)))
    · exact vk_R.of (hts (.stringRef RX2 114 "put") (by decide +kernel)) (hrow 4 114 (by decide) (hs _ (by decide +kernel)))
    · exact vk_R.of (hts (.stringRef RX2 116 "take") (by decide +kernel)) (hrow 5 116 (by decide) (hs _ (by decide +kernel)))
    · exact vk_R.of (hts (.stringRef RX5 217 "row") (by decide +kernel)) (hev 0 (by decide))
    · exact vk_R.of (hts (.stringRef RX5 188 "set") (by decide +kernel)) (hev 1 (by decide))
    · exact vk_R.of (hts (.stringRef RX5 197 "ask") (by decide +kernel)) (hev 2 (by decide))
    · exact vk_R.of (hts (.stringRef RX5 202 "keep") (by decide +kernel)) (hev 3 (by decide))
    · exact vk_R.of (hts (.stringRef RX5 207 "put") (by decide +kernel)) (hev 4 (by decide))
    · exact vk_R.of (hts (.stringRef RX5 212 "take") (by decide +kernel)) (hev 5 (by decide))
  · intro k hk
    obtain ⟨a, c, cA, kA, q1, -⟩ := Cond.exactly_spec (args := #[Value.ref b]) (first := s) (o := none) (s := s) (idx := []) (t := .string RX4 k.1) (cls := "java/lang/String") (hs _ ((show ∀ k ∈ xWs, (Cond.exactly (.string RX4 k.1) "java/lang/String") ∈ flatC (Jvm.Cond.and given_1 narrow_1) from by decide +kernel) k hk))
    exact ⟨a, vk_R.of (hts _ ((show ∀ k ∈ xWs, Cond.stringRef RX4 k.1 k.2 ∈ lw_tbl from by decide +kernel) k hk)) q1⟩
  · intro w hw
    exact va_Nw.of rfl (hts _ ((show ∀ w ∈ dWs, Cond.declares w ∈ lw_tbl from by decide +kernel) w hw))
  · intro E hE
    exact va_Nw.of rfl (hts _ ((show ∀ E ∈ eWs, Cond.castable E E ∈ lw_tbl from by decide +kernel) E hE))
  · intro E hE E' hE' hne
    exact va_Nc.of (hs _ ((show ∀ E ∈ eWs, ∀ E' ∈ eWs, E ≠ E' → (Cond.not (.castable E E')) ∈ flatC (Jvm.Cond.and given_1 narrow_1) from by decide +kernel) E hE E' hE' hne))
  · exact va_AO.of hov
  · exact va_Zof (hts (.laysStatic "java/lang/String" "COMPACT_STRINGS" "Z") (by decide +kernel)) (hts (.initialized "java/lang/String") (by decide +kernel)) (eq_int (hs (.eq (.static "java/lang/String" "COMPACT_STRINGS" "Z") (.int 1)) (by decide +kernel))) hA
  · exact va_Zqof (hts (.laysStatic "jdk/internal/util/Preconditions" "SIOOBE_FORMATTER" "Ljava/util/function/BiFunction;") (by decide +kernel)) (hts (.initialized "jdk/internal/util/Preconditions") (by decide +kernel)) (hs (.isRef (.static "jdk/internal/util/Preconditions" "SIOOBE_FORMATTER" "Ljava/util/function/BiFunction;")) (by decide +kernel)) hA
  · exact vx_Zqof (hts (.laysStatic Bundle.tN "UNASSIGNED_STACK" Bundle.steD) (by decide +kernel)) (hts (.initialized Bundle.tN) (by decide +kernel)) (hs (.isRef (.static Bundle.tN "UNASSIGNED_STACK" Bundle.steD)) (by decide +kernel)) hA
  · exact vx_Zqof (hts (.laysStatic Bundle.tN "SUPPRESSED_SENTINEL" Bundle.listD) (by decide +kernel)) (hts (.initialized Bundle.tN) (by decide +kernel)) (hs (.isRef (.static Bundle.tN "SUPPRESSED_SENTINEL" Bundle.listD)) (by decide +kernel)) hA
