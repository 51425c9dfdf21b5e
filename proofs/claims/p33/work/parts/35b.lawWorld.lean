set_option maxRecDepth 100000 in
set_option maxHeartbeats 8000000 in
theorem law_world {s : State} {b : Nat} (hts : ∀ w ∈ lw_tbl, w.before #[Value.ref b] s = true) (hgv : (Jvm.Cond.and given_1 narrow_1).before #[Value.ref b] s = true) (A : Nat → Prop) (hA : ∀ a : Nat, a < s.heap.size → ¬ A a) :
    ∃ (Dd : va_G) (Y : yT), va_K Dd vwCl (TY Y) s ∧ XW Y s ∧ ZW Y A s s.heap := by
  have hs := flat_of_before _ hgv
  obtain ⟨c0, i0, k0⟩ := u_known (C := RX0) (T := TX0) (N := 3) (n := 3) hts lwxX0 (hts (.instantiable RX0 3) (by decide +kernel))
  obtain ⟨c1, i1, k1⟩ := u_known (C := RX1) (T := TX1) (N := 11) (n := 11) hts lwxX1 (hts (.instantiable RX1 11) (by decide +kernel))
  obtain ⟨c2, i2, k2⟩ := u_known (C := RX2) (T := TX2) (N := 11) (n := 11) hts lwxX2 (hts (.instantiable RX2 11) (by decide +kernel))
  obtain ⟨c3, i3, k3⟩ := u_known (C := RX3) (T := TX3) (N := 3) (n := 3) hts lwxX3 (hts (.instantiable RX3 3) (by decide +kernel))
  obtain ⟨c4, i4, k4⟩ := u_known (C := RX4) (T := TX4) (N := 4) (n := 4) hts lwxX4 (hts (.instantiable RX4 4) (by decide +kernel))
  obtain ⟨c5, i5, k5⟩ := u_known (C := RX5) (T := TX5) (N := 9) (n := 9) hts lwxX5 (hts (.instantiable RX5 9) (by decide +kernel))
  obtain ⟨c6, i6, k6⟩ := u_known (C := RX6) (T := TX6) (N := 2) (n := 2) hts lwxX6 (hts (.instantiable RX6 2) (by decide +kernel))
  obtain ⟨c7, i7, k7⟩ := u_known (C := RX7) (T := TX7) (N := 2) (n := 2) hts lwxX7 (hts (.instantiable RX7 2) (by decide +kernel))
  obtain ⟨c8, i8, k8⟩ := u_known (C := RJ0) (T := TJ0) (N := 4) (n := 4) hts lwxJ0 (hts (.instantiable RJ0 4) (by decide +kernel))
  obtain ⟨c9, i9, k9⟩ := u_known (C := RJ4) (T := TJ4) (N := 4) (n := 4) hts lwxJ4 (hts (.instantiable RJ4 4) (by decide +kernel))
  obtain ⟨c10, i10, k10⟩ := u_known (C := RJx35411) (T := TJx35411) (N := 4) (n := 4) hts lwxJx35411 (hts (.instantiable RJx35411 4) (by decide +kernel))
  obtain ⟨c11, i11, k11⟩ := u_known (C := RJx4a65c) (T := TJx4a65c) (N := 3) (n := 3) hts lwxJx4a65c (hts (.instantiable RJx4a65c 3) (by decide +kernel))
  obtain ⟨cI, aI, nI_⟩ := arr_k (fun C h => by cases h) (hts (.arrayClass .int) (by decide +kernel))
  obtain ⟨cB, aB, nB_⟩ := arr_k (fun C h => by cases h) (hts (.arrayClass .byte) (by decide +kernel))
  have hovR := hts (.arrayOver (.object "DoubledRows$Row")) (by decide +kernel)
  have hovV := hts (.arrayOver (.object "DoubledRowsLaw$Value")) (by decide +kernel)
  have hovO := hts (.arrayOver (.object "java/lang/Object")) (by decide +kernel)
  have hovA := hts (.arrayOver (.array (.object "DoubledRowsLaw$Value"))) (by decide +kernel)
  obtain ⟨cR, aR, nR_⟩ := arr_o hovR
  obtain ⟨cV, aV, nV_⟩ := arr_o hovV
  obtain ⟨cO, aO, nO_⟩ := arr_o hovO
  obtain ⟨cA, aA, nA_⟩ := arr_a hovA
  have hL : ∀ i : Nat, i < 10 → sLen.getD i 0 < 2 ^ 31 := (le10 (by decide) (by decide) (by decide) (by decide) (by decide) (by decide) (by decide) (by decide) (by decide) (by decide))
  obtain ⟨adK, adV, hSt, hev⟩ := vk_Sof (args := #[Value.ref b]) (s := s) (N := 10) (tm := tmS) (len := sLen) (byt := sByt) (A := A) hL
    (le10 (hs _ (by decide +kernel)) (hs _ (by decide +kernel)) (hs _ (by decide +kernel)) (hs _ (by decide +kernel)) (hs _ (by decide +kernel)) (hs _ (by decide +kernel)) (hs _ (by decide +kernel)) (hs _ (by decide +kernel)) (hs _ (by decide +kernel)) (hs _ (by decide +kernel)))
    (le10 (hs _ (by decide +kernel)) (hs _ (by decide +kernel)) (hs _ (by decide +kernel)) (hs _ (by decide +kernel)) (hs _ (by decide +kernel)) (hs _ (by decide +kernel)) (hs _ (by decide +kernel)) (hs _ (by decide +kernel)) (hs _ (by decide +kernel)) (hs _ (by decide +kernel)))
    (le10 (hs _ (by decide +kernel)) (hs _ (by decide +kernel)) (hs _ (by decide +kernel)) (hs _ (by decide +kernel)) (hs _ (by decide +kernel)) (hs _ (by decide +kernel)) (hs _ (by decide +kernel)) (hs _ (by decide +kernel)) (hs _ (by decide +kernel)) (hs _ (by decide +kernel)))
    (le10 (hs _ (by decide +kernel)) (hs _ (by decide +kernel)) (hs _ (by decide +kernel)) (hs _ (by decide +kernel)) (hs _ (by decide +kernel)) (hs _ (by decide +kernel)) (hs _ (by decide +kernel)) (hs _ (by decide +kernel)) (hs _ (by decide +kernel)) (hs _ (by decide +kernel)))
    (le10 (fun j hj => by rcases (show j = 0 ∨ j = 1 ∨ j = 2 from by have : j < 3 := hj; omega) with rfl | rfl | rfl <;> exact hs _ (by decide +kernel)) (fun j hj => by rcases (show j = 0 ∨ j = 1 ∨ j = 2 from by have : j < 3 := hj; omega) with rfl | rfl | rfl <;> exact hs _ (by decide +kernel)) (fun j hj => by rcases (show j = 0 ∨ j = 1 ∨ j = 2 from by have : j < 3 := hj; omega) with rfl | rfl | rfl <;> exact hs _ (by decide +kernel)) (fun j hj => by rcases (show j = 0 ∨ j = 1 ∨ j = 2 ∨ j = 3 from by have : j < 4 := hj; omega) with rfl | rfl | rfl | rfl <;> exact hs _ (by decide +kernel)) (fun j hj => by rcases (show j = 0 ∨ j = 1 ∨ j = 2 from by have : j < 3 := hj; omega) with rfl | rfl | rfl <;> exact hs _ (by decide +kernel)) (fun j hj => by rcases (show j = 0 ∨ j = 1 ∨ j = 2 ∨ j = 3 from by have : j < 4 := hj; omega) with rfl | rfl | rfl | rfl <;> exact hs _ (by decide +kernel)) (fun j hj => by rcases (show j = 0 ∨ j = 1 ∨ j = 2 ∨ j = 3 from by have : j < 4 := hj; omega) with rfl | rfl | rfl | rfl <;> exact hs _ (by decide +kernel)) (fun j hj => by rcases (show j = 0 ∨ j = 0 from by have : j < 1 := hj; omega) with rfl | rfl <;> exact hs _ (by decide +kernel)) (fun j hj => by rcases (show j = 0 ∨ j = 0 from by have : j < 1 := hj; omega) with rfl | rfl <;> exact hs _ (by decide +kernel)) (fun j hj => by rcases (show j = 0 ∨ j = 1 from by have : j < 2 := hj; omega) with rfl | rfl <;> exact hs _ (by decide +kernel)))
    (fun i j hi hj hij => (fl_ne i hi j hj hij).imp (hs _) (hs _)) hA
  obtain ⟨tE, ht1, hT1⟩ := va_Tof (args := #[Value.ref b]) (s := s) (tm := .static RJx4a65c "DEFAULTCAPACITY_EMPTY_ELEMENTDATA" oAr) (ty := .object "java/lang/Object") (N := 0) (f := fun _ => .null) (A := A) (by decide) (hs _ (by decide +kernel)) (eq_int (hs (.eq (.length (.static RJx4a65c "DEFAULTCAPACITY_EMPTY_ELEMENTDATA" oAr)) (.int 0)) (by decide +kernel))) (fun j hj => absurd hj (Nat.not_lt_zero j)) hA
  obtain ⟨tO, ht2, hT2⟩ := va_Tof (args := #[Value.ref b]) (s := s) (tm := .static RJ6 "DigitOnes" "[B") (ty := .byte) (N := 100) (f := fun j => .int (nI (48 + j % 10))) (A := A) (by decide) (hs _ (by decide +kernel)) (eq_int (hs (.eq (.length (.static RJ6 "DigitOnes" "[B")) (.int 100)) (by decide +kernel))) (fun j hj => eq_int (hs _ (fl_ones j hj))) hA
  obtain ⟨tT, ht3, hT3⟩ := va_Tof (args := #[Value.ref b]) (s := s) (tm := .static RJ6 "DigitTens" "[B") (ty := .byte) (N := 100) (f := fun j => .int (nI (48 + j / 10))) (A := A) (by decide) (hs _ (by decide +kernel)) (eq_int (hs (.eq (.length (.static RJ6 "DigitTens" "[B")) (.int 100)) (by decide +kernel))) (fun j hj => eq_int (hs _ (fl_tens j hj))) hA
  obtain ⟨mi, hmi⟩ := va_Mi.of (args := #[Value.ref b]) (s := s) (C := oAr) (hs (.isRef (.mirror oAr)) (by decide +kernel))
  refine ⟨(fun k => if k = 0 then c0 else if k = 1 then c1 else if k = 2 then c2 else if k = 3 then c3 else if k = 4 then c4 else if k = 5 then c5 else if k = 6 then c6 else if k = 7 then c7 else if k = 8 then c8 else if k = 9 then c9 else if k = 10 then c10 else c11, fun k => if k = 0 then i0 else if k = 1 then i1 else if k = 2 then i2 else if k = 3 then i3 else if k = 4 then i4 else if k = 5 then i5 else if k = 6 then i6 else if k = 7 then i7 else if k = 8 then i8 else if k = 9 then i9 else if k = 10 then i10 else i11), (cI, (fun k => if k = 0 then cB else if k = 1 then cV else if k = 2 then cO else cA), cR, (fun k => if k < 10 then adK k else if k = 100 then tE else if k = 101 then mi else if k = 102 then tO else tT), adV), ⟨?_, ?_⟩, ⟨⟨?_, ?_, ?_, ?_⟩, ?_, ?_, ?_, ?_, ⟨?_, ?_, ?_, ?_, ?_, ?_, ⟨?_, ?_⟩, ?_, ?_⟩, ?_⟩, ?_, ?_, ?_, ?_, ?_, ⟨?_, ?_, ?_, ⟨?_, ?_⟩, ?_, ?_⟩⟩
  · intro k q hq
    match k, hq with
    | 0, hq => cases hq; exact k0
    | 1, hq => cases hq; exact k1
    | 2, hq => cases hq; exact k2
    | 3, hq => cases hq; exact k3
    | 4, hq => cases hq; exact k4
    | 5, hq => cases hq; exact k5
    | 6, hq => cases hq; exact k6
    | 7, hq => cases hq; exact k7
    | 8, hq => cases hq; exact k8
    | 9, hq => cases hq; exact k9
    | 10, hq => cases hq; exact k10
    | 11, hq => cases hq; exact k11
    | k + 12, hq => simp [vwCl] at hq
  · intro k q hq
    match k, hq with
    | 0, hq => cases hq; exact ⟨aI, nI_⟩
    | 1, hq => cases hq; exact ⟨aB, nB_⟩
    | 2, hq => cases hq; exact ⟨aR, nR_⟩
    | 3, hq => cases hq; exact ⟨aV, nV_⟩
    | 4, hq => cases hq; exact ⟨aO, nO_⟩
    | 5, hq => cases hq; exact ⟨aA, nA_⟩
    | k + 6, hq => simp [TY] at hq
  · exact va_Nw.of rfl (hts n99 (by decide +kernel))
  · exact va_Nw.of rfl (hts n72 (by decide +kernel))
  · exact va_Nw.of rfl (hts n109 (by decide +kernel))
  · exact va_Nw.of rfl (hts n122 (by decide +kernel))
  · intro k hk
    simp only [tWs, List.mem_cons, List.not_mem_nil, or_false] at hk
    rcases hk with rfl | rfl | rfl | rfl | rfl | rfl | rfl | rfl | rfl | rfl
    · exact vk_R.of (hts (.stringRef RX2 67 "row") (by decide +kernel)) (hev 0 (by decide))
    · exact vk_R.of (hts (.stringRef RX2 108 "set") (by decide +kernel)) (hev 1 (by decide))
    · exact vk_R.of (hts (.stringRef RX2 110 "ask") (by decide +kernel)) (hev 2 (by decide))
    · exact vk_R.of (hts (.stringRef RX2 112 "keep") (by decide +kernel)) (hev 3 (by decide))
    · exact vk_R.of (hts (.stringRef RX2 114 "put") (by decide +kernel)) (hev 4 (by decide))
    · exact vk_R.of (hts (.stringRef RX2 116 "take") (by decide +kernel)) (hev 5 (by decide))
    · exact vk_R.of (hts (.stringRef RL 55 "row ") (by decide +kernel)) (hev 6 (by decide))
    · exact vk_R.of (hts (.stringRef RL 63 " ") (by decide +kernel)) (hev 7 (by decide))
    · exact vk_R.of (hts (.stringRef RL 65 ":") (by decide +kernel)) (hev 8 (by decide))
    · exact vk_R.of (hts (.stringRef RL 89 " -") (by decide +kernel)) (hev 9 (by decide))
  · intro k hk
    obtain ⟨a, c, cA, kA, q1, -⟩ := Cond.exactly_spec (args := #[Value.ref b]) (first := s) (o := none) (s := s) (idx := []) (t := .string RX4 k.1) (cls := "java/lang/String") (hs _ ((show ∀ k ∈ xWs, (Cond.exactly (.string RX4 k.1) "java/lang/String") ∈ flatC (Jvm.Cond.and given_1 narrow_1) from by decide +kernel) k hk))
    exact ⟨a, vk_R.of (hts _ ((show ∀ k ∈ xWs, Cond.stringRef RX4 k.1 k.2 ∈ lw_tbl from by decide +kernel) k hk)) q1⟩
  · intro w hw
    exact va_Nw.of rfl (hts _ ((show ∀ w ∈ dWs, Cond.declares w ∈ lw_tbl from by decide +kernel) w hw))
  · intro E hE
    exact va_Nw.of rfl (hts _ ((show ∀ E ∈ eWs, Cond.castable E E ∈ lw_tbl from by decide +kernel) E hE))
  · intro k hk
    exact va_Fw.of (hts _ ((show ∀ k ∈ iWs, Cond.declares k.2.1 ∈ lw_tbl from by decide +kernel) k hk)) (hts _ ((show ∀ k ∈ iWs, Cond.interfaceMethod k.2.1.cls k.2.1.cls k.2.1.name k.2.1.desc ∈ lw_tbl from by decide +kernel) k hk)) (hts _ ((show ∀ k ∈ iWs, Cond.publicMethod k.2.2 ∈ lw_tbl from by decide +kernel) k hk)) (hts _ ((show ∀ k ∈ iWs, Cond.unhidden k.1 k.2.1.name k.2.1.desc ∈ lw_tbl from by decide +kernel) k hk)) (hts _ ((show ∀ k ∈ iWs, Cond.castable k.1 k.2.1.cls ∈ lw_tbl from by decide +kernel) k hk))
  · intro k hk
    exact va_Nw.of rfl (hts _ ((show ∀ k ∈ fWs, fN k ∈ lw_tbl from by decide +kernel) k hk))
  · exact va_Nw.of rfl (hts n40 (by decide +kernel))
  · intro k hk
    exact va_Nw.of rfl (hts _ ((show ∀ k ∈ kWs, Cond.castable k.1 k.2 ∈ lw_tbl from by decide +kernel) k hk))
  · exact va_AO.of hovV
  · exact va_AO.of hovO
  · exact hovA
  · exact ⟨aA, nA_, va_Nw.of rfl (hts (.classLink RX5 19 "[[LDoubledRowsLaw$Value;") (by decide +kernel))⟩
  · exact hmi
  · exact va_Dc.of (hts (.declares ⟨"java/lang/Object", "getClass", "()Ljava/lang/Class;"⟩) (by decide +kernel))
  · exact va_AO.of hovR
  · exact hSt.cg (fun i hi => if_pos hi)
  · exact va_Zof (hts (.laysStatic "java/lang/String" "COMPACT_STRINGS" "Z") (by decide +kernel)) (hts (.initialized "java/lang/String") (by decide +kernel)) (eq_int (hs (.eq (.static "java/lang/String" "COMPACT_STRINGS" "Z") (.int 1)) (by decide +kernel))) hA
  · exact va_Zqof (hts (.laysStatic "jdk/internal/util/Preconditions" "SIOOBE_FORMATTER" "Ljava/util/function/BiFunction;") (by decide +kernel)) (hts (.initialized "jdk/internal/util/Preconditions") (by decide +kernel)) (hs (.isRef (.static "jdk/internal/util/Preconditions" "SIOOBE_FORMATTER" "Ljava/util/function/BiFunction;")) (by decide +kernel)) hA
  · exact vx_Zqof (hts (.laysStatic Bundle.tN "UNASSIGNED_STACK" Bundle.steD) (by decide +kernel)) (hts (.initialized Bundle.tN) (by decide +kernel)) (hs (.isRef (.static Bundle.tN "UNASSIGNED_STACK" Bundle.steD)) (by decide +kernel)) hA
  · exact vx_Zqof (hts (.laysStatic Bundle.tN "SUPPRESSED_SENTINEL" Bundle.listD) (by decide +kernel)) (hts (.initialized Bundle.tN) (by decide +kernel)) (hs (.isRef (.static Bundle.tN "SUPPRESSED_SENTINEL" Bundle.listD)) (by decide +kernel)) hA
  · exact va_Zof (hts (.laysStatic RJx4a65c "DEFAULTCAPACITY_EMPTY_ELEMENTDATA" oAr) (by decide +kernel)) (hts (.initialized RJx4a65c) (by decide +kernel)) ht1 hA
  · exact hT1
  · exact va_Oof (hs (.exactly (.static RJx4a65c "DEFAULTCAPACITY_EMPTY_ELEMENTDATA" oAr) oAr) (by decide +kernel)) ht1 hA
  · exact va_Zof (hts (.laysStatic RJ6 "DigitOnes" "[B") (by decide +kernel)) (hts (.initialized RJ6) (by decide +kernel)) ht2 hA
  · exact hT2
  · exact va_Zof (hts (.laysStatic RJ6 "DigitTens" "[B") (by decide +kernel)) (hts (.initialized RJ6) (by decide +kernel)) ht3 hA
  · exact hT3
