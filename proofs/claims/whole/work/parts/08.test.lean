def dnX5_get (F : gF) (x1 : Int32) : Option Int32 := ra 2790 (F 1) ((310 * (F 0 4)) + x1) (fun v2 => some v2)
def dnX5_put0 (F : gF) (x1 : Int32) (x2 : Int32) : Option gF := wi 2790 ((310 * (F 0 4)) + x1) (fun j3 => bw (wr F 1 j3 x2) (fun F2 => some F2))
def dnX5_adds (F : gF) (x1 : Int32) (x2 : Int32) : Option gF := bp (dnX5_get F x1) (fun r2 => bp (dnX5_put0 F x1 (r2 + x2)) (fun F4 => some F4))
def dnX5_size (F : gF) : Option Int32 := bp (dnX5_get F 0) (fun r2 => some r2)
def dnX5_cellsOn (F : gF) (x1 : Int32) : Option Int32 := bp (dnX5_size F) (fun r2 => some (if 0 < ((r2 - ((1 : Int32) <<< (x1 &&& 31))) + 1) then ((r2 - ((1 : Int32) <<< (x1 &&& 31))) + 1) else 0))
def dnX5_cellAt (x0 : Int32) (x1 : Int32) : Option Int32 := some ((92 + (40 * (x0 - 1))) + x1)
def dnX5_valueAt (F : gF) (x1 : Int32) : Option Int32 := bp (dnX5_get F (12 + x1)) (fun r2 => some r2)
def lpX5_leastIn_7 (F : gF) (x2 : Int32) : Nat → Int32 → Int32 → Option (Nat × Int32)
  | 0, _, _ => none
  | n + 1, x3, x4 => if x2 < x4 then some (0, x3) else bp (dnX5_valueAt F x4) (fun r3 => bp (dnX5_valueAt F x3) (fun r5 => if r5 ≤ r3 then lpX5_leastIn_7 F x2 n x3 (x4 + 1) else lpX5_leastIn_7 F x2 n x4 (x4 + 1)))
def dnX5_leastIn (F : gF) (x1 : Int32) (x2 : Int32) : Option Int32 := bp (lpX5_leastIn_7 F x2 FU x1 (x1 + 1)) (fun z7_6 => some z7_6.2)
def dnX5_writes0 (F : gF) (x1 : Int32) (x2 : Int32) : Option gF := bp (dnX5_cellAt x1 x2) (fun r2 => bp (dnX5_leastIn F x2 ((x2 + ((1 : Int32) <<< (x1 &&& 31))) - 1)) (fun r4 => bp (dnX5_put0 F r2 r4) (fun F6 => bp (dnX5_adds F6 8 1) (fun F8 => some F8))))
def lpX5_builds_9 (x1 : Int32) : Nat → Int32 → gF → Option (Nat × gF)
  | 0, _, _ => none
  | n + 1, x2, F => bp (dnX5_cellsOn F x1) (fun r2 => if r2 ≤ x2 then some (0, F) else bp (dnX5_writes0 F x1 x2) (fun F5 => lpX5_builds_9 x1 n (x2 + 1) F5))
def lpX5_builds_38 : Nat → Int32 → gF → Option (Nat × gF)
  | 0, _, _ => none
  | n + 1, x1, F => if 40 ≤ x1 then some (0, F) else bp (dnX5_put0 F (52 + x1) 0) (fun F8 => lpX5_builds_38 n (x1 + 1) F8)
def lpX5_builds_2 : Nat → Int32 → gF → Option (Nat × gF)
  | 0, _, _ => none
  | n + 1, x1, F => if 5 < x1 then some (0, F) else bp (lpX5_builds_9 x1 FU 0 F) (fun z9_9 => lpX5_builds_2 n (x1 + 1) z9_9.2)
def dnX5_builds (F : gF) : Option gF := bp (lpX5_builds_2 FU 1 F) (fun z2_10 => bp (lpX5_builds_38 FU 0 z2_10.2) (fun z38_11 => bp (dnX5_adds z38_11.2 10 1) (fun F14 => some F14)))
def dnX5_isIn (x0 : Int32) (x1 : Int32) (x2 : Int32) : Option Int32 := if x0 < x1 then some 0 else if x2 < x0 then some 0 else some 1
def dnX5_right (F : gF) (x1 : Int32) (x2 : Int32) : Option (Int32 × gF) := if (F 0 0) = 0 then if x1 = 0 then bw (wr F 0 0 x2) (fun F5 => if (F5 0 0) = 0 then some (1, F5) else some (0, F5)) else if (F 0 0) = 0 then some (1, F) else some (0, F) else if (F 0 0) = 0 then some (1, F) else some (0, F)
def dnX5_isWaiting (F : gF) (x1 : Int32) : Option Int32 := bp (dnX5_get F (52 + x1)) (fun r2 => if r2 = 1 then some 1 else some 0)
def lpX5_waiting_4 (F : gF) : Nat → Int32 → Int32 → Option (Nat × Int32)
  | 0, _, _ => none
  | n + 1, x1, x2 => bp (dnX5_size F) (fun r2 => if r2 ≤ x2 then some (0, x1) else bp (dnX5_get F (52 + x2)) (fun r5 => lpX5_waiting_4 F n (x1 + r5) (x2 + 1)))
def dnX5_waiting (F : gF) : Option Int32 := bp (lpX5_waiting_4 F FU 0 0) (fun z4_5 => some z4_5.2)
def lpX5_allCells_4 (F : gF) : Nat → Int32 → Int32 → Option (Nat × Int32)
  | 0, _, _ => none
  | n + 1, x1, x2 => if 5 < x2 then some (0, x1) else bp (dnX5_cellsOn F x2) (fun r3 => lpX5_allCells_4 F n (x1 + r3) (x2 + 1))
def dnX5_allCells (F : gF) : Option Int32 := bp (lpX5_allCells_4 F FU 0 1) (fun z4_3 => some z4_3.2)
def dnX5_tellsOf (F : gF) (x1 : Int32) (x2 : Int32) (x3 : Int32) : Option Int32 := if x3 < x2 then some 0 else if (x2 + ((1 : Int32) <<< (x1 &&& 31))) ≤ x3 then some 0 else some 1
def lpX5_sets_36 (x1 : Int32) (x3 : Int32) (x4 : Int32) : Nat → Int32 → gF → Option (Nat × gF)
  | 0, _, _ => none
  | n + 1, x5, F => bp (dnX5_cellsOn F x4) (fun r2 => if r2 ≤ x5 then some (0, F) else bp (dnX5_tellsOf F x4 x5 x1) (fun r5 => if r5 = 0 then lpX5_sets_36 x1 x3 x4 n (x5 + 1) F else bp (dnX5_writes0 F x4 x5) (fun F8 => lpX5_sets_36 x1 x3 x4 n (x5 + 1) F8)))
def lpX5_sets_27 (x1 : Int32) (x3 : Int32) : Nat → Int32 → gF → Option (Nat × gF)
  | 0, _, _ => none
  | n + 1, x4, F => if 5 < x4 then some (0, F) else bp (lpX5_sets_36 x1 x3 x4 FU 0 F) (fun z36_9 => lpX5_sets_27 x1 x3 n (x4 + 1) z36_9.2)
def dnX5_sets (F : gF) (x1 : Int32) (x2 : Int32) : Option (Int32 × gF) := bp (dnX5_valueAt F x1) (fun r12 => bp (dnX5_put0 F (12 + x1) x2) (fun F14 => bp (dnX5_get F14 1) (fun r16 => if r16 = 1 then bp (lpX5_sets_27 x1 r12 FU 1 F14) (fun z27_29 => some (r12, z27_29.2)) else bp (dnX5_put0 F14 (52 + x1) 1) (fun F19 => bp (dnX5_get F19 1) (fun r21 => if r21 = 2 then bp (dnX5_waiting F19) (fun r24 => bp (dnX5_get F19 2) (fun r26 => if r24 ≤ r26 then some (r12, F19) else bp (dnX5_builds F19) (fun F29 => some (r12, F29)))) else some (r12, F19))))))
def lpX5_levelOf_2 (F : gF) (x1 : Int32) : Nat → Int32 → Option (Nat × Int32)
  | 0, _ => none
  | n + 1, x2 => if x1 < ((2 : Int32) <<< (x2 &&& 31)) then some (0, x2) else lpX5_levelOf_2 F x1 n (x2 + 1)
def dnX5_levelOf (F : gF) (x1 : Int32) : Option Int32 := bp (lpX5_levelOf_2 F x1 FU 0) (fun z2_1 => some z2_1.2)
def lpX5_runEnd_2 (F : gF) (x2 : Int32) : Nat → Int32 → Option (Nat × Int32)
  | 0, _ => none
  | n + 1, x3 => if x2 ≤ x3 then some (0, x3) else bp (dnX5_isWaiting F (x3 + 1)) (fun r3 => if r3 = 0 then lpX5_runEnd_2 F x2 n (x3 + 1) else some (0, x3))
def dnX5_runEnd (F : gF) (x1 : Int32) (x2 : Int32) : Option Int32 := bp (lpX5_runEnd_2 F x2 FU x1) (fun z2_4 => some z2_4.2)
def lpX5_looksIn_5 (F : gF) (x2 : Int32) : Nat → Int32 → Int32 → Option (Nat × Int32)
  | 0, _, _ => none
  | n + 1, x3, x4 => if x2 < x4 then some (0, x3) else bp (dnX5_isWaiting F x4) (fun r3 => if r3 = 0 then bp (dnX5_runEnd F x4 x2) (fun r6 => bp (dnX5_levelOf F ((r6 - x4) + 1)) (fun r8 => if ((1 : Int32) <<< (r8 &&& 31)) = ((r6 - x4) + 1) then lpX5_looksIn_5 F x2 n (x3 + 1) (r6 + 1) else lpX5_looksIn_5 F x2 n (x3 + 2) (r6 + 1))) else bp (dnX5_levelOf F ((x4 - x4) + 1)) (fun r11 => if ((1 : Int32) <<< (r11 &&& 31)) = ((x4 - x4) + 1) then lpX5_looksIn_5 F x2 n (x3 + 1) (x4 + 1) else lpX5_looksIn_5 F x2 n (x3 + 2) (x4 + 1)))
def dnX5_looksIn (F : gF) (x1 : Int32) (x2 : Int32) : Option Int32 := bp (lpX5_looksIn_5 F x2 FU 0 x1) (fun z5_12 => some z5_12.2)
def dnX5_toldBy (F : gF) (x1 : Int32) (x2 : Int32) : Option Int32 := if x1 = 0 then some x2 else bp (dnX5_cellAt x1 x2) (fun r3 => bp (dnX5_get F r3) (fun r5 => some r5))
def dnX5_lesser (F : gF) (x1 : Int32) (x2 : Int32) : Option Int32 := if x1 = (-1) then some x2 else bp (dnX5_valueAt F x2) (fun r3 => bp (dnX5_valueAt F x1) (fun r5 => if r5 ≤ r3 then some x1 else some x2))
def lpX5_asks_43 (F : gF) (x2 : Int32) : Nat → Int32 → Int32 → Option (Nat × Int32)
  | 0, _, _ => none
  | n + 1, x3, x4 => if x2 < x4 then some (0, x3) else bp (dnX5_isWaiting F x4) (fun r3 => if r3 = 0 then bp (dnX5_runEnd F x4 x2) (fun r6 => bp (dnX5_levelOf F ((r6 - x4) + 1)) (fun r8 => bp (dnX5_toldBy F r8 x4) (fun r10 => bp (dnX5_lesser F x3 r10) (fun r12 => bp (dnX5_toldBy F r8 ((r6 - ((1 : Int32) <<< (r8 &&& 31))) + 1)) (fun r14 => bp (dnX5_lesser F r12 r14) (fun r16 => lpX5_asks_43 F x2 n r16 (r6 + 1))))))) else bp (dnX5_levelOf F ((x4 - x4) + 1)) (fun r18 => bp (dnX5_toldBy F r18 x4) (fun r20 => bp (dnX5_lesser F x3 r20) (fun r22 => bp (dnX5_toldBy F r18 ((x4 - ((1 : Int32) <<< (r18 &&& 31))) + 1)) (fun r24 => bp (dnX5_lesser F r22 r24) (fun r26 => lpX5_asks_43 F x2 n r26 (x4 + 1)))))))
def dnX5_asks (F : gF) (x1 : Int32) (x2 : Int32) : Option (Int32 × gF) := bp (dnX5_get F 1) (fun r28 => if r28 = 0 then bp (dnX5_waiting F) (fun r38 => if r38 ≤ 0 then bp (dnX5_adds F 9 1) (fun F41 => bp (dnX5_looksIn F41 x1 x2) (fun r43 => bp (dnX5_adds F41 7 r43) (fun F45 => bp (lpX5_asks_43 F45 x2 FU (-1) x1) (fun z43_45 => some (z43_45.2, F45))))) else bp (dnX5_builds F) (fun F48 => bp (dnX5_adds F48 9 1) (fun F50 => bp (dnX5_looksIn F50 x1 x2) (fun r52 => bp (dnX5_adds F50 7 r52) (fun F54 => bp (lpX5_asks_43 F54 x2 FU (-1) x1) (fun z43_54 => some (z43_54.2, F54))))))) else bp (dnX5_adds F 9 1) (fun F31 => bp (dnX5_looksIn F31 x1 x2) (fun r33 => bp (dnX5_adds F31 7 r33) (fun F35 => bp (lpX5_asks_43 F35 x2 FU (-1) x1) (fun z43_35 => some (z43_35.2, F35))))))
def dnX5_keptFrom (F : gF) (x1 : Int32) : Option Int32 := bp (dnX5_get F (292 + (2 * x1))) (fun r2 => some r2)
def dnX5_keptTo (F : gF) (x1 : Int32) : Option Int32 := bp (dnX5_get F ((292 + (2 * x1)) + 1)) (fun r2 => some r2)
def dnX5_keeps (F : gF) (x1 : Int32) (x2 : Int32) : Option (Int32 × gF) := bp (dnX5_get F 6) (fun r2 => bp (dnX5_put0 F (292 + (2 * r2)) x1) (fun F4 => bp (dnX5_put0 F4 ((292 + (2 * r2)) + 1) x2) (fun F6 => bp (dnX5_adds F6 6 1) (fun F8 => bp (dnX5_get F8 6) (fun r10 => some (r10, F8))))))
def lpX5_forgets_8 : Nat → Int32 → gF → Option (Nat × gF)
  | 0, _, _ => none
  | n + 1, x2, F => bp (dnX5_get F 6) (fun r2 => if ((292 + (2 * r2)) - 2) ≤ x2 then some (0, F) else bp (dnX5_get F (x2 + 2)) (fun r5 => bp (dnX5_put0 F x2 r5) (fun F7 => lpX5_forgets_8 n (x2 + 1) F7)))
def dnX5_forgets (F : gF) (x1 : Int32) : Option (Int32 × gF) := bp (lpX5_forgets_8 FU (292 + (2 * x1)) F) (fun z8_7 => bp (dnX5_adds z8_7.2 6 (-1)) (fun F10 => bp (dnX5_get F10 6) (fun r12 => some (r12, F10))))
def lpX5_putsIn_5 (x1 : Int32) (x2 : Int32) : Nat → Int32 → gF → Option (Nat × gF)
  | 0, _, _ => none
  | n + 1, x3, F => if x3 ≤ x1 then some (0, F) else bp (dnX5_valueAt F (x3 - 1)) (fun r3 => bp (dnX5_put0 F (12 + x3) r3) (fun F5 => lpX5_putsIn_5 x1 x2 n (x3 + (-1)) F5))
def lpX5_putsIn_48 (x1 : Int32) : Nat → Int32 → gF → Option (Nat × gF)
  | 0, _, _ => none
  | n + 1, x3, F => bp (dnX5_get F 6) (fun r7 => if r7 ≤ x3 then some (0, F) else bp (dnX5_keptTo F x3) (fun r10 => if x1 ≤ r10 then bp (dnX5_keptFrom F x3) (fun r13 => if r13 < x1 then bp (dnX5_adds F ((292 + (2 * x3)) + 1) 1) (fun F16 => lpX5_putsIn_48 x1 n (x3 + 1) F16) else bp (dnX5_adds F (292 + (2 * x3)) 1) (fun F18 => bp (dnX5_adds F18 ((292 + (2 * x3)) + 1) 1) (fun F20 => lpX5_putsIn_48 x1 n (x3 + 1) F20))) else lpX5_putsIn_48 x1 n (x3 + 1) F))
def dnX5_putsIn (F : gF) (x1 : Int32) (x2 : Int32) : Option (Int32 × gF) := bp (dnX5_size F) (fun r22 => bp (lpX5_putsIn_5 x1 x2 FU r22 F) (fun z5_22 => bp (dnX5_put0 z5_22.2 (12 + x1) x2) (fun F25 => bp (dnX5_adds F25 0 1) (fun F27 => bp (lpX5_putsIn_48 x1 FU 0 F27) (fun z48_27 => bp (dnX5_builds z48_27.2) (fun F30 => bp (dnX5_size F30) (fun r32 => some (r32, F30))))))))
def lpX5_takesOut_8 (x1 : Int32) (x2 : Int32) : Nat → Int32 → gF → Option (Nat × gF)
  | 0, _, _ => none
  | n + 1, x3, F => bp (dnX5_size F) (fun r2 => if (r2 - 1) ≤ x3 then some (0, F) else bp (dnX5_valueAt F (x3 + 1)) (fun r5 => bp (dnX5_put0 F (12 + x3) r5) (fun F7 => lpX5_takesOut_8 x1 x2 n (x3 + 1) F7)))
def lpX5_takesOut_54 (x1 : Int32) (x2 : Int32) : Nat → Int32 → gF → Option (Nat × gF)
  | 0, _, _ => none
  | n + 1, x3, F => if x3 < 0 then some (1, F) else bp (dnX5_keptTo F x3) (fun r10 => if x1 ≤ r10 then bp (dnX5_keptFrom F x3) (fun r13 => if r13 ≤ x1 then bp (dnX5_adds F ((292 + (2 * x3)) + 1) (-1)) (fun F16 => bp (dnX5_keptTo F16 x3) (fun r18 => bp (dnX5_keptFrom F16 x3) (fun r20 => if r20 ≤ r18 then lpX5_takesOut_54 x1 x2 n (x3 + (-1)) F16 else bs (dnX5_forgets F16 x3) (fun r23 F24 => if 0 ≤ r23 then lpX5_takesOut_54 x1 x2 n (x3 + (-1)) F24 else some (0, F24))))) else bp (dnX5_adds F (292 + (2 * x3)) (-1)) (fun F27 => bp (dnX5_adds F27 ((292 + (2 * x3)) + 1) (-1)) (fun F29 => bp (dnX5_keptTo F29 x3) (fun r31 => bp (dnX5_keptFrom F29 x3) (fun r33 => if r33 ≤ r31 then lpX5_takesOut_54 x1 x2 n (x3 + (-1)) F29 else bs (dnX5_forgets F29 x3) (fun r36 F37 => if 0 ≤ r36 then lpX5_takesOut_54 x1 x2 n (x3 + (-1)) F37 else some (0, F37))))))) else lpX5_takesOut_54 x1 x2 n (x3 + (-1)) F)
def dnX5_takesOut (F : gF) (x1 : Int32) : Option (Int32 × gF) := bp (dnX5_valueAt F x1) (fun r40 => bp (lpX5_takesOut_8 x1 r40 FU x1 F) (fun z8_40 => bp (dnX5_adds z8_40.2 0 (-1)) (fun F43 => bp (dnX5_get F43 6) (fun r45 => bp (lpX5_takesOut_54 x1 r40 FU (r45 - 1) F43) (fun z54_45 => if z54_45.1 = 0 then some (r40, z54_45.2) else bp (dnX5_builds z54_45.2) (fun F48 => some (r40, F48)))))))
def dnX5_fails (F : gF) (x1 : Int32) (x2 : Int32) : Option (Int32 × gF) := if (F 0 10) = 0 then bw (wr F 0 10 x1) (fun F2 => bw (wr F2 0 11 x2) (fun F3 => some (0, F3))) else some (0, F)
def lpX5_here_0 : Nat → gF → Option (Nat × gF)
  | 0, _ => none
  | n + 1, F => if (F 0 8) ≤ (F 0 9) then some (0, F) else ra 500 (F 4) (F 0 9) (fun v3 => if v3 = 32 then bw (wr F 0 9 ((F 0 9) + 1)) (fun F5 => lpX5_here_0 n F5) else some (0, F))
def dnX5_here (F : gF) : Option (Int32 × gF) := bp (lpX5_here_0 FU F) (fun z0_5 => if (z0_5.2 0 8) ≤ (z0_5.2 0 9) then some ((-1), z0_5.2) else ra 500 (z0_5.2 4) (z0_5.2 0 9) (fun v9 => some (v9, z0_5.2)))
def dnX5_isSmall (x0 : Int32) : Option Int32 := if x0 < 97 then some 0 else if 122 < x0 then some 0 else some 1
def dnX5_isDigit (x0 : Int32) : Option Int32 := if x0 < 48 then some 0 else if 57 < x0 then some 0 else some 1
def lpX5_passes_55 (F : gF) (x1 : Nat) (x2 : Int32) : Nat → Int32 → Option (Nat)
  | 0, _ => none
  | n + 1, x3 => if x2 ≤ x3 then some (1) else ra 500 (F 4) ((F 0 9) + x3) (fun v3 => sc x1 x3 (fun v5 => if v3 = v5 then lpX5_passes_55 F x1 x2 n (x3 + 1) else some (0)))
def lpX5_passes_7 (F : gF) (x1 : Nat) : Nat → Int32 → Option (Nat × Int32)
  | 0, _ => none
  | n + 1, x2 => if (F 0 8) ≤ ((F 0 9) + x2) then some (0, x2) else ra 500 (F 4) ((F 0 9) + x2) (fun v9 => bp (dnX5_isSmall v9) (fun r11 => if r11 = 0 then some (0, x2) else lpX5_passes_7 F x1 n (x2 + 1)))
def dnX5_passes (F : gF) (x1 : Nat) : Option (Int32 × gF) := bs (dnX5_here F) (fun r14 F15 => bp (lpX5_passes_7 F15 x1 FU 0) (fun z7_15 => if z7_15.2 = (nI (sLen.getD x1 0)) then bp (lpX5_passes_55 F15 x1 z7_15.2 FU 0) (fun z55_17 => if z55_17.1 = 0 then some (0, F15) else bw (wr F15 0 9 ((F15 0 9) + z7_15.2)) (fun F19 => some (1, F19))) else some (0, F15)))
def dnX5_sign (F : gF) (x1 : Int32) : Option (Int32 × gF) := bs (dnX5_here F) (fun r2 F3 => if r2 = x1 then bw (wr F3 0 9 ((F3 0 9) + 1)) (fun F5 => some (1, F5)) else bs (dnX5_fails F3 (-2) (F3 0 9)) (fun r7 F8 => rzs r7 F8))
def lpX5_reads_34 (x1 : Int32) (x2 : Int32) : Nat → gF → Option (Nat × gF)
  | 0, _ => none
  | n + 1, F => if (F 0 8) ≤ (F 0 9) then some (0, F) else ra 500 (F 4) (F 0 9) (fun v3 => bp (dnX5_isDigit v3) (fun r5 => if r5 = 0 then some (0, F) else if (F 0 12) ≤ 100000 then ra 500 (F 4) (F 0 9) (fun v9 => bw (wr F 0 12 (((10 * (F 0 12)) + v9) - 48)) (fun F10 => bw (wr F10 0 9 ((F10 0 9) + 1)) (fun F11 => lpX5_reads_34 x1 x2 n F11))) else bw (wr F 0 12 (F 0 12)) (fun F12 => bw (wr F12 0 9 ((F12 0 9) + 1)) (fun F13 => lpX5_reads_34 x1 x2 n F13))))
def dnX5_reads (F : gF) (x1 : Int32) (x2 : Int32) : Option (Int32 × gF) := bs (dnX5_here F) (fun r15 F16 => bp (dnX5_isDigit r15) (fun r18 => if r18 = 0 then bs (dnX5_fails F16 (-2) (F16 0 9)) (fun r31 F32 => rzs r31 F32) else bw (wr F16 0 13 (F16 0 9)) (fun F20 => bw (wr F20 0 12 0) (fun F21 => bp (lpX5_reads_34 x1 x2 FU F21) (fun z34_21 => bp (dnX5_isIn (z34_21.2 0 12) x1 x2) (fun r24 => if r24 = 0 then bs (dnX5_fails z34_21.2 (-3) (z34_21.2 0 13)) (fun r27 F28 => if r27 = 0 then some (0, F28) else some (1, F28)) else some (1, z34_21.2)))))))
def dnX5_readsValue (F : gF) : Option (Int32 × gF) := bs (dnX5_here F) (fun r2 F3 => if r2 = 45 then if 1 = 0 then bw (wr F3 0 9 ((F3 0 9) + 0)) (fun F23 => bs (dnX5_reads F23 0 999) (fun r25 F26 => if r25 = 0 then some (0, F26) else if 1 = 0 then bw (wr F26 0 12 (F26 0 12)) (fun F29 => some (1, F29)) else bw (wr F26 0 12 (-(F26 0 12))) (fun F30 => some (1, F30)))) else bw (wr F3 0 9 ((F3 0 9) + 1)) (fun F31 => bs (dnX5_reads F31 0 999) (fun r33 F34 => if r33 = 0 then some (0, F34) else if 1 = 0 then bw (wr F34 0 12 (F34 0 12)) (fun F37 => some (1, F37)) else bw (wr F34 0 12 (-(F34 0 12))) (fun F38 => some (1, F38)))) else if 0 = 0 then bw (wr F3 0 9 ((F3 0 9) + 0)) (fun F6 => bs (dnX5_reads F6 0 999) (fun r8 F9 => if r8 = 0 then some (0, F9) else if 0 = 0 then bw (wr F9 0 12 (F9 0 12)) (fun F12 => some (1, F12)) else bw (wr F9 0 12 (-(F9 0 12))) (fun F13 => some (1, F13)))) else bw (wr F3 0 9 ((F3 0 9) + 1)) (fun F14 => bs (dnX5_reads F14 0 999) (fun r16 F17 => if r16 = 0 then some (0, F17) else if 0 = 0 then bw (wr F17 0 12 (F17 0 12)) (fun F20 => some (1, F20)) else bw (wr F17 0 12 (-(F17 0 12))) (fun F21 => some (1, F21)))))
def dnX5_isValueHere (F : gF) : Option (Int32 × gF) := bs (dnX5_here F) (fun r2 F3 => if r2 = 45 then some (1, F3) else bs (dnX5_here F3) (fun r6 F7 => bp (dnX5_isDigit r6) (fun r9 => if r9 = 0 then some (0, F7) else some (1, F7))))
def lpX5_readsValues_18 : Nat → gF → Option (Nat × Int32 × gF)
  | 0, _ => none
  | n + 1, F => bs (dnX5_isValueHere F) (fun r2 F3 => if r2 = 0 then some (2, 0, F3) else bp (dnX5_size F3) (fun r6 => if r6 = 40 then bs (dnX5_here F3) (fun r22 F23 => if r22 = 45 then some (0, (F3 0 9), F23) else bs (dnX5_readsValue F23) (fun r26 F27 => if r26 = 0 then some (0, (F3 0 9), F27) else bp (dnX5_size F27) (fun r30 => if r30 = 40 then some (1, (F3 0 9), F27) else bp (dnX5_size F27) (fun r33 => bp (dnX5_put0 F27 (12 + r33) (F27 0 12)) (fun F35 => bp (dnX5_adds F35 0 1) (fun F37 => lpX5_readsValues_18 n F37)))))) else bs (dnX5_readsValue F3) (fun r9 F10 => if r9 = 0 then some (0, (F3 0 9), F10) else bp (dnX5_size F10) (fun r13 => if r13 = 40 then some (1, (F3 0 9), F10) else bp (dnX5_size F10) (fun r16 => bp (dnX5_put0 F10 (12 + r16) (F10 0 12)) (fun F18 => bp (dnX5_adds F18 0 1) (fun F20 => lpX5_readsValues_18 n F20)))))))
def dnX5_readsValues (F : gF) : Option (Int32 × gF) := bs (dnX5_isValueHere F) (fun r39 F40 => if r39 = 0 then bs (dnX5_fails F40 (-2) (F40 0 9)) (fun r52 F53 => rzs r52 F53) else bp (lpX5_readsValues_18 FU F40) (fun z18_41 => if z18_41.1 = 0 then bs (dnX5_fails z18_41.2.2 (-4) z18_41.2.1) (fun r44 F45 => rzs r44 F45) else if z18_41.1 = 1 then bs (dnX5_fails z18_41.2.2 (-4) z18_41.2.1) (fun r48 F49 => rzs r48 F49) else some (1, z18_41.2.2)))
def dnX5_readsPlace (F : gF) (x1 : Int32) : Option (Int32 × gF) := bp (dnX5_size F) (fun r2 => bs (dnX5_reads F x1 (r2 - 1)) (fun r4 F5 => rzs r4 F5))
def dnX5_readsSet (F : gF) : Option (Int32 × gF) := bs (dnX5_readsPlace F 0) (fun r2 F3 => if r2 = 0 then some (0, F3) else bs (dnX5_readsValue F3) (fun r6 F7 => if r6 = 0 then some (0, F7) else bs (dnX5_sets F7 (F3 0 12) (F7 0 12)) (fun r10 F11 => if 999 < r10 then some (0, F11) else some (1, F11))))
def dnX5_readsAsk (F : gF) : Option (Int32 × gF) := bs (dnX5_readsPlace F 0) (fun r2 F3 => if r2 = 0 then some (0, F3) else bs (dnX5_readsPlace F3 (F3 0 12)) (fun r6 F7 => if r6 = 0 then some (0, F7) else bs (dnX5_asks F7 (F3 0 12) (F7 0 12)) (fun r10 F11 => if r10 < 0 then some (0, F11) else some (1, F11))))
def dnX5_readsKeep (F : gF) : Option (Int32 × gF) := bs (dnX5_readsPlace F 0) (fun r2 F3 => if r2 = 0 then some (0, F3) else bp (dnX5_get F3 6) (fun r6 => if r6 = 8 then bs (dnX5_fails F3 (-4) (F3 0 13)) (fun r17 F18 => rzs r17 F18) else bs (dnX5_readsPlace F3 (F3 0 12)) (fun r9 F10 => if r9 = 0 then some (0, F10) else bs (dnX5_keeps F10 (F3 0 12) (F10 0 12)) (fun r13 F14 => if r13 ≤ 0 then some (0, F14) else some (1, F14)))))
def dnX5_readsPut (F : gF) : Option (Int32 × gF) := bp (dnX5_size F) (fun r2 => bs (dnX5_reads F 0 r2) (fun r4 F5 => if r4 = 0 then some (0, F5) else bp (dnX5_size F5) (fun r8 => if r8 = 40 then bs (dnX5_fails F5 (-4) (F5 0 13)) (fun r19 F20 => rzs r19 F20) else bs (dnX5_readsValue F5) (fun r11 F12 => if r11 = 0 then some (0, F12) else bs (dnX5_putsIn F12 (F5 0 12) (F12 0 12)) (fun r15 F16 => if r15 ≤ 0 then some (0, F16) else some (1, F16))))))
def dnX5_readsTake (F : gF) : Option (Int32 × gF) := bs (dnX5_readsPlace F 0) (fun r2 F3 => if r2 = 0 then some (0, F3) else bp (dnX5_size F3) (fun r6 => if r6 = 1 then bs (dnX5_fails F3 (-5) (F3 0 13)) (fun r13 F14 => rzs r13 F14) else bs (dnX5_takesOut F3 (F3 0 12)) (fun r9 F10 => if 999 < r9 then some (0, F10) else some (1, F10))))
def dnX5_readsStatement (F : gF) : Option (Int32 × gF) := bs (dnX5_here F) (fun r2 F3 => bs (dnX5_passes F3 1) (fun r5 F6 => if r5 = 0 then bs (dnX5_passes F6 2) (fun r9 F10 => if r9 = 0 then bs (dnX5_passes F10 3) (fun r13 F14 => if r13 = 0 then bs (dnX5_passes F14 4) (fun r17 F18 => if r17 = 0 then bs (dnX5_passes F18 5) (fun r21 F22 => if r21 = 0 then bs (dnX5_fails F22 (-2) (F3 0 9)) (fun r25 F26 => rzs r25 F26) else bs (dnX5_readsTake F22) (fun r29 F30 => rzs r29 F30)) else bs (dnX5_readsPut F18) (fun r33 F34 => rzs r33 F34)) else bs (dnX5_readsKeep F14) (fun r37 F38 => rzs r37 F38)) else bs (dnX5_readsAsk F10) (fun r41 F42 => rzs r41 F42)) else bs (dnX5_readsSet F6) (fun r45 F46 => rzs r45 F46)))
def lpX5_readsText_22 : Nat → Int32 → gF → Option (Nat × gF)
  | 0, _, _ => none
  | n + 1, x1, F => if 310 ≤ x1 then some (0, F) else bp (dnX5_put0 F x1 0) (fun F3 => lpX5_readsText_22 n (x1 + 1) F3)
def lpX5_readsText_113 : Nat → gF → Option (Nat × gF)
  | 0, _ => none
  | n + 1, F => bs (dnX5_here F) (fun r5 F6 => if r5 = (-1) then some (1, F6) else bs (dnX5_readsStatement F6) (fun r9 F10 => if r9 = 0 then some (0, F10) else bs (dnX5_sign F10 59) (fun r13 F14 => if r13 = 0 then some (0, F14) else lpX5_readsText_113 n F14)))
def dnX5_readsText (F : gF) : Option (Int32 × gF) := bs (dnX5_passes F 0) (fun r17 F18 => if r17 = 0 then bs (dnX5_fails F18 (-2) (F18 0 9)) (fun r49 F50 => rzs r49 F50) else bp (lpX5_readsText_22 FU 0 F18) (fun z22_19 => bs (dnX5_reads z22_19.2 0 2) (fun r22 F23 => if r22 = 0 then some (0, F23) else bp (dnX5_put0 F23 1 (F23 0 12)) (fun F26 => bs (dnX5_reads F26 1 8) (fun r28 F29 => if r28 = 0 then some (0, F29) else bp (dnX5_put0 F29 2 (F29 0 12)) (fun F32 => bs (dnX5_sign F32 58) (fun r34 F35 => if r34 = 0 then some (0, F35) else bs (dnX5_readsValues F35) (fun r38 F39 => if r38 = 0 then some (0, F39) else bs (dnX5_sign F39 59) (fun r42 F43 => if r42 = 0 then some (0, F43) else bp (dnX5_builds F43) (fun F46 => bp (lpX5_readsText_113 FU F46) (fun z113_46 => if z113_46.1 = 0 then some (0, z113_46.2) else some (1, z113_46.2))))))))))))
def lpX5_load_51 : Nat → Int32 → gF → Option (Nat × gF)
  | 0, _, _ => none
  | n + 1, x2, F => if 310 ≤ x2 then some (0, F) else bp (dnX5_get F x2) (fun r3 => wi 310 x2 (fun j6 => bw (wr F 2 j6 r3) (fun F5 => lpX5_load_51 n (x2 + 1) F5)))
def lpX5_load_93 (x2 : Int32) (x3 : Int32) : Nat → Int32 → gF → Option (Nat × gF)
  | 0, _, _ => none
  | n + 1, x4, F => if 310 ≤ x4 then some (0, F) else if x2 = 0 then ra 310 (F 2) x4 (fun v10 => bp (dnX5_put0 F x4 v10) (fun F12 => lpX5_load_93 x2 x3 n (x4 + 1) F12)) else bp (dnX5_get F x4) (fun r14 => wi 2790 ((310 * x3) + x4) (fun j17 => bw (wr F 1 j17 r14) (fun F16 => ra 310 (F16 2) x4 (fun v19 => bp (dnX5_put0 F16 x4 v19) (fun F21 => lpX5_load_93 x2 x3 n (x4 + 1) F21)))))
def dnX5_load (F : gF) (x1 : Int32) : Option (Int32 × gF) := bw (wr F 0 0 0) (fun F22 => bp (dnX5_isIn x1 0 (F22 0 7)) (fun r24 => bs (dnX5_right F22 r24 1) (fun r26 F27 => if r26 = 0 then some (0, F27) else bw (wr F27 0 8 x1) (fun F29 => bw (wr F29 0 9 0) (fun F30 => bw (wr F30 0 7 0) (fun F31 => bw (wr F31 0 10 0) (fun F32 => bw (wr F32 0 11 (-1)) (fun F33 => bp (lpX5_load_51 FU 0 F33) (fun z51_33 => bs (dnX5_readsText z51_33.2) (fun r36 F37 => bp (lpX5_load_93 r36 (((F37 0 4) + 1) - ((F37 0 4) + 1) / 9 * 9) FU 0 F37) (fun z93_37 => if r36 = 0 then some (z93_37.2 0 10, z93_37.2) else bw (wr z93_37.2 0 4 (((F37 0 4) + 1) - ((F37 0 4) + 1) / 9 * 9)) (fun F40 => if 8 ≤ (F40 0 5) then bw (wr F40 0 5 (F40 0 5)) (fun F42 => bp (dnX5_size F42) (fun r44 => some (r44, F42))) else bw (wr F40 0 5 ((F40 0 5) + 1)) (fun F45 => bp (dnX5_size F45) (fun r47 => some (r47, F45)))))))))))))))
def lpX5_levels_2 (F : gF) : Nat → Int32 → Option (Nat × Int32)
  | 0, _ => none
  | n + 1, x1 => if 5 < x1 then some (0, x1) else bp (dnX5_cellsOn F x1) (fun r3 => if r3 ≤ 0 then some (0, x1) else lpX5_levels_2 F n (x1 + 1))
def dnX5_levels (F : gF) : Option Int32 := bp (lpX5_levels_2 F FU 1) (fun z2_4 => some z2_4.2)
def dnX5_toldOf (F : gF) (x1 : Int32) : Option Int32 := if x1 = 3 then bp (dnX5_levels F) (fun r3 => some r3) else if x1 = 4 then bp (dnX5_allCells F) (fun r6 => some r6) else if x1 = 5 then bp (dnX5_waiting F) (fun r9 => some r9) else bp (dnX5_get F x1) (fun r11 => some r11)
def dnX5_state (F : gF) (x1 : Int32) : Option (Int32 × gF) := bw (wr F 0 0 0) (fun F1 => bp (dnX5_isIn x1 0 10) (fun r3 => bs (dnX5_right F1 r3 1) (fun r5 F6 => if r5 = 0 then some (0, F6) else bp (dnX5_toldOf F6 x1) (fun r9 => some (r9, F6)))))
abbrev rmX5_get : Room := { frames := 0, cells := 0, slots := 0, locals := 0 }
set_option maxRecDepth 100000 in
set_option maxHeartbeats 4000000 in
theorem kX5_get (l : Launch) (Dd : va_G) (Y : yT) (ad : Nat → Nat) (F : gF) (x1 : Int32) (r : Int32) (hd : dnX5_get F x1 = some r) : MG l yX5_get wsX5_get rmX5_get Dd Y [.ref (ad 0), .int x1] (WM Y ad F) (WM Y ad F) (some (.int r)) := by
  refine MGi (cc := cX5_get) (maxL := 2) (ty := .int) (by decide) rfl (Nat.le_of_ble_eq_true rfl) (fun {p e s m args below meth c A} ls Q X hW hl hQ => ?_)
  have hx := X.x
  have hb := X.b
  have hl : lv_has ls 2 [(0, .ref (ad 0)), (1, .int x1)] := hl
  have hinX5 : ∀ w ∈ wsX50, w ∈ wsX5_get := fun w h => List.mem_cons_of_mem _ (List.mem_append_right _ h)
  unfold dnX5_get at hd
  refine lv_aload_n hx hb dX5_get_0 rfl (lv_at hl 0 rfl) ?_
  refine g_ X hinX5 hW 0 rfl rfl 1 (by decide) 1 rfl rfl rfl dX5_get_1 ?_
  refine lv_sipush (v := 310) hx hb dX5_get_4 (by decide) ?_
  refine lv_aload_n hx hb dX5_get_7 rfl (lv_at hl 0 rfl) ?_
  refine g_ X hinX5 hW 0 rfl rfl 4 (by decide) 2 rfl rfl rfl dX5_get_8 ?_
  refine lv_imul hx hb dX5_get_11 ?_
  refine lv_iload_n hx hb dX5_get_12 rfl (lv_at hl 1 rfl) ?_
  refine lv_iadd hx hb dX5_get_13 ?_
  obtain ⟨hi1, hd⟩ := ra_e hd
  refine a_ X hW 1 rfl rfl hi1 dX5_get_14 ?_
  generalize (F 1) ((310 * (F 0 4)) + x1).toNatClampNeg = v2 at hd ⊢
  have hd := Option.some.inj hd
  subst hd
  exact hQ _ _ _ _ rfl hW dX5_get_15
abbrev rmX5_put0 : Room := { frames := 0, cells := 0, slots := 0, locals := 0 }
set_option maxRecDepth 100000 in
set_option maxHeartbeats 4000000 in
theorem kX5_put0 (l : Launch) (Dd : va_G) (Y : yT) (ad : Nat → Nat) (F : gF) (x1 : Int32) (x2 : Int32) (F' : gF) (hd : dnX5_put0 F x1 x2 = some F') : MG l yX5_put0 wsX5_put0 rmX5_put0 Dd Y [.ref (ad 0), .int x1, .int x2] (WM Y ad F) (WM Y ad F') none := by
  refine MGv (cc := cX5_put0) (maxL := 3) (by decide) rfl (Nat.le_of_ble_eq_true rfl) (fun {p e s m args below meth c A} ls Q X hW hl hQ => ?_)
  have hx := X.x
  have hb := X.b
  have hl : lv_has ls 3 [(0, .ref (ad 0)), (1, .int x1), (2, .int x2)] := hl
  have hinX5 : ∀ w ∈ wsX50, w ∈ wsX5_put0 := fun w h => List.mem_cons_of_mem _ (List.mem_append_right _ h)
  unfold dnX5_put0 at hd
  refine lv_aload_n hx hb dX5_put0_0 rfl (lv_at hl 0 rfl) ?_
  refine g_ X hinX5 hW 0 rfl rfl 1 (by decide) 1 rfl rfl rfl dX5_put0_1 ?_
  refine lv_sipush (v := 310) hx hb dX5_put0_4 (by decide) ?_
  refine lv_aload_n hx hb dX5_put0_7 rfl (lv_at hl 0 rfl) ?_
  refine g_ X hinX5 hW 0 rfl rfl 4 (by decide) 2 rfl rfl rfl dX5_put0_8 ?_
  refine lv_imul hx hb dX5_put0_11 ?_
  refine lv_iload_n hx hb dX5_put0_12 rfl (lv_at hl 1 rfl) ?_
  refine lv_iadd hx hb dX5_put0_13 ?_
  refine lv_iload_n hx hb dX5_put0_14 rfl (lv_at hl 2 rfl) ?_
  obtain ⟨hi1, hd⟩ := wi_e hd
  obtain ⟨F2, eF2, hd⟩ := bw_e hd
  refine s_ X hW 1 rfl rfl hi1 dX5_put0_15 (ws' := (WM Y ad F2)) (by rw [eF2]; rfl) (fun H locs hW => ?_)
  obtain rfl := Option.some.inj hd
  exact hQ _ _ _ _ hW dX5_put0_16
abbrev rmX5_adds : Room := { frames := 1, cells := 0, slots := 0, locals := 22 }
set_option maxRecDepth 100000 in
set_option maxHeartbeats 4000000 in
theorem kX5_adds (l : Launch) (Dd : va_G) (Y : yT) (ad : Nat → Nat) (F : gF) (x1 : Int32) (x2 : Int32) (F' : gF) (hd : dnX5_adds F x1 x2 = some F') : MG l yX5_adds wsX5_adds rmX5_adds Dd Y [.ref (ad 0), .int x1, .int x2] (WM Y ad F) (WM Y ad F') none := by
  refine MGv (cc := cX5_adds) (maxL := 3) (by decide) rfl (Nat.le_of_ble_eq_true rfl) (fun {p e s m args below meth c A} ls Q X hW hl hQ => ?_)
  have hx := X.x
  have hb := X.b
  have hl : lv_has ls 3 [(0, .ref (ad 0)), (1, .int x1), (2, .int x2)] := hl
  unfold dnX5_adds at hd
  refine lv_aload_n hx hb dX5_adds_0 rfl (lv_at hl 0 rfl) ?_
  refine lv_iload_n hx hb dX5_adds_1 rfl (lv_at hl 1 rfl) ?_
  refine lv_aload_n hx hb dX5_adds_2 rfl (lv_at hl 0 rfl) ?_
  refine lv_iload_n hx hb dX5_adds_3 rfl (lv_at hl 1 rfl) ?_
  obtain ⟨r2, h1, hd⟩ := bp_e hd
  refine cVi_ (rest := [.int x1, .ref (ad 0)]) X (kX5_get l Dd Y ad F x1 r2 h1) (cwV 1 X.1.2.2.2.2 gX5_adds_X5_get rfl rfl rfl (by decide +kernel) ⟨Nat.le_of_ble_eq_true rfl, Nat.le_of_ble_eq_true rfl⟩) hW 0 5 rfl rfl rfl rfl hl.1 rfl (Nat.le_of_ble_eq_true rfl) dX5_adds_4 ⟨Nat.zero_le _, Nat.zero_le _⟩ (fun H locs hW => ?_)
  refine lv_iload_n hx hb dX5_adds_7 rfl (lv_at hl 2 rfl) ?_
  refine lv_iadd hx hb dX5_adds_8 ?_
  obtain ⟨F4, h3, hd⟩ := bp_e hd
  refine cVv_ (rest := []) X (kX5_put0 l Dd Y ad F x1 (r2 + x2) F4 h3) (cwV 2 X.1.2.2.2.2 gX5_adds_X5_put0 rfl rfl rfl (by decide +kernel) ⟨Nat.le_of_ble_eq_true rfl, Nat.le_of_ble_eq_true rfl⟩) hW 0 5 rfl rfl rfl rfl hl.1 rfl (Nat.le_of_ble_eq_true rfl) dX5_adds_9 ⟨Nat.zero_le _, Nat.zero_le _⟩ (fun H locs hW => ?_)
  obtain rfl := Option.some.inj hd
  exact hQ _ _ _ _ hW dX5_adds_12
abbrev rmX5_size : Room := { frames := 1, cells := 0, slots := 0, locals := 21 }
set_option maxRecDepth 100000 in
set_option maxHeartbeats 4000000 in
theorem kX5_size (l : Launch) (Dd : va_G) (Y : yT) (ad : Nat → Nat) (F : gF) (r : Int32) (hd : dnX5_size F = some r) : MG l yX5_size wsX5_size rmX5_size Dd Y [.ref (ad 0)] (WM Y ad F) (WM Y ad F) (some (.int r)) := by
  refine MGi (cc := cX5_size) (maxL := 1) (ty := .int) (by decide) rfl (Nat.le_of_ble_eq_true rfl) (fun {p e s m args below meth c A} ls Q X hW hl hQ => ?_)
  have hx := X.x
  have hb := X.b
  have hl : lv_has ls 1 [(0, .ref (ad 0))] := hl
  unfold dnX5_size at hd
  refine lv_aload_n hx hb dX5_size_0 rfl (lv_at hl 0 rfl) ?_
  refine lv_iconst (v := 0) hx hb dX5_size_1 (by decide) ?_
  obtain ⟨r2, h1, hd⟩ := bp_e hd
  refine cVi_ (rest := []) X (kX5_get l Dd Y ad F 0 r2 h1) (cwV 1 X.1.2.2.2.2 gX5_size_X5_get rfl rfl rfl (by decide +kernel) ⟨Nat.le_of_ble_eq_true rfl, Nat.le_of_ble_eq_true rfl⟩) hW 0 5 rfl rfl rfl rfl hl.1 rfl (Nat.le_of_ble_eq_true rfl) dX5_size_2 ⟨Nat.zero_le _, Nat.zero_le _⟩ (fun H locs hW => ?_)
  have hd := Option.some.inj hd
  subst hd
  exact hQ _ _ _ _ rfl hW dX5_size_5
abbrev rmX5_cellsOn : Room := { frames := 2, cells := 0, slots := 0, locals := 41 }
set_option maxRecDepth 100000 in
set_option maxHeartbeats 4000000 in
theorem kX5_cellsOn (l : Launch) (Dd : va_G) (Y : yT) (ad : Nat → Nat) (F : gF) (x1 : Int32) (r : Int32) (hd : dnX5_cellsOn F x1 = some r) : MG l yX5_cellsOn wsX5_cellsOn rmX5_cellsOn Dd Y [.ref (ad 0), .int x1] (WM Y ad F) (WM Y ad F) (some (.int r)) := by
  refine MGi (cc := cX5_cellsOn) (maxL := 2) (ty := .int) (by decide) rfl (Nat.le_of_ble_eq_true rfl) (fun {p e s m args below meth c A} ls Q X hW hl hQ => ?_)
  have hx := X.x
  have hb := X.b
  have hl : lv_has ls 2 [(0, .ref (ad 0)), (1, .int x1)] := hl
  unfold dnX5_cellsOn at hd
  refine lv_iconst (v := 0) hx hb dX5_cellsOn_0 (by decide) ?_
  refine lv_aload_n hx hb dX5_cellsOn_1 rfl (lv_at hl 0 rfl) ?_
  obtain ⟨r2, h1, hd⟩ := bp_e hd
  refine cVi_ (rest := [.int 0]) X (kX5_size l Dd Y ad F r2 h1) (cwV 0 X.1.2.2.2.2 gX5_cellsOn_X5_size rfl rfl rfl (by decide +kernel) ⟨Nat.le_of_ble_eq_true rfl, Nat.le_of_ble_eq_true rfl⟩) hW 0 5 rfl rfl rfl rfl hl.1 rfl (Nat.le_of_ble_eq_true rfl) dX5_cellsOn_2 ⟨Nat.zero_le _, Nat.zero_le _⟩ (fun H locs hW => ?_)
  refine lv_iconst (v := 1) hx hb dX5_cellsOn_5 (by decide) ?_
  refine lv_iload_n hx hb dX5_cellsOn_6 rfl (lv_at hl 1 rfl) ?_
  refine lv_ishl hx hb dX5_cellsOn_7 ?_
  refine lv_isub hx hb dX5_cellsOn_8 ?_
  refine lv_iconst (v := 1) hx hb dX5_cellsOn_9 (by decide) ?_
  refine lv_iadd hx hb dX5_cellsOn_10 ?_
  refine max_ X hl.1 1 2 3 4 rfl rfl rfl rfl ⟨Nat.le_of_ble_eq_true rfl, Nat.le_of_ble_eq_true rfl⟩ (Nat.le_of_ble_eq_true rfl) ⟨Nat.zero_le _, Nat.zero_le _⟩ dX5_cellsOn_11 ?_
  have hd := Option.some.inj hd
  subst hd
  exact hQ _ _ _ _ rfl hW dX5_cellsOn_14
abbrev rmX5_cellAt : Room := { frames := 0, cells := 0, slots := 0, locals := 0 }
set_option maxRecDepth 100000 in
set_option maxHeartbeats 4000000 in
theorem kX5_cellAt (l : Launch) (Dd : va_G) (Y : yT) (x0 : Int32) (x1 : Int32) (r : Int32) (hd : dnX5_cellAt x0 x1 = some r) : MG l yX5_cellAt wsX5_cellAt rmX5_cellAt Dd Y [.int x0, .int x1] [] [] (some (.int r)) := by
  refine MGi (cc := cX5_cellAt) (maxL := 2) (ty := .int) (by decide) rfl (Nat.le_of_ble_eq_true rfl) (fun {p e s m args below meth c A} ls Q X hW hl hQ => ?_)
  have hx := X.x
  have hb := X.b
  have hl : lv_has ls 2 [(0, .int x0), (1, .int x1)] := hl
  unfold dnX5_cellAt at hd
  refine lv_bipush (v := 92) hx hb dX5_cellAt_0 (by decide) ?_
  refine lv_bipush (v := 40) hx hb dX5_cellAt_2 (by decide) ?_
  refine lv_iload_n hx hb dX5_cellAt_4 rfl (lv_at hl 0 rfl) ?_
  refine lv_iconst (v := 1) hx hb dX5_cellAt_5 (by decide) ?_
  refine lv_isub hx hb dX5_cellAt_6 ?_
  refine lv_imul hx hb dX5_cellAt_7 ?_
  refine lv_iadd hx hb dX5_cellAt_8 ?_
  refine lv_iload_n hx hb dX5_cellAt_9 rfl (lv_at hl 1 rfl) ?_
  refine lv_iadd hx hb dX5_cellAt_10 ?_
  have hd := Option.some.inj hd
  subst hd
  exact hQ _ _ _ _ rfl hW dX5_cellAt_11
abbrev rmX5_valueAt : Room := { frames := 1, cells := 0, slots := 0, locals := 21 }
set_option maxRecDepth 100000 in
set_option maxHeartbeats 4000000 in
theorem kX5_valueAt (l : Launch) (Dd : va_G) (Y : yT) (ad : Nat → Nat) (F : gF) (x1 : Int32) (r : Int32) (hd : dnX5_valueAt F x1 = some r) : MG l yX5_valueAt wsX5_valueAt rmX5_valueAt Dd Y [.ref (ad 0), .int x1] (WM Y ad F) (WM Y ad F) (some (.int r)) := by
  refine MGi (cc := cX5_valueAt) (maxL := 2) (ty := .int) (by decide) rfl (Nat.le_of_ble_eq_true rfl) (fun {p e s m args below meth c A} ls Q X hW hl hQ => ?_)
  have hx := X.x
  have hb := X.b
  have hl : lv_has ls 2 [(0, .ref (ad 0)), (1, .int x1)] := hl
  unfold dnX5_valueAt at hd
  refine lv_aload_n hx hb dX5_valueAt_0 rfl (lv_at hl 0 rfl) ?_
  refine lv_bipush (v := 12) hx hb dX5_valueAt_1 (by decide) ?_
  refine lv_iload_n hx hb dX5_valueAt_3 rfl (lv_at hl 1 rfl) ?_
  refine lv_iadd hx hb dX5_valueAt_4 ?_
  obtain ⟨r2, h1, hd⟩ := bp_e hd
  refine cVi_ (rest := []) X (kX5_get l Dd Y ad F (12 + x1) r2 h1) (cwV 1 X.1.2.2.2.2 gX5_valueAt_X5_get rfl rfl rfl (by decide +kernel) ⟨Nat.le_of_ble_eq_true rfl, Nat.le_of_ble_eq_true rfl⟩) hW 0 5 rfl rfl rfl rfl hl.1 rfl (Nat.le_of_ble_eq_true rfl) dX5_valueAt_5 ⟨Nat.zero_le _, Nat.zero_le _⟩ (fun H locs hW => ?_)
  have hd := Option.some.inj hd
  subst hd
  exact hQ _ _ _ _ rfl hW dX5_valueAt_8
abbrev rmX5_leastIn : Room := { frames := 2, cells := 0, slots := 0, locals := 42 }
set_option maxRecDepth 100000 in
set_option maxHeartbeats 4000000 in
theorem kX5_leastIn (l : Launch) (Dd : va_G) (Y : yT) (ad : Nat → Nat) (F : gF) (x1 : Int32) (x2 : Int32) (r : Int32) (hd : dnX5_leastIn F x1 x2 = some r) : MG l yX5_leastIn wsX5_leastIn rmX5_leastIn Dd Y [.ref (ad 0), .int x1, .int x2] (WM Y ad F) (WM Y ad F) (some (.int r)) := by
  refine MGi (cc := cX5_leastIn) (maxL := 5) (ty := .int) (by decide) rfl (Nat.le_of_ble_eq_true rfl) (fun {p e s m args below meth c A} ls Q X hW hl hQ => ?_)
  have hx := X.x
  have hb := X.b
  have hl : lv_has ls 5 [(0, .ref (ad 0)), (1, .int x1), (2, .int x2)] := hl
  unfold dnX5_leastIn at hd
  have K7 : ∀ (F : gF) (x2 : Int32) (n : Nat) (x3 : Int32) (x4 : Int32) (z : Nat × Int32), lpX5_leastIn_7 F x2 n x3 x4 = some z → ∀ (H : Heap) (locs : List Loc) (ls : Array Slot), Wd Dd A s.heap (WM Y ad F) H locs → lv_has ls 5 [(0, .ref (ad 0)), (2, .int x2), (3, .int x3), (4, .int x4)] → (∀ (H : Heap) (locs : List Loc) (ls : Array Slot), z.1 = 0 → Wd Dd A s.heap (WM Y ad F) H locs → lv_has ls 5 [(3, .int z.2)] → W p l e rmX5_leastIn s m args below meth c H locs 0 0 Q (F0 m 36 ls [])) → W p l e rmX5_leastIn s m args below meth c H locs 0 0 Q (F0 m 7 ls []) := by
    intro F x2 n
    induction n with
    | zero => intro x3 x4 z hd; cases hd
    | succ n ih =>
      intro x3 x4 z hd H locs ls hW hl kx0
      unfold lpX5_leastIn_7 at hd
      refine lv_iload hx hb dX5_leastIn_7 (lv_at hl 3 rfl) ?_
      refine lv_iload_n hx hb dX5_leastIn_9 rfl (lv_at hl 1 rfl) ?_
      refine lv_icmp_gt (tgt := 36) hx hb dX5_leastIn_10 (by decide) (fun c1 => ?_) (fun c1 => ?_)
      · replace hd := if_t c1 hd
        cases hd
        exact kx0 _ _ _ rfl hW (lv_sub hl [2] rfl)
      · replace hd := if_f c1 hd
        refine lv_aload_n hx hb dX5_leastIn_13 rfl (lv_at hl 0 rfl) ?_
        refine lv_iload hx hb dX5_leastIn_14 (lv_at hl 3 rfl) ?_
        obtain ⟨r3, h2, hd⟩ := bp_e hd
        refine cVi_ (rest := []) X (kX5_valueAt l Dd Y ad F x4 r3 h2) (cwV 1 X.1.2.2.2.2 gX5_leastIn_X5_valueAt rfl rfl rfl (by decide +kernel) ⟨Nat.le_of_ble_eq_true rfl, Nat.le_of_ble_eq_true rfl⟩) hW 0 5 rfl rfl rfl rfl hl.1 rfl (Nat.le_of_ble_eq_true rfl) dX5_leastIn_16 ⟨Nat.zero_le _, Nat.zero_le _⟩ (fun H locs hW => ?_)
        refine lv_aload_n hx hb dX5_leastIn_19 rfl (lv_at hl 0 rfl) ?_
        refine lv_iload_n hx hb dX5_leastIn_20 rfl (lv_at hl 2 rfl) ?_
        obtain ⟨r5, h4, hd⟩ := bp_e hd
        refine cVi_ (rest := [.int r3]) X (kX5_valueAt l Dd Y ad F x3 r5 h4) (cwV 1 X.1.2.2.2.2 gX5_leastIn_X5_valueAt rfl rfl rfl (by decide +kernel) ⟨Nat.le_of_ble_eq_true rfl, Nat.le_of_ble_eq_true rfl⟩) hW 0 5 rfl rfl rfl rfl hl.1 rfl (Nat.le_of_ble_eq_true rfl) dX5_leastIn_21 ⟨Nat.zero_le _, Nat.zero_le _⟩ (fun H locs hW => ?_)
        refine lv_icmp_ge (tgt := 30) hx hb dX5_leastIn_24 (by decide) (fun c6 => ?_) (fun c6 => ?_)
        · replace hd := if_t c6 hd
          refine lv_iinc (v := x4 + 1) (lv' := [(4, .int (x4 + 1)), (0, .ref (ad 0)), (2, .int x2), (3, .int x3)]) hx hb dX5_leastIn_30 hl (k := 3) rfl rfl (by decide) rfl (fun ls hl => ?_)
          refine lv_goto (tgt := 7) hx hb dX5_leastIn_33 (by decide) ?_
          exact ih x3 (x4 + 1) z hd _ _ _ hW (lv_sub hl [1, 2, 3, 0] rfl) kx0
        · replace hd := if_f c6 hd
          refine lv_iload hx hb dX5_leastIn_27 (lv_at hl 3 rfl) ?_
          refine lv_istore_n (lv' := [(3, .int x4), (0, .ref (ad 0)), (2, .int x2), (4, .int x4)]) hx hb dX5_leastIn_29 rfl hl (by decide) rfl (fun ls hl => ?_)
          refine lv_iinc (v := x4 + 1) (lv' := [(4, .int (x4 + 1)), (3, .int x4), (0, .ref (ad 0)), (2, .int x2)]) hx hb dX5_leastIn_30 hl (k := 3) rfl rfl (by decide) rfl (fun ls hl => ?_)
          refine lv_goto (tgt := 7) hx hb dX5_leastIn_33 (by decide) ?_
          exact ih x4 (x4 + 1) z hd _ _ _ hW (lv_sub hl [2, 3, 1, 0] rfl) kx0
  refine lv_iload_n hx hb dX5_leastIn_0 rfl (lv_at hl 1 rfl) ?_
  refine lv_istore_n (lv' := [(3, .int x1), (0, .ref (ad 0)), (1, .int x1), (2, .int x2)]) hx hb dX5_leastIn_1 rfl hl (by decide) rfl (fun ls hl => ?_)
  refine lv_iload_n hx hb dX5_leastIn_2 rfl (lv_at hl 2 rfl) ?_
  refine lv_iconst (v := 1) hx hb dX5_leastIn_3 (by decide) ?_
  refine lv_iadd hx hb dX5_leastIn_4 ?_
  refine lv_istore (lv' := [(4, .int (x1 + 1)), (3, .int x1), (0, .ref (ad 0)), (1, .int x1), (2, .int x2)]) hx hb dX5_leastIn_5 hl (by decide) rfl (fun ls hl => ?_)
  obtain ⟨z7_6, hz7_6, hd⟩ := bp_e hd
  refine K7 F x2 FU x1 (x1 + 1) z7_6 hz7_6 _ _ _ hW (lv_sub hl [2, 4, 1, 0] rfl) (fun H locs ls e7 hW hl => ?_)
  refine lv_iload_n hx hb dX5_leastIn_36 rfl (lv_at hl 0 rfl) ?_
  have hd := Option.some.inj hd
  subst hd
  exact hQ _ _ _ _ rfl hW dX5_leastIn_37
abbrev rmX5_writes0 : Room := { frames := 3, cells := 0, slots := 0, locals := 66 }
set_option maxRecDepth 100000 in
set_option maxHeartbeats 4000000 in
theorem kX5_writes0 (l : Launch) (Dd : va_G) (Y : yT) (ad : Nat → Nat) (F : gF) (x1 : Int32) (x2 : Int32) (F' : gF) (hd : dnX5_writes0 F x1 x2 = some F') : MG l yX5_writes0 wsX5_writes0 rmX5_writes0 Dd Y [.ref (ad 0), .int x1, .int x2] (WM Y ad F) (WM Y ad F') none := by
  refine MGv (cc := cX5_writes0) (maxL := 3) (by decide) rfl (Nat.le_of_ble_eq_true rfl) (fun {p e s m args below meth c A} ls Q X hW hl hQ => ?_)
  have hx := X.x
  have hb := X.b
  have hl : lv_has ls 3 [(0, .ref (ad 0)), (1, .int x1), (2, .int x2)] := hl
  unfold dnX5_writes0 at hd
  refine lv_aload_n hx hb dX5_writes0_0 rfl (lv_at hl 0 rfl) ?_
  refine lv_iload_n hx hb dX5_writes0_1 rfl (lv_at hl 1 rfl) ?_
  refine lv_iload_n hx hb dX5_writes0_2 rfl (lv_at hl 2 rfl) ?_
  obtain ⟨r2, h1, hd⟩ := bp_e hd
  refine cSi_ (rest := [.ref (ad 0)]) X (kX5_cellAt l Dd Y x1 x2 r2 h1) (va_cwS 2 X.1.2.2.2.2 gX5_writes0_X5_cellAt rfl rfl rfl (by decide +kernel) ⟨Nat.le_of_ble_eq_true rfl, Nat.le_of_ble_eq_true rfl⟩) hW rfl hl.1 rfl (Nat.le_of_ble_eq_true rfl) dX5_writes0_3 ⟨Nat.zero_le _, Nat.zero_le _⟩ (fun H locs hW => ?_)
  refine lv_aload_n hx hb dX5_writes0_6 rfl (lv_at hl 0 rfl) ?_
  refine lv_iload_n hx hb dX5_writes0_7 rfl (lv_at hl 2 rfl) ?_
  refine lv_iload_n hx hb dX5_writes0_8 rfl (lv_at hl 2 rfl) ?_
  refine lv_iconst (v := 1) hx hb dX5_writes0_9 (by decide) ?_
  refine lv_iload_n hx hb dX5_writes0_10 rfl (lv_at hl 1 rfl) ?_
  refine lv_ishl hx hb dX5_writes0_11 ?_
  refine lv_iadd hx hb dX5_writes0_12 ?_
  refine lv_iconst (v := 1) hx hb dX5_writes0_13 (by decide) ?_
  refine lv_isub hx hb dX5_writes0_14 ?_
  obtain ⟨r4, h3, hd⟩ := bp_e hd
  refine cVi_ (rest := [.int r2, .ref (ad 0)]) X (kX5_leastIn l Dd Y ad F x2 ((x2 + ((1 : Int32) <<< (x1 &&& 31))) - 1) r4 h3) (cwV 2 X.1.2.2.2.2 gX5_writes0_X5_leastIn rfl rfl rfl (by decide +kernel) ⟨Nat.le_of_ble_eq_true rfl, Nat.le_of_ble_eq_true rfl⟩) hW 0 5 rfl rfl rfl rfl hl.1 rfl (Nat.le_of_ble_eq_true rfl) dX5_writes0_15 ⟨Nat.zero_le _, Nat.zero_le _⟩ (fun H locs hW => ?_)
  obtain ⟨F6, h5, hd⟩ := bp_e hd
  refine cVv_ (rest := []) X (kX5_put0 l Dd Y ad F r2 r4 F6 h5) (cwV 2 X.1.2.2.2.2 gX5_writes0_X5_put0 rfl rfl rfl (by decide +kernel) ⟨Nat.le_of_ble_eq_true rfl, Nat.le_of_ble_eq_true rfl⟩) hW 0 5 rfl rfl rfl rfl hl.1 rfl (Nat.le_of_ble_eq_true rfl) dX5_writes0_18 ⟨Nat.zero_le _, Nat.zero_le _⟩ (fun H locs hW => ?_)
  refine lv_aload_n hx hb dX5_writes0_21 rfl (lv_at hl 0 rfl) ?_
  refine lv_bipush (v := 8) hx hb dX5_writes0_22 (by decide) ?_
  refine lv_iconst (v := 1) hx hb dX5_writes0_24 (by decide) ?_
  obtain ⟨F8, h7, hd⟩ := bp_e hd
  refine cVv_ (rest := []) X (kX5_adds l Dd Y ad F6 8 1 F8 h7) (cwV 2 X.1.2.2.2.2 gX5_writes0_X5_adds rfl rfl rfl (by decide +kernel) ⟨Nat.le_of_ble_eq_true rfl, Nat.le_of_ble_eq_true rfl⟩) hW 0 5 rfl rfl rfl rfl hl.1 rfl (Nat.le_of_ble_eq_true rfl) dX5_writes0_25 ⟨Nat.zero_le _, Nat.zero_le _⟩ (fun H locs hW => ?_)
  obtain rfl := Option.some.inj hd
  exact hQ _ _ _ _ hW dX5_writes0_28
abbrev rmX5_builds : Room := { frames := 4, cells := 0, slots := 0, locals := 88 }
set_option maxRecDepth 100000 in
set_option maxHeartbeats 4000000 in
theorem kX5_builds (l : Launch) (Dd : va_G) (Y : yT) (ad : Nat → Nat) (F : gF) (F' : gF) (hd : dnX5_builds F = some F') : MG l yX5_builds wsX5_builds rmX5_builds Dd Y [.ref (ad 0)] (WM Y ad F) (WM Y ad F') none := by
  refine MGv (cc := cX5_builds) (maxL := 3) (by decide) rfl (Nat.le_of_ble_eq_true rfl) (fun {p e s m args below meth c A} ls Q X hW hl hQ => ?_)
  have hx := X.x
  have hb := X.b
  have hl : lv_has ls 3 [(0, .ref (ad 0))] := hl
  unfold dnX5_builds at hd
  have K9 : ∀ (x1 : Int32) (n : Nat) (x2 : Int32) (F : gF) (z : Nat × gF), lpX5_builds_9 x1 n x2 F = some z → ∀ (H : Heap) (locs : List Loc) (ls : Array Slot), Wd Dd A s.heap (WM Y ad F) H locs → lv_has ls 3 [(0, .ref (ad 0)), (1, .int x1), (2, .int x2)] → (∀ (H : Heap) (locs : List Loc) (ls : Array Slot), z.1 = 0 → Wd Dd A s.heap (WM Y ad z.2) H locs → lv_has ls 3 [(0, .ref (ad 0)), (1, .int x1)] → W p l e rmX5_builds s m args below meth c H locs 0 0 Q (F0 m 30 ls [])) → W p l e rmX5_builds s m args below meth c H locs 0 0 Q (F0 m 9 ls []) := by
    intro x1 n
    induction n with
    | zero => intro x2 F z hd; cases hd
    | succ n ih =>
      intro x2 F z hd H locs ls hW hl kx0
      unfold lpX5_builds_9 at hd
      refine lv_iload_n hx hb dX5_builds_9 rfl (lv_at hl 2 rfl) ?_
      refine lv_aload_n hx hb dX5_builds_10 rfl (lv_at hl 0 rfl) ?_
      refine lv_iload_n hx hb dX5_builds_11 rfl (lv_at hl 1 rfl) ?_
      obtain ⟨r2, h1, hd⟩ := bp_e hd
      refine cVi_ (rest := [.int x2]) X (kX5_cellsOn l Dd Y ad F x1 r2 h1) (cwV 1 X.1.2.2.2.2 gX5_builds_X5_cellsOn rfl rfl rfl (by decide +kernel) ⟨Nat.le_of_ble_eq_true rfl, Nat.le_of_ble_eq_true rfl⟩) hW 0 5 rfl rfl rfl rfl hl.1 rfl (Nat.le_of_ble_eq_true rfl) dX5_builds_12 ⟨Nat.zero_le _, Nat.zero_le _⟩ (fun H locs hW => ?_)
      refine lv_icmp_ge (tgt := 30) hx hb dX5_builds_15 (by decide) (fun c3 => ?_) (fun c3 => ?_)
      · replace hd := if_t c3 hd
        cases hd
        exact kx0 _ _ _ rfl hW (lv_sub hl [0, 1] rfl)
      · replace hd := if_f c3 hd
        refine lv_aload_n hx hb dX5_builds_18 rfl (lv_at hl 0 rfl) ?_
        refine lv_iload_n hx hb dX5_builds_19 rfl (lv_at hl 1 rfl) ?_
        refine lv_iload_n hx hb dX5_builds_20 rfl (lv_at hl 2 rfl) ?_
        obtain ⟨F5, h4, hd⟩ := bp_e hd
        refine cVv_ (rest := []) X (kX5_writes0 l Dd Y ad F x1 x2 F5 h4) (cwV 2 X.1.2.2.2.2 gX5_builds_X5_writes0 rfl rfl rfl (by decide +kernel) ⟨Nat.le_of_ble_eq_true rfl, Nat.le_of_ble_eq_true rfl⟩) hW 0 5 rfl rfl rfl rfl hl.1 rfl (Nat.le_of_ble_eq_true rfl) dX5_builds_21 ⟨Nat.zero_le _, Nat.zero_le _⟩ (fun H locs hW => ?_)
        refine lv_iinc (v := x2 + 1) (lv' := [(2, .int (x2 + 1)), (0, .ref (ad 0)), (1, .int x1)]) hx hb dX5_builds_24 hl (k := 2) rfl rfl (by decide) rfl (fun ls hl => ?_)
        refine lv_goto (tgt := 9) hx hb dX5_builds_27 (by decide) ?_
        exact ih (x2 + 1) F5 z hd _ _ _ hW (lv_sub hl [1, 2, 0] rfl) kx0
  have K38 : ∀ (n : Nat) (x1 : Int32) (F : gF) (z : Nat × gF), lpX5_builds_38 n x1 F = some z → ∀ (H : Heap) (locs : List Loc) (ls : Array Slot), Wd Dd A s.heap (WM Y ad F) H locs → lv_has ls 3 [(0, .ref (ad 0)), (1, .int x1)] → (∀ (H : Heap) (locs : List Loc) (ls : Array Slot), z.1 = 0 → Wd Dd A s.heap (WM Y ad z.2) H locs → lv_has ls 3 [(0, .ref (ad 0))] → W p l e rmX5_builds s m args below meth c H locs 0 0 Q (F0 m 59 ls [])) → W p l e rmX5_builds s m args below meth c H locs 0 0 Q (F0 m 38 ls []) := by
    intro n
    induction n with
    | zero => intro x1 F z hd; cases hd
    | succ n ih =>
      intro x1 F z hd H locs ls hW hl kx0
      unfold lpX5_builds_38 at hd
      refine lv_iload_n hx hb dX5_builds_38 rfl (lv_at hl 1 rfl) ?_
      refine lv_bipush (v := 40) hx hb dX5_builds_39 (by decide) ?_
      refine lv_icmp_ge (tgt := 59) hx hb dX5_builds_41 (by decide) (fun c6 => ?_) (fun c6 => ?_)
      · replace hd := if_t c6 hd
        cases hd
        exact kx0 _ _ _ rfl hW (lv_sub hl [0] rfl)
      · replace hd := if_f c6 hd
        refine lv_aload_n hx hb dX5_builds_44 rfl (lv_at hl 0 rfl) ?_
        refine lv_bipush (v := 52) hx hb dX5_builds_45 (by decide) ?_
        refine lv_iload_n hx hb dX5_builds_47 rfl (lv_at hl 1 rfl) ?_
        refine lv_iadd hx hb dX5_builds_48 ?_
        refine lv_iconst (v := 0) hx hb dX5_builds_49 (by decide) ?_
        obtain ⟨F8, h7, hd⟩ := bp_e hd
        refine cVv_ (rest := []) X (kX5_put0 l Dd Y ad F (52 + x1) 0 F8 h7) (cwV 2 X.1.2.2.2.2 gX5_builds_X5_put0 rfl rfl rfl (by decide +kernel) ⟨Nat.le_of_ble_eq_true rfl, Nat.le_of_ble_eq_true rfl⟩) hW 0 5 rfl rfl rfl rfl hl.1 rfl (Nat.le_of_ble_eq_true rfl) dX5_builds_50 ⟨Nat.zero_le _, Nat.zero_le _⟩ (fun H locs hW => ?_)
        refine lv_iinc (v := x1 + 1) (lv' := [(1, .int (x1 + 1)), (0, .ref (ad 0))]) hx hb dX5_builds_53 hl (k := 1) rfl rfl (by decide) rfl (fun ls hl => ?_)
        refine lv_goto (tgt := 38) hx hb dX5_builds_56 (by decide) ?_
        exact ih (x1 + 1) F8 z hd _ _ _ hW (lv_sub hl [1, 0] rfl) kx0
  have K2 : ∀ (n : Nat) (x1 : Int32) (F : gF) (z : Nat × gF), lpX5_builds_2 n x1 F = some z → ∀ (H : Heap) (locs : List Loc) (ls : Array Slot), Wd Dd A s.heap (WM Y ad F) H locs → lv_has ls 3 [(0, .ref (ad 0)), (1, .int x1)] → (∀ (H : Heap) (locs : List Loc) (ls : Array Slot), z.1 = 0 → Wd Dd A s.heap (WM Y ad z.2) H locs → lv_has ls 3 [(0, .ref (ad 0))] → W p l e rmX5_builds s m args below meth c H locs 0 0 Q (F0 m 36 ls [])) → W p l e rmX5_builds s m args below meth c H locs 0 0 Q (F0 m 2 ls []) := by
    intro n
    induction n with
    | zero => intro x1 F z hd; cases hd
    | succ n ih =>
      intro x1 F z hd H locs ls hW hl kx0
      unfold lpX5_builds_2 at hd
      refine lv_iload_n hx hb dX5_builds_2 rfl (lv_at hl 1 rfl) ?_
      refine lv_iconst (v := 5) hx hb dX5_builds_3 (by decide) ?_
      refine lv_icmp_gt (tgt := 36) hx hb dX5_builds_4 (by decide) (fun c9 => ?_) (fun c9 => ?_)
      · replace hd := if_t c9 hd
        cases hd
        exact kx0 _ _ _ rfl hW (lv_sub hl [0] rfl)
      · replace hd := if_f c9 hd
        refine lv_iconst (v := 0) hx hb dX5_builds_7 (by decide) ?_
        refine lv_istore_n (lv' := [(2, .int 0), (0, .ref (ad 0)), (1, .int x1)]) hx hb dX5_builds_8 rfl hl (by decide) rfl (fun ls hl => ?_)
        obtain ⟨z9_9, hz9_9, hd⟩ := bp_e hd
        refine K9 x1 FU 0 F z9_9 hz9_9 _ _ _ hW (lv_sub hl [1, 2, 0] rfl) (fun H locs ls e9 hW hl => ?_)
        refine lv_iinc (v := x1 + 1) (lv' := [(1, .int (x1 + 1)), (0, .ref (ad 0))]) hx hb dX5_builds_30 hl (k := 1) rfl rfl (by decide) rfl (fun ls hl => ?_)
        refine lv_goto (tgt := 2) hx hb dX5_builds_33 (by decide) ?_
        exact ih (x1 + 1) z9_9.2 z hd _ _ _ hW (lv_sub hl [1, 0] rfl) kx0
  refine lv_iconst (v := 1) hx hb dX5_builds_0 (by decide) ?_
  refine lv_istore_n (lv' := [(1, .int 1), (0, .ref (ad 0))]) hx hb dX5_builds_1 rfl hl (by decide) rfl (fun ls hl => ?_)
  obtain ⟨z2_10, hz2_10, hd⟩ := bp_e hd
  refine K2 FU 1 F z2_10 hz2_10 _ _ _ hW (lv_sub hl [1, 0] rfl) (fun H locs ls e2 hW hl => ?_)
  refine lv_iconst (v := 0) hx hb dX5_builds_36 (by decide) ?_
  refine lv_istore_n (lv' := [(1, .int 0), (0, .ref (ad 0))]) hx hb dX5_builds_37 rfl hl (by decide) rfl (fun ls hl => ?_)
  obtain ⟨z38_11, hz38_11, hd⟩ := bp_e hd
  refine K38 FU 0 z2_10.2 z38_11 hz38_11 _ _ _ hW (lv_sub hl [1, 0] rfl) (fun H locs ls e38 hW hl => ?_)
  refine lv_aload_n hx hb dX5_builds_59 rfl (lv_at hl 0 rfl) ?_
  refine lv_bipush (v := 10) hx hb dX5_builds_60 (by decide) ?_
  refine lv_iconst (v := 1) hx hb dX5_builds_62 (by decide) ?_
  obtain ⟨F14, h13, hd⟩ := bp_e hd
  refine cVv_ (rest := []) X (kX5_adds l Dd Y ad z38_11.2 10 1 F14 h13) (cwV 2 X.1.2.2.2.2 gX5_builds_X5_adds rfl rfl rfl (by decide +kernel) ⟨Nat.le_of_ble_eq_true rfl, Nat.le_of_ble_eq_true rfl⟩) hW 0 5 rfl rfl rfl rfl hl.1 rfl (Nat.le_of_ble_eq_true rfl) dX5_builds_63 ⟨Nat.zero_le _, Nat.zero_le _⟩ (fun H locs hW => ?_)
  obtain rfl := Option.some.inj hd
  exact hQ _ _ _ _ hW dX5_builds_66
abbrev rmX5_isIn : Room := { frames := 0, cells := 0, slots := 0, locals := 0 }
set_option maxRecDepth 100000 in
set_option maxHeartbeats 4000000 in
theorem kX5_isIn (l : Launch) (Dd : va_G) (Y : yT) (x0 : Int32) (x1 : Int32) (x2 : Int32) (r : Int32) (hd : dnX5_isIn x0 x1 x2 = some r) : MG l yX5_isIn wsX5_isIn rmX5_isIn Dd Y [.int x0, .int x1, .int x2] [] [] (some (.int r)) := by
  refine MGi (cc := cX5_isIn) (maxL := 3) (ty := .boolean) (by decide) rfl (Nat.le_of_ble_eq_true rfl) (fun {p e s m args below meth c A} ls Q X hW hl hQ => ?_)
  have hx := X.x
  have hb := X.b
  have hl : lv_has ls 3 [(0, .int x0), (1, .int x1), (2, .int x2)] := hl
  unfold dnX5_isIn at hd
  refine lv_iload_n hx hb dX5_isIn_0 rfl (lv_at hl 0 rfl) ?_
  refine lv_iload_n hx hb dX5_isIn_1 rfl (lv_at hl 1 rfl) ?_
  refine lv_icmp_lt (tgt := 14) hx hb dX5_isIn_2 (by decide) (fun c1 => ?_) (fun c1 => ?_)
  · replace hd := if_t c1 hd
    refine lv_iconst (v := 0) hx hb dX5_isIn_14 (by decide) ?_
    have hd := Option.some.inj hd
    subst hd
    exact hQ _ _ _ _ (nz_b (Or.inl rfl)) hW dX5_isIn_15
  · replace hd := if_f c1 hd
    refine lv_iload_n hx hb dX5_isIn_5 rfl (lv_at hl 0 rfl) ?_
    refine lv_iload_n hx hb dX5_isIn_6 rfl (lv_at hl 2 rfl) ?_
    refine lv_icmp_gt (tgt := 14) hx hb dX5_isIn_7 (by decide) (fun c2 => ?_) (fun c2 => ?_)
    · replace hd := if_t c2 hd
      refine lv_iconst (v := 0) hx hb dX5_isIn_14 (by decide) ?_
      have hd := Option.some.inj hd
      subst hd
      exact hQ _ _ _ _ (nz_b (Or.inl rfl)) hW dX5_isIn_15
    · replace hd := if_f c2 hd
      refine lv_iconst (v := 1) hx hb dX5_isIn_10 (by decide) ?_
      refine lv_goto (tgt := 15) hx hb dX5_isIn_11 (by decide) ?_
      have hd := Option.some.inj hd
      subst hd
      exact hQ _ _ _ _ (nz_b (Or.inr rfl)) hW dX5_isIn_15
abbrev rmX5_right : Room := { frames := 0, cells := 0, slots := 0, locals := 0 }
set_option maxRecDepth 100000 in
set_option maxHeartbeats 4000000 in
theorem kX5_right (l : Launch) (Dd : va_G) (Y : yT) (ad : Nat → Nat) (F : gF) (x1 : Int32) (x2 : Int32) (r : Int32) (F' : gF) (hd : dnX5_right F x1 x2 = some (r, F')) : MG l yX5_right wsX5_right rmX5_right Dd Y [.ref (ad 0), .int x1, .int x2] (WM Y ad F) (WM Y ad F') (some (.int r)) := by
  refine MGi (cc := cX5_right) (maxL := 3) (ty := .boolean) (by decide) rfl (Nat.le_of_ble_eq_true rfl) (fun {p e s m args below meth c A} ls Q X hW hl hQ => ?_)
  have hx := X.x
  have hb := X.b
  have hl : lv_has ls 3 [(0, .ref (ad 0)), (1, .int x1), (2, .int x2)] := hl
  have hinX5 : ∀ w ∈ wsX50, w ∈ wsX5_right := fun w h => List.mem_cons_of_mem _ (List.mem_append_right _ h)
  unfold dnX5_right at hd
  refine lv_aload_n hx hb dX5_right_0 rfl (lv_at hl 0 rfl) ?_
  refine g_ X hinX5 hW 0 rfl rfl 0 (by decide) 1 rfl rfl rfl dX5_right_1 ?_
  refine lv_if_ne (tgt := 16) hx hb dX5_right_4 (by decide) (fun c1 => ?_) (fun c1 => ?_)
  · replace hd := if_f c1 hd
    refine lv_aload_n hx hb dX5_right_16 rfl (lv_at hl 0 rfl) ?_
    refine g_ X hinX5 hW 0 rfl rfl 0 (by decide) 1 rfl rfl rfl dX5_right_17 ?_
    refine lv_if_ne (tgt := 27) hx hb dX5_right_20 (by decide) (fun c2 => ?_) (fun c2 => ?_)
    · replace hd := if_f c2 hd
      refine lv_iconst (v := 0) hx hb dX5_right_27 (by decide) ?_
      obtain ⟨rfl, rfl⟩ := Prod.mk.inj (Option.some.inj hd)
      exact hQ _ _ _ _ (nz_b (Or.inl rfl)) hW dX5_right_28
    · replace hd := if_t c2 hd
      refine lv_iconst (v := 1) hx hb dX5_right_23 (by decide) ?_
      refine lv_goto (tgt := 28) hx hb dX5_right_24 (by decide) ?_
      obtain ⟨rfl, rfl⟩ := Prod.mk.inj (Option.some.inj hd)
      exact hQ _ _ _ _ (nz_b (Or.inr rfl)) hW dX5_right_28
  · replace hd := if_t c1 hd
    refine lv_iload_n hx hb dX5_right_7 rfl (lv_at hl 1 rfl) ?_
    refine lv_if_ne (tgt := 16) hx hb dX5_right_8 (by decide) (fun c3 => ?_) (fun c3 => ?_)
    · replace hd := if_f c3 hd
      refine lv_aload_n hx hb dX5_right_16 rfl (lv_at hl 0 rfl) ?_
      refine g_ X hinX5 hW 0 rfl rfl 0 (by decide) 1 rfl rfl rfl dX5_right_17 ?_
      refine lv_if_ne (tgt := 27) hx hb dX5_right_20 (by decide) (fun c4 => ?_) (fun c4 => ?_)
      · replace hd := if_f c4 hd
        refine lv_iconst (v := 0) hx hb dX5_right_27 (by decide) ?_
        obtain ⟨rfl, rfl⟩ := Prod.mk.inj (Option.some.inj hd)
        exact hQ _ _ _ _ (nz_b (Or.inl rfl)) hW dX5_right_28
      · replace hd := if_t c4 hd
        refine lv_iconst (v := 1) hx hb dX5_right_23 (by decide) ?_
        refine lv_goto (tgt := 28) hx hb dX5_right_24 (by decide) ?_
        obtain ⟨rfl, rfl⟩ := Prod.mk.inj (Option.some.inj hd)
        exact hQ _ _ _ _ (nz_b (Or.inr rfl)) hW dX5_right_28
    · replace hd := if_t c3 hd
      refine lv_aload_n hx hb dX5_right_11 rfl (lv_at hl 0 rfl) ?_
      refine lv_iload_n hx hb dX5_right_12 rfl (lv_at hl 2 rfl) ?_
      obtain ⟨F5, eF5, hd⟩ := bw_e hd
      refine p_ (ty := .int) X hinX5 tyX5 tyX5_ok nmX5 hW 0 rfl rfl 0 (by decide) 1 rfl rfl rfl (by decide +kernel) rfl rfl (Nat.le_of_ble_eq_true rfl) dX5_right_13 (ws' := (WM Y ad F5)) (by rw [eF5]; rfl) (fun H locs hW => ?_)
      refine lv_aload_n hx hb dX5_right_16 rfl (lv_at hl 0 rfl) ?_
      refine g_ X hinX5 hW 0 rfl rfl 0 (by decide) 1 rfl rfl rfl dX5_right_17 ?_
      refine lv_if_ne (tgt := 27) hx hb dX5_right_20 (by decide) (fun c6 => ?_) (fun c6 => ?_)
      · replace hd := if_f c6 hd
        refine lv_iconst (v := 0) hx hb dX5_right_27 (by decide) ?_
        obtain ⟨rfl, rfl⟩ := Prod.mk.inj (Option.some.inj hd)
        exact hQ _ _ _ _ (nz_b (Or.inl rfl)) hW dX5_right_28
      · replace hd := if_t c6 hd
        refine lv_iconst (v := 1) hx hb dX5_right_23 (by decide) ?_
        refine lv_goto (tgt := 28) hx hb dX5_right_24 (by decide) ?_
        obtain ⟨rfl, rfl⟩ := Prod.mk.inj (Option.some.inj hd)
        exact hQ _ _ _ _ (nz_b (Or.inr rfl)) hW dX5_right_28
abbrev rmX5_isWaiting : Room := { frames := 1, cells := 0, slots := 0, locals := 21 }
set_option maxRecDepth 100000 in
set_option maxHeartbeats 4000000 in
theorem kX5_isWaiting (l : Launch) (Dd : va_G) (Y : yT) (ad : Nat → Nat) (F : gF) (x1 : Int32) (r : Int32) (hd : dnX5_isWaiting F x1 = some r) : MG l yX5_isWaiting wsX5_isWaiting rmX5_isWaiting Dd Y [.ref (ad 0), .int x1] (WM Y ad F) (WM Y ad F) (some (.int r)) := by
  refine MGi (cc := cX5_isWaiting) (maxL := 2) (ty := .boolean) (by decide) rfl (Nat.le_of_ble_eq_true rfl) (fun {p e s m args below meth c A} ls Q X hW hl hQ => ?_)
  have hx := X.x
  have hb := X.b
  have hl : lv_has ls 2 [(0, .ref (ad 0)), (1, .int x1)] := hl
  unfold dnX5_isWaiting at hd
  refine lv_aload_n hx hb dX5_isWaiting_0 rfl (lv_at hl 0 rfl) ?_
  refine lv_bipush (v := 52) hx hb dX5_isWaiting_1 (by decide) ?_
  refine lv_iload_n hx hb dX5_isWaiting_3 rfl (lv_at hl 1 rfl) ?_
  refine lv_iadd hx hb dX5_isWaiting_4 ?_
  obtain ⟨r2, h1, hd⟩ := bp_e hd
  refine cVi_ (rest := []) X (kX5_get l Dd Y ad F (52 + x1) r2 h1) (cwV 1 X.1.2.2.2.2 gX5_isWaiting_X5_get rfl rfl rfl (by decide +kernel) ⟨Nat.le_of_ble_eq_true rfl, Nat.le_of_ble_eq_true rfl⟩) hW 0 5 rfl rfl rfl rfl hl.1 rfl (Nat.le_of_ble_eq_true rfl) dX5_isWaiting_5 ⟨Nat.zero_le _, Nat.zero_le _⟩ (fun H locs hW => ?_)
  refine lv_iconst (v := 1) hx hb dX5_isWaiting_8 (by decide) ?_
  refine lv_icmp_ne (tgt := 16) hx hb dX5_isWaiting_9 (by decide) (fun c3 => ?_) (fun c3 => ?_)
  · replace hd := if_f c3 hd
    refine lv_iconst (v := 0) hx hb dX5_isWaiting_16 (by decide) ?_
    have hd := Option.some.inj hd
    subst hd
    exact hQ _ _ _ _ (nz_b (Or.inl rfl)) hW dX5_isWaiting_17
  · replace hd := if_t c3 hd
    refine lv_iconst (v := 1) hx hb dX5_isWaiting_12 (by decide) ?_
    refine lv_goto (tgt := 17) hx hb dX5_isWaiting_13 (by decide) ?_
    have hd := Option.some.inj hd
    subst hd
    exact hQ _ _ _ _ (nz_b (Or.inr rfl)) hW dX5_isWaiting_17
abbrev rmX5_waiting : Room := { frames := 2, cells := 0, slots := 0, locals := 41 }
set_option maxRecDepth 100000 in
set_option maxHeartbeats 4000000 in
theorem kX5_waiting (l : Launch) (Dd : va_G) (Y : yT) (ad : Nat → Nat) (F : gF) (r : Int32) (hd : dnX5_waiting F = some r) : MG l yX5_waiting wsX5_waiting rmX5_waiting Dd Y [.ref (ad 0)] (WM Y ad F) (WM Y ad F) (some (.int r)) := by
  refine MGi (cc := cX5_waiting) (maxL := 3) (ty := .int) (by decide) rfl (Nat.le_of_ble_eq_true rfl) (fun {p e s m args below meth c A} ls Q X hW hl hQ => ?_)
  have hx := X.x
  have hb := X.b
  have hl : lv_has ls 3 [(0, .ref (ad 0))] := hl
  unfold dnX5_waiting at hd
  have K4 : ∀ (F : gF) (n : Nat) (x1 : Int32) (x2 : Int32) (z : Nat × Int32), lpX5_waiting_4 F n x1 x2 = some z → ∀ (H : Heap) (locs : List Loc) (ls : Array Slot), Wd Dd A s.heap (WM Y ad F) H locs → lv_has ls 3 [(0, .ref (ad 0)), (1, .int x1), (2, .int x2)] → (∀ (H : Heap) (locs : List Loc) (ls : Array Slot), z.1 = 0 → Wd Dd A s.heap (WM Y ad F) H locs → lv_has ls 3 [(1, .int z.2)] → W p l e rmX5_waiting s m args below meth c H locs 0 0 Q (F0 m 29 ls [])) → W p l e rmX5_waiting s m args below meth c H locs 0 0 Q (F0 m 4 ls []) := by
    intro F n
    induction n with
    | zero => intro x1 x2 z hd; cases hd
    | succ n ih =>
      intro x1 x2 z hd H locs ls hW hl kx0
      unfold lpX5_waiting_4 at hd
      refine lv_iload_n hx hb dX5_waiting_4 rfl (lv_at hl 2 rfl) ?_
      refine lv_aload_n hx hb dX5_waiting_5 rfl (lv_at hl 0 rfl) ?_
      obtain ⟨r2, h1, hd⟩ := bp_e hd
      refine cVi_ (rest := [.int x2]) X (kX5_size l Dd Y ad F r2 h1) (cwV 0 X.1.2.2.2.2 gX5_waiting_X5_size rfl rfl rfl (by decide +kernel) ⟨Nat.le_of_ble_eq_true rfl, Nat.le_of_ble_eq_true rfl⟩) hW 0 5 rfl rfl rfl rfl hl.1 rfl (Nat.le_of_ble_eq_true rfl) dX5_waiting_6 ⟨Nat.zero_le _, Nat.zero_le _⟩ (fun H locs hW => ?_)
      refine lv_icmp_ge (tgt := 29) hx hb dX5_waiting_9 (by decide) (fun c3 => ?_) (fun c3 => ?_)
      · replace hd := if_t c3 hd
        cases hd
        exact kx0 _ _ _ rfl hW (lv_sub hl [1] rfl)
      · replace hd := if_f c3 hd
        refine lv_iload_n hx hb dX5_waiting_12 rfl (lv_at hl 1 rfl) ?_
        refine lv_aload_n hx hb dX5_waiting_13 rfl (lv_at hl 0 rfl) ?_
        refine lv_bipush (v := 52) hx hb dX5_waiting_14 (by decide) ?_
        refine lv_iload_n hx hb dX5_waiting_16 rfl (lv_at hl 2 rfl) ?_
        refine lv_iadd hx hb dX5_waiting_17 ?_
        obtain ⟨r5, h4, hd⟩ := bp_e hd
        refine cVi_ (rest := [.int x1]) X (kX5_get l Dd Y ad F (52 + x2) r5 h4) (cwV 1 X.1.2.2.2.2 gX5_waiting_X5_get rfl rfl rfl (by decide +kernel) ⟨Nat.le_of_ble_eq_true rfl, Nat.le_of_ble_eq_true rfl⟩) hW 0 5 rfl rfl rfl rfl hl.1 rfl (Nat.le_of_ble_eq_true rfl) dX5_waiting_18 ⟨Nat.zero_le _, Nat.zero_le _⟩ (fun H locs hW => ?_)
        refine lv_iadd hx hb dX5_waiting_21 ?_
        refine lv_istore_n (lv' := [(1, .int (x1 + r5)), (0, .ref (ad 0)), (2, .int x2)]) hx hb dX5_waiting_22 rfl hl (by decide) rfl (fun ls hl => ?_)
        refine lv_iinc (v := x2 + 1) (lv' := [(2, .int (x2 + 1)), (1, .int (x1 + r5)), (0, .ref (ad 0))]) hx hb dX5_waiting_23 hl (k := 2) rfl rfl (by decide) rfl (fun ls hl => ?_)
        refine lv_goto (tgt := 4) hx hb dX5_waiting_26 (by decide) ?_
        exact ih (x1 + r5) (x2 + 1) z hd _ _ _ hW (lv_sub hl [2, 1, 0] rfl) kx0
  refine lv_iconst (v := 0) hx hb dX5_waiting_0 (by decide) ?_
  refine lv_istore_n (lv' := [(1, .int 0), (0, .ref (ad 0))]) hx hb dX5_waiting_1 rfl hl (by decide) rfl (fun ls hl => ?_)
  refine lv_iconst (v := 0) hx hb dX5_waiting_2 (by decide) ?_
  refine lv_istore_n (lv' := [(2, .int 0), (1, .int 0), (0, .ref (ad 0))]) hx hb dX5_waiting_3 rfl hl (by decide) rfl (fun ls hl => ?_)
  obtain ⟨z4_5, hz4_5, hd⟩ := bp_e hd
  refine K4 F FU 0 0 z4_5 hz4_5 _ _ _ hW (lv_sub hl [2, 1, 0] rfl) (fun H locs ls e4 hW hl => ?_)
  refine lv_iload_n hx hb dX5_waiting_29 rfl (lv_at hl 0 rfl) ?_
  have hd := Option.some.inj hd
  subst hd
  exact hQ _ _ _ _ rfl hW dX5_waiting_30
abbrev rmX5_allCells : Room := { frames := 3, cells := 0, slots := 0, locals := 62 }
set_option maxRecDepth 100000 in
set_option maxHeartbeats 4000000 in
theorem kX5_allCells (l : Launch) (Dd : va_G) (Y : yT) (ad : Nat → Nat) (F : gF) (r : Int32) (hd : dnX5_allCells F = some r) : MG l yX5_allCells wsX5_allCells rmX5_allCells Dd Y [.ref (ad 0)] (WM Y ad F) (WM Y ad F) (some (.int r)) := by
  refine MGi (cc := cX5_allCells) (maxL := 3) (ty := .int) (by decide) rfl (Nat.le_of_ble_eq_true rfl) (fun {p e s m args below meth c A} ls Q X hW hl hQ => ?_)
  have hx := X.x
  have hb := X.b
  have hl : lv_has ls 3 [(0, .ref (ad 0))] := hl
  unfold dnX5_allCells at hd
  have K4 : ∀ (F : gF) (n : Nat) (x1 : Int32) (x2 : Int32) (z : Nat × Int32), lpX5_allCells_4 F n x1 x2 = some z → ∀ (H : Heap) (locs : List Loc) (ls : Array Slot), Wd Dd A s.heap (WM Y ad F) H locs → lv_has ls 3 [(0, .ref (ad 0)), (1, .int x1), (2, .int x2)] → (∀ (H : Heap) (locs : List Loc) (ls : Array Slot), z.1 = 0 → Wd Dd A s.heap (WM Y ad F) H locs → lv_has ls 3 [(1, .int z.2)] → W p l e rmX5_allCells s m args below meth c H locs 0 0 Q (F0 m 23 ls [])) → W p l e rmX5_allCells s m args below meth c H locs 0 0 Q (F0 m 4 ls []) := by
    intro F n
    induction n with
    | zero => intro x1 x2 z hd; cases hd
    | succ n ih =>
      intro x1 x2 z hd H locs ls hW hl kx0
      unfold lpX5_allCells_4 at hd
      refine lv_iload_n hx hb dX5_allCells_4 rfl (lv_at hl 2 rfl) ?_
      refine lv_iconst (v := 5) hx hb dX5_allCells_5 (by decide) ?_
      refine lv_icmp_gt (tgt := 23) hx hb dX5_allCells_6 (by decide) (fun c1 => ?_) (fun c1 => ?_)
      · replace hd := if_t c1 hd
        cases hd
        exact kx0 _ _ _ rfl hW (lv_sub hl [1] rfl)
      · replace hd := if_f c1 hd
        refine lv_iload_n hx hb dX5_allCells_9 rfl (lv_at hl 1 rfl) ?_
        refine lv_aload_n hx hb dX5_allCells_10 rfl (lv_at hl 0 rfl) ?_
        refine lv_iload_n hx hb dX5_allCells_11 rfl (lv_at hl 2 rfl) ?_
        obtain ⟨r3, h2, hd⟩ := bp_e hd
        refine cVi_ (rest := [.int x1]) X (kX5_cellsOn l Dd Y ad F x2 r3 h2) (cwV 1 X.1.2.2.2.2 gX5_allCells_X5_cellsOn rfl rfl rfl (by decide +kernel) ⟨Nat.le_of_ble_eq_true rfl, Nat.le_of_ble_eq_true rfl⟩) hW 0 5 rfl rfl rfl rfl hl.1 rfl (Nat.le_of_ble_eq_true rfl) dX5_allCells_12 ⟨Nat.zero_le _, Nat.zero_le _⟩ (fun H locs hW => ?_)
        refine lv_iadd hx hb dX5_allCells_15 ?_
        refine lv_istore_n (lv' := [(1, .int (x1 + r3)), (0, .ref (ad 0)), (2, .int x2)]) hx hb dX5_allCells_16 rfl hl (by decide) rfl (fun ls hl => ?_)
        refine lv_iinc (v := x2 + 1) (lv' := [(2, .int (x2 + 1)), (1, .int (x1 + r3)), (0, .ref (ad 0))]) hx hb dX5_allCells_17 hl (k := 2) rfl rfl (by decide) rfl (fun ls hl => ?_)
        refine lv_goto (tgt := 4) hx hb dX5_allCells_20 (by decide) ?_
        exact ih (x1 + r3) (x2 + 1) z hd _ _ _ hW (lv_sub hl [2, 1, 0] rfl) kx0
  refine lv_iconst (v := 0) hx hb dX5_allCells_0 (by decide) ?_
  refine lv_istore_n (lv' := [(1, .int 0), (0, .ref (ad 0))]) hx hb dX5_allCells_1 rfl hl (by decide) rfl (fun ls hl => ?_)
  refine lv_iconst (v := 1) hx hb dX5_allCells_2 (by decide) ?_
  refine lv_istore_n (lv' := [(2, .int 1), (1, .int 0), (0, .ref (ad 0))]) hx hb dX5_allCells_3 rfl hl (by decide) rfl (fun ls hl => ?_)
  obtain ⟨z4_3, hz4_3, hd⟩ := bp_e hd
  refine K4 F FU 0 1 z4_3 hz4_3 _ _ _ hW (lv_sub hl [2, 1, 0] rfl) (fun H locs ls e4 hW hl => ?_)
  refine lv_iload_n hx hb dX5_allCells_23 rfl (lv_at hl 0 rfl) ?_
  have hd := Option.some.inj hd
  subst hd
  exact hQ _ _ _ _ rfl hW dX5_allCells_24
abbrev rmX5_tellsOf : Room := { frames := 0, cells := 0, slots := 0, locals := 0 }
set_option maxRecDepth 100000 in
set_option maxHeartbeats 4000000 in
theorem kX5_tellsOf (l : Launch) (Dd : va_G) (Y : yT) (ad : Nat → Nat) (F : gF) (x1 : Int32) (x2 : Int32) (x3 : Int32) (r : Int32) (hd : dnX5_tellsOf F x1 x2 x3 = some r) : MG l yX5_tellsOf wsX5_tellsOf rmX5_tellsOf Dd Y [.ref (ad 0), .int x1, .int x2, .int x3] (WM Y ad F) (WM Y ad F) (some (.int r)) := by
  refine MGi (cc := cX5_tellsOf) (maxL := 4) (ty := .boolean) (by decide) rfl (Nat.le_of_ble_eq_true rfl) (fun {p e s m args below meth c A} ls Q X hW hl hQ => ?_)
  have hx := X.x
  have hb := X.b
  have hl : lv_has ls 4 [(0, .ref (ad 0)), (1, .int x1), (2, .int x2), (3, .int x3)] := hl
  unfold dnX5_tellsOf at hd
  refine lv_iload_n hx hb dX5_tellsOf_0 rfl (lv_at hl 2 rfl) ?_
  refine lv_iload_n hx hb dX5_tellsOf_1 rfl (lv_at hl 3 rfl) ?_
  refine lv_icmp_gt (tgt := 18) hx hb dX5_tellsOf_2 (by decide) (fun c1 => ?_) (fun c1 => ?_)
  · replace hd := if_t c1 hd
    refine lv_iconst (v := 0) hx hb dX5_tellsOf_18 (by decide) ?_
    have hd := Option.some.inj hd
    subst hd
    exact hQ _ _ _ _ (nz_b (Or.inl rfl)) hW dX5_tellsOf_19
  · replace hd := if_f c1 hd
    refine lv_iload_n hx hb dX5_tellsOf_5 rfl (lv_at hl 3 rfl) ?_
    refine lv_iload_n hx hb dX5_tellsOf_6 rfl (lv_at hl 2 rfl) ?_
    refine lv_iconst (v := 1) hx hb dX5_tellsOf_7 (by decide) ?_
    refine lv_iload_n hx hb dX5_tellsOf_8 rfl (lv_at hl 1 rfl) ?_
    refine lv_ishl hx hb dX5_tellsOf_9 ?_
    refine lv_iadd hx hb dX5_tellsOf_10 ?_
    refine lv_icmp_ge (tgt := 18) hx hb dX5_tellsOf_11 (by decide) (fun c2 => ?_) (fun c2 => ?_)
    · replace hd := if_t c2 hd
      refine lv_iconst (v := 0) hx hb dX5_tellsOf_18 (by decide) ?_
      have hd := Option.some.inj hd
      subst hd
      exact hQ _ _ _ _ (nz_b (Or.inl rfl)) hW dX5_tellsOf_19
    · replace hd := if_f c2 hd
      refine lv_iconst (v := 1) hx hb dX5_tellsOf_14 (by decide) ?_
      refine lv_goto (tgt := 19) hx hb dX5_tellsOf_15 (by decide) ?_
      have hd := Option.some.inj hd
      subst hd
      exact hQ _ _ _ _ (nz_b (Or.inr rfl)) hW dX5_tellsOf_19
abbrev rmX5_sets : Room := { frames := 5, cells := 0, slots := 0, locals := 110 }
set_option maxRecDepth 100000 in
set_option maxHeartbeats 4000000 in
theorem kX5_sets (l : Launch) (Dd : va_G) (Y : yT) (ad : Nat → Nat) (F : gF) (x1 : Int32) (x2 : Int32) (r : Int32) (F' : gF) (hd : dnX5_sets F x1 x2 = some (r, F')) : MG l yX5_sets wsX5_sets rmX5_sets Dd Y [.ref (ad 0), .int x1, .int x2] (WM Y ad F) (WM Y ad F') (some (.int r)) := by
  refine MGi (cc := cX5_sets) (maxL := 6) (ty := .int) (by decide) rfl (Nat.le_of_ble_eq_true rfl) (fun {p e s m args below meth c A} ls Q X hW hl hQ => ?_)
  have hx := X.x
  have hb := X.b
  have hl : lv_has ls 6 [(0, .ref (ad 0)), (1, .int x1), (2, .int x2)] := hl
  unfold dnX5_sets at hd
  have K36 : ∀ (x1 : Int32) (x3 : Int32) (x4 : Int32) (n : Nat) (x5 : Int32) (F : gF) (z : Nat × gF), lpX5_sets_36 x1 x3 x4 n x5 F = some z → ∀ (H : Heap) (locs : List Loc) (ls : Array Slot), Wd Dd A s.heap (WM Y ad F) H locs → lv_has ls 6 [(0, .ref (ad 0)), (1, .int x1), (3, .int x3), (4, .int x4), (5, .int x5)] → (∀ (H : Heap) (locs : List Loc) (ls : Array Slot), z.1 = 0 → Wd Dd A s.heap (WM Y ad z.2) H locs → lv_has ls 6 [(0, .ref (ad 0)), (1, .int x1), (3, .int x3), (4, .int x4)] → W p l e rmX5_sets s m args below meth c H locs 0 0 Q (F0 m 73 ls [])) → W p l e rmX5_sets s m args below meth c H locs 0 0 Q (F0 m 36 ls []) := by
    intro x1 x3 x4 n
    induction n with
    | zero => intro x5 F z hd; cases hd
    | succ n ih =>
      intro x5 F z hd H locs ls hW hl kx0
      unfold lpX5_sets_36 at hd
      refine lv_iload hx hb dX5_sets_36 (lv_at hl 4 rfl) ?_
      refine lv_aload_n hx hb dX5_sets_38 rfl (lv_at hl 0 rfl) ?_
      refine lv_iload hx hb dX5_sets_39 (lv_at hl 3 rfl) ?_
      obtain ⟨r2, h1, hd⟩ := bp_e hd
      refine cVi_ (rest := [.int x5]) X (kX5_cellsOn l Dd Y ad F x4 r2 h1) (cwV 1 X.1.2.2.2.2 gX5_sets_X5_cellsOn rfl rfl rfl (by decide +kernel) ⟨Nat.le_of_ble_eq_true rfl, Nat.le_of_ble_eq_true rfl⟩) hW 0 5 rfl rfl rfl rfl hl.1 rfl (Nat.le_of_ble_eq_true rfl) dX5_sets_41 ⟨Nat.zero_le _, Nat.zero_le _⟩ (fun H locs hW => ?_)
      refine lv_icmp_ge (tgt := 73) hx hb dX5_sets_44 (by decide) (fun c3 => ?_) (fun c3 => ?_)
      · replace hd := if_t c3 hd
        cases hd
        exact kx0 _ _ _ rfl hW (lv_sub hl [0, 1, 2, 3] rfl)
      · replace hd := if_f c3 hd
        refine lv_aload_n hx hb dX5_sets_47 rfl (lv_at hl 0 rfl) ?_
        refine lv_iload hx hb dX5_sets_48 (lv_at hl 3 rfl) ?_
        refine lv_iload hx hb dX5_sets_50 (lv_at hl 4 rfl) ?_
        refine lv_iload_n hx hb dX5_sets_52 rfl (lv_at hl 1 rfl) ?_
        obtain ⟨r5, h4, hd⟩ := bp_e hd
        refine cVi_ (rest := []) X (kX5_tellsOf l Dd Y ad F x4 x5 x1 r5 h4) (cwV 3 X.1.2.2.2.2 gX5_sets_X5_tellsOf rfl rfl rfl (by decide +kernel) ⟨Nat.le_of_ble_eq_true rfl, Nat.le_of_ble_eq_true rfl⟩) hW 0 5 rfl rfl rfl rfl hl.1 rfl (Nat.le_of_ble_eq_true rfl) dX5_sets_53 ⟨Nat.zero_le _, Nat.zero_le _⟩ (fun H locs hW => ?_)
        refine lv_if_eq (tgt := 67) hx hb dX5_sets_56 (by decide) (fun c6 => ?_) (fun c6 => ?_)
        · replace hd := if_t c6 hd
          refine lv_iinc (v := x5 + 1) (lv' := [(5, .int (x5 + 1)), (0, .ref (ad 0)), (1, .int x1), (3, .int x3), (4, .int x4)]) hx hb dX5_sets_67 hl (k := 4) rfl rfl (by decide) rfl (fun ls hl => ?_)
          refine lv_goto (tgt := 36) hx hb dX5_sets_70 (by decide) ?_
          exact ih (x5 + 1) F z hd _ _ _ hW (lv_sub hl [1, 2, 3, 4, 0] rfl) kx0
        · replace hd := if_f c6 hd
          refine lv_aload_n hx hb dX5_sets_59 rfl (lv_at hl 0 rfl) ?_
          refine lv_iload hx hb dX5_sets_60 (lv_at hl 3 rfl) ?_
          refine lv_iload hx hb dX5_sets_62 (lv_at hl 4 rfl) ?_
          obtain ⟨F8, h7, hd⟩ := bp_e hd
          refine cVv_ (rest := []) X (kX5_writes0 l Dd Y ad F x4 x5 F8 h7) (cwV 2 X.1.2.2.2.2 gX5_sets_X5_writes0 rfl rfl rfl (by decide +kernel) ⟨Nat.le_of_ble_eq_true rfl, Nat.le_of_ble_eq_true rfl⟩) hW 0 5 rfl rfl rfl rfl hl.1 rfl (Nat.le_of_ble_eq_true rfl) dX5_sets_64 ⟨Nat.zero_le _, Nat.zero_le _⟩ (fun H locs hW => ?_)
          refine lv_iinc (v := x5 + 1) (lv' := [(5, .int (x5 + 1)), (0, .ref (ad 0)), (1, .int x1), (3, .int x3), (4, .int x4)]) hx hb dX5_sets_67 hl (k := 4) rfl rfl (by decide) rfl (fun ls hl => ?_)
          refine lv_goto (tgt := 36) hx hb dX5_sets_70 (by decide) ?_
          exact ih (x5 + 1) F8 z hd _ _ _ hW (lv_sub hl [1, 2, 3, 4, 0] rfl) kx0
  have K27 : ∀ (x1 : Int32) (x3 : Int32) (n : Nat) (x4 : Int32) (F : gF) (z : Nat × gF), lpX5_sets_27 x1 x3 n x4 F = some z → ∀ (H : Heap) (locs : List Loc) (ls : Array Slot), Wd Dd A s.heap (WM Y ad F) H locs → lv_has ls 6 [(0, .ref (ad 0)), (1, .int x1), (3, .int x3), (4, .int x4)] → (∀ (H : Heap) (locs : List Loc) (ls : Array Slot), z.1 = 0 → Wd Dd A s.heap (WM Y ad z.2) H locs → lv_has ls 6 [(3, .int x3)] → W p l e rmX5_sets s m args below meth c H locs 0 0 Q (F0 m 79 ls [])) → W p l e rmX5_sets s m args below meth c H locs 0 0 Q (F0 m 27 ls []) := by
    intro x1 x3 n
    induction n with
    | zero => intro x4 F z hd; cases hd
    | succ n ih =>
      intro x4 F z hd H locs ls hW hl kx0
      unfold lpX5_sets_27 at hd
      refine lv_iload hx hb dX5_sets_27 (lv_at hl 3 rfl) ?_
      refine lv_iconst (v := 5) hx hb dX5_sets_29 (by decide) ?_
      refine lv_icmp_gt (tgt := 79) hx hb dX5_sets_30 (by decide) (fun c9 => ?_) (fun c9 => ?_)
      · replace hd := if_t c9 hd
        cases hd
        exact kx0 _ _ _ rfl hW (lv_sub hl [2] rfl)
      · replace hd := if_f c9 hd
        refine lv_iconst (v := 0) hx hb dX5_sets_33 (by decide) ?_
        refine lv_istore (lv' := [(5, .int 0), (0, .ref (ad 0)), (1, .int x1), (3, .int x3), (4, .int x4)]) hx hb dX5_sets_34 hl (by decide) rfl (fun ls hl => ?_)
        obtain ⟨z36_9, hz36_9, hd⟩ := bp_e hd
        refine K36 x1 x3 x4 FU 0 F z36_9 hz36_9 _ _ _ hW (lv_sub hl [1, 2, 3, 4, 0] rfl) (fun H locs ls e36 hW hl => ?_)
        refine lv_iinc (v := x4 + 1) (lv' := [(4, .int (x4 + 1)), (0, .ref (ad 0)), (1, .int x1), (3, .int x3)]) hx hb dX5_sets_73 hl (k := 3) rfl rfl (by decide) rfl (fun ls hl => ?_)
        refine lv_goto (tgt := 27) hx hb dX5_sets_76 (by decide) ?_
        exact ih (x4 + 1) z36_9.2 z hd _ _ _ hW (lv_sub hl [1, 2, 3, 0] rfl) kx0
  refine lv_aload_n hx hb dX5_sets_0 rfl (lv_at hl 0 rfl) ?_
  refine lv_iload_n hx hb dX5_sets_1 rfl (lv_at hl 1 rfl) ?_
  obtain ⟨r12, h11, hd⟩ := bp_e hd
  refine cVi_ (rest := []) X (kX5_valueAt l Dd Y ad F x1 r12 h11) (cwV 1 X.1.2.2.2.2 gX5_sets_X5_valueAt rfl rfl rfl (by decide +kernel) ⟨Nat.le_of_ble_eq_true rfl, Nat.le_of_ble_eq_true rfl⟩) hW 0 5 rfl rfl rfl rfl hl.1 rfl (Nat.le_of_ble_eq_true rfl) dX5_sets_2 ⟨Nat.zero_le _, Nat.zero_le _⟩ (fun H locs hW => ?_)
  refine lv_istore_n (lv' := [(3, .int r12), (0, .ref (ad 0)), (1, .int x1), (2, .int x2)]) hx hb dX5_sets_5 rfl hl (by decide) rfl (fun ls hl => ?_)
  refine lv_aload_n hx hb dX5_sets_6 rfl (lv_at hl 1 rfl) ?_
  refine lv_bipush (v := 12) hx hb dX5_sets_7 (by decide) ?_
  refine lv_iload_n hx hb dX5_sets_9 rfl (lv_at hl 2 rfl) ?_
  refine lv_iadd hx hb dX5_sets_10 ?_
  refine lv_iload_n hx hb dX5_sets_11 rfl (lv_at hl 3 rfl) ?_
  obtain ⟨F14, h13, hd⟩ := bp_e hd
  refine cVv_ (rest := []) X (kX5_put0 l Dd Y ad F (12 + x1) x2 F14 h13) (cwV 2 X.1.2.2.2.2 gX5_sets_X5_put0 rfl rfl rfl (by decide +kernel) ⟨Nat.le_of_ble_eq_true rfl, Nat.le_of_ble_eq_true rfl⟩) hW 0 5 rfl rfl rfl rfl hl.1 rfl (Nat.le_of_ble_eq_true rfl) dX5_sets_12 ⟨Nat.zero_le _, Nat.zero_le _⟩ (fun H locs hW => ?_)
  refine lv_aload_n hx hb dX5_sets_15 rfl (lv_at hl 1 rfl) ?_
  refine lv_iconst (v := 1) hx hb dX5_sets_16 (by decide) ?_
  obtain ⟨r16, h15, hd⟩ := bp_e hd
  refine cVi_ (rest := []) X (kX5_get l Dd Y ad F14 1 r16 h15) (cwV 1 X.1.2.2.2.2 gX5_sets_X5_get rfl rfl rfl (by decide +kernel) ⟨Nat.le_of_ble_eq_true rfl, Nat.le_of_ble_eq_true rfl⟩) hW 0 5 rfl rfl rfl rfl hl.1 rfl (Nat.le_of_ble_eq_true rfl) dX5_sets_17 ⟨Nat.zero_le _, Nat.zero_le _⟩ (fun H locs hW => ?_)
  refine lv_iconst (v := 1) hx hb dX5_sets_20 (by decide) ?_
  refine lv_icmp_ne (tgt := 81) hx hb dX5_sets_21 (by decide) (fun c17 => ?_) (fun c17 => ?_)
  · replace hd := if_f c17 hd
    refine lv_aload_n hx hb dX5_sets_81 rfl (lv_at hl 1 rfl) ?_
    refine lv_bipush (v := 52) hx hb dX5_sets_82 (by decide) ?_
    refine lv_iload_n hx hb dX5_sets_84 rfl (lv_at hl 2 rfl) ?_
    refine lv_iadd hx hb dX5_sets_85 ?_
    refine lv_iconst (v := 1) hx hb dX5_sets_86 (by decide) ?_
    obtain ⟨F19, h18, hd⟩ := bp_e hd
    refine cVv_ (rest := []) X (kX5_put0 l Dd Y ad F14 (52 + x1) 1 F19 h18) (cwV 2 X.1.2.2.2.2 gX5_sets_X5_put0 rfl rfl rfl (by decide +kernel) ⟨Nat.le_of_ble_eq_true rfl, Nat.le_of_ble_eq_true rfl⟩) hW 0 5 rfl rfl rfl rfl hl.1 rfl (Nat.le_of_ble_eq_true rfl) dX5_sets_87 ⟨Nat.zero_le _, Nat.zero_le _⟩ (fun H locs hW => ?_)
    refine lv_aload_n hx hb dX5_sets_90 rfl (lv_at hl 1 rfl) ?_
    refine lv_iconst (v := 1) hx hb dX5_sets_91 (by decide) ?_
    obtain ⟨r21, h20, hd⟩ := bp_e hd
    refine cVi_ (rest := []) X (kX5_get l Dd Y ad F19 1 r21 h20) (cwV 1 X.1.2.2.2.2 gX5_sets_X5_get rfl rfl rfl (by decide +kernel) ⟨Nat.le_of_ble_eq_true rfl, Nat.le_of_ble_eq_true rfl⟩) hW 0 5 rfl rfl rfl rfl hl.1 rfl (Nat.le_of_ble_eq_true rfl) dX5_sets_92 ⟨Nat.zero_le _, Nat.zero_le _⟩ (fun H locs hW => ?_)
    refine lv_iconst (v := 2) hx hb dX5_sets_95 (by decide) ?_
    refine lv_icmp_ne (tgt := 115) hx hb dX5_sets_96 (by decide) (fun c22 => ?_) (fun c22 => ?_)
    · replace hd := if_f c22 hd
      refine lv_iload_n hx hb dX5_sets_115 rfl (lv_at hl 0 rfl) ?_
      obtain ⟨rfl, rfl⟩ := Prod.mk.inj (Option.some.inj hd)
      exact hQ _ _ _ _ rfl hW dX5_sets_116
    · replace hd := if_t c22 hd
      refine lv_aload_n hx hb dX5_sets_99 rfl (lv_at hl 1 rfl) ?_
      obtain ⟨r24, h23, hd⟩ := bp_e hd
      refine cVi_ (rest := []) X (kX5_waiting l Dd Y ad F19 r24 h23) (cwV 0 X.1.2.2.2.2 gX5_sets_X5_waiting rfl rfl rfl (by decide +kernel) ⟨Nat.le_of_ble_eq_true rfl, Nat.le_of_ble_eq_true rfl⟩) hW 0 5 rfl rfl rfl rfl hl.1 rfl (Nat.le_of_ble_eq_true rfl) dX5_sets_100 ⟨Nat.zero_le _, Nat.zero_le _⟩ (fun H locs hW => ?_)
      refine lv_aload_n hx hb dX5_sets_103 rfl (lv_at hl 1 rfl) ?_
      refine lv_iconst (v := 2) hx hb dX5_sets_104 (by decide) ?_
      obtain ⟨r26, h25, hd⟩ := bp_e hd
      refine cVi_ (rest := [.int r24]) X (kX5_get l Dd Y ad F19 2 r26 h25) (cwV 1 X.1.2.2.2.2 gX5_sets_X5_get rfl rfl rfl (by decide +kernel) ⟨Nat.le_of_ble_eq_true rfl, Nat.le_of_ble_eq_true rfl⟩) hW 0 5 rfl rfl rfl rfl hl.1 rfl (Nat.le_of_ble_eq_true rfl) dX5_sets_105 ⟨Nat.zero_le _, Nat.zero_le _⟩ (fun H locs hW => ?_)
      refine lv_icmp_le (tgt := 115) hx hb dX5_sets_108 (by decide) (fun c27 => ?_) (fun c27 => ?_)
      · replace hd := if_t c27 hd
        refine lv_iload_n hx hb dX5_sets_115 rfl (lv_at hl 0 rfl) ?_
        obtain ⟨rfl, rfl⟩ := Prod.mk.inj (Option.some.inj hd)
        exact hQ _ _ _ _ rfl hW dX5_sets_116
      · replace hd := if_f c27 hd
        refine lv_aload_n hx hb dX5_sets_111 rfl (lv_at hl 1 rfl) ?_
        obtain ⟨F29, h28, hd⟩ := bp_e hd
        refine cVv_ (rest := []) X (kX5_builds l Dd Y ad F19 F29 h28) (cwV 0 X.1.2.2.2.2 gX5_sets_X5_builds rfl rfl rfl (by decide +kernel) ⟨Nat.le_of_ble_eq_true rfl, Nat.le_of_ble_eq_true rfl⟩) hW 0 5 rfl rfl rfl rfl hl.1 rfl (Nat.le_of_ble_eq_true rfl) dX5_sets_112 ⟨Nat.zero_le _, Nat.zero_le _⟩ (fun H locs hW => ?_)
        refine lv_iload_n hx hb dX5_sets_115 rfl (lv_at hl 0 rfl) ?_
        obtain ⟨rfl, rfl⟩ := Prod.mk.inj (Option.some.inj hd)
        exact hQ _ _ _ _ rfl hW dX5_sets_116
  · replace hd := if_t c17 hd
    refine lv_iconst (v := 1) hx hb dX5_sets_24 (by decide) ?_
    refine lv_istore (lv' := [(4, .int 1), (3, .int r12), (0, .ref (ad 0)), (1, .int x1), (2, .int x2)]) hx hb dX5_sets_25 hl (by decide) rfl (fun ls hl => ?_)
    obtain ⟨z27_29, hz27_29, hd⟩ := bp_e hd
    refine K27 x1 r12 FU 1 F14 z27_29 hz27_29 _ _ _ hW (lv_sub hl [2, 3, 1, 0] rfl) (fun H locs ls e27 hW hl => ?_)
    refine lv_iload_n hx hb dX5_sets_79 rfl (lv_at hl 0 rfl) ?_
    obtain ⟨rfl, rfl⟩ := Prod.mk.inj (Option.some.inj hd)
    exact hQ _ _ _ _ rfl hW dX5_sets_80
abbrev rmX5_levelOf : Room := { frames := 0, cells := 0, slots := 0, locals := 0 }
set_option maxRecDepth 100000 in
set_option maxHeartbeats 4000000 in
theorem kX5_levelOf (l : Launch) (Dd : va_G) (Y : yT) (ad : Nat → Nat) (F : gF) (x1 : Int32) (r : Int32) (hd : dnX5_levelOf F x1 = some r) : MG l yX5_levelOf wsX5_levelOf rmX5_levelOf Dd Y [.ref (ad 0), .int x1] (WM Y ad F) (WM Y ad F) (some (.int r)) := by
  refine MGi (cc := cX5_levelOf) (maxL := 3) (ty := .int) (by decide) rfl (Nat.le_of_ble_eq_true rfl) (fun {p e s m args below meth c A} ls Q X hW hl hQ => ?_)
  have hx := X.x
  have hb := X.b
  have hl : lv_has ls 3 [(0, .ref (ad 0)), (1, .int x1)] := hl
  unfold dnX5_levelOf at hd
  have K2 : ∀ (F : gF) (x1 : Int32) (n : Nat) (x2 : Int32) (z : Nat × Int32), lpX5_levelOf_2 F x1 n x2 = some z → ∀ (H : Heap) (locs : List Loc) (ls : Array Slot), Wd Dd A s.heap (WM Y ad F) H locs → lv_has ls 3 [(1, .int x1), (2, .int x2)] → (∀ (H : Heap) (locs : List Loc) (ls : Array Slot), z.1 = 0 → Wd Dd A s.heap (WM Y ad F) H locs → lv_has ls 3 [(2, .int z.2)] → W p l e rmX5_levelOf s m args below meth c H locs 0 0 Q (F0 m 15 ls [])) → W p l e rmX5_levelOf s m args below meth c H locs 0 0 Q (F0 m 2 ls []) := by
    intro F x1 n
    induction n with
    | zero => intro x2 z hd; cases hd
    | succ n ih =>
      intro x2 z hd H locs ls hW hl kx0
      unfold lpX5_levelOf_2 at hd
      refine lv_iconst (v := 2) hx hb dX5_levelOf_2 (by decide) ?_
      refine lv_iload_n hx hb dX5_levelOf_3 rfl (lv_at hl 1 rfl) ?_
      refine lv_ishl hx hb dX5_levelOf_4 ?_
      refine lv_iload_n hx hb dX5_levelOf_5 rfl (lv_at hl 0 rfl) ?_
      refine lv_icmp_gt (tgt := 15) hx hb dX5_levelOf_6 (by decide) (fun c1 => ?_) (fun c1 => ?_)
      · replace hd := if_t c1 hd
        cases hd
        exact kx0 _ _ _ rfl hW (lv_sub hl [1] rfl)
      · replace hd := if_f c1 hd
        refine lv_iinc (v := x2 + 1) (lv' := [(2, .int (x2 + 1)), (1, .int x1)]) hx hb dX5_levelOf_9 hl (k := 1) rfl rfl (by decide) rfl (fun ls hl => ?_)
        refine lv_goto (tgt := 2) hx hb dX5_levelOf_12 (by decide) ?_
        exact ih (x2 + 1) z hd _ _ _ hW (lv_sub hl [1, 0] rfl) kx0
  refine lv_iconst (v := 0) hx hb dX5_levelOf_0 (by decide) ?_
  refine lv_istore_n (lv' := [(2, .int 0), (0, .ref (ad 0)), (1, .int x1)]) hx hb dX5_levelOf_1 rfl hl (by decide) rfl (fun ls hl => ?_)
  obtain ⟨z2_1, hz2_1, hd⟩ := bp_e hd
  refine K2 F x1 FU 0 z2_1 hz2_1 _ _ _ hW (lv_sub hl [2, 0] rfl) (fun H locs ls e2 hW hl => ?_)
  refine lv_iload_n hx hb dX5_levelOf_15 rfl (lv_at hl 0 rfl) ?_
  have hd := Option.some.inj hd
  subst hd
  exact hQ _ _ _ _ rfl hW dX5_levelOf_16
abbrev rmX5_runEnd : Room := { frames := 2, cells := 0, slots := 0, locals := 42 }
set_option maxRecDepth 100000 in
set_option maxHeartbeats 4000000 in
theorem kX5_runEnd (l : Launch) (Dd : va_G) (Y : yT) (ad : Nat → Nat) (F : gF) (x1 : Int32) (x2 : Int32) (r : Int32) (hd : dnX5_runEnd F x1 x2 = some r) : MG l yX5_runEnd wsX5_runEnd rmX5_runEnd Dd Y [.ref (ad 0), .int x1, .int x2] (WM Y ad F) (WM Y ad F) (some (.int r)) := by
  refine MGi (cc := cX5_runEnd) (maxL := 4) (ty := .int) (by decide) rfl (Nat.le_of_ble_eq_true rfl) (fun {p e s m args below meth c A} ls Q X hW hl hQ => ?_)
  have hx := X.x
  have hb := X.b
  have hl : lv_has ls 4 [(0, .ref (ad 0)), (1, .int x1), (2, .int x2)] := hl
  unfold dnX5_runEnd at hd
  have K2 : ∀ (F : gF) (x2 : Int32) (n : Nat) (x3 : Int32) (z : Nat × Int32), lpX5_runEnd_2 F x2 n x3 = some z → ∀ (H : Heap) (locs : List Loc) (ls : Array Slot), Wd Dd A s.heap (WM Y ad F) H locs → lv_has ls 4 [(0, .ref (ad 0)), (2, .int x2), (3, .int x3)] → (∀ (H : Heap) (locs : List Loc) (ls : Array Slot), z.1 = 0 → Wd Dd A s.heap (WM Y ad F) H locs → lv_has ls 4 [(3, .int z.2)] → W p l e rmX5_runEnd s m args below meth c H locs 0 0 Q (F0 m 23 ls [])) → W p l e rmX5_runEnd s m args below meth c H locs 0 0 Q (F0 m 2 ls []) := by
    intro F x2 n
    induction n with
    | zero => intro x3 z hd; cases hd
    | succ n ih =>
      intro x3 z hd H locs ls hW hl kx0
      unfold lpX5_runEnd_2 at hd
      refine lv_iload_n hx hb dX5_runEnd_2 rfl (lv_at hl 2 rfl) ?_
      refine lv_iload_n hx hb dX5_runEnd_3 rfl (lv_at hl 1 rfl) ?_
      refine lv_icmp_ge (tgt := 23) hx hb dX5_runEnd_4 (by decide) (fun c1 => ?_) (fun c1 => ?_)
      · replace hd := if_t c1 hd
        cases hd
        exact kx0 _ _ _ rfl hW (lv_sub hl [2] rfl)
      · replace hd := if_f c1 hd
        refine lv_aload_n hx hb dX5_runEnd_7 rfl (lv_at hl 0 rfl) ?_
        refine lv_iload_n hx hb dX5_runEnd_8 rfl (lv_at hl 2 rfl) ?_
        refine lv_iconst (v := 1) hx hb dX5_runEnd_9 (by decide) ?_
        refine lv_iadd hx hb dX5_runEnd_10 ?_
        obtain ⟨r3, h2, hd⟩ := bp_e hd
        refine cVi_ (rest := []) X (kX5_isWaiting l Dd Y ad F (x3 + 1) r3 h2) (cwV 1 X.1.2.2.2.2 gX5_runEnd_X5_isWaiting rfl rfl rfl (by decide +kernel) ⟨Nat.le_of_ble_eq_true rfl, Nat.le_of_ble_eq_true rfl⟩) hW 0 5 rfl rfl rfl rfl hl.1 rfl (Nat.le_of_ble_eq_true rfl) dX5_runEnd_11 ⟨Nat.zero_le _, Nat.zero_le _⟩ (fun H locs hW => ?_)
        refine lv_if_ne (tgt := 23) hx hb dX5_runEnd_14 (by decide) (fun c4 => ?_) (fun c4 => ?_)
        · replace hd := if_f c4 hd
          cases hd
          exact kx0 _ _ _ rfl hW (lv_sub hl [2] rfl)
        · replace hd := if_t c4 hd
          refine lv_iinc (v := x3 + 1) (lv' := [(3, .int (x3 + 1)), (0, .ref (ad 0)), (2, .int x2)]) hx hb dX5_runEnd_17 hl (k := 2) rfl rfl (by decide) rfl (fun ls hl => ?_)
          refine lv_goto (tgt := 2) hx hb dX5_runEnd_20 (by decide) ?_
          exact ih (x3 + 1) z hd _ _ _ hW (lv_sub hl [1, 2, 0] rfl) kx0
  refine lv_iload_n hx hb dX5_runEnd_0 rfl (lv_at hl 1 rfl) ?_
  refine lv_istore_n (lv' := [(3, .int x1), (0, .ref (ad 0)), (1, .int x1), (2, .int x2)]) hx hb dX5_runEnd_1 rfl hl (by decide) rfl (fun ls hl => ?_)
  obtain ⟨z2_4, hz2_4, hd⟩ := bp_e hd
  refine K2 F x2 FU x1 z2_4 hz2_4 _ _ _ hW (lv_sub hl [1, 3, 0] rfl) (fun H locs ls e2 hW hl => ?_)
  refine lv_iload_n hx hb dX5_runEnd_23 rfl (lv_at hl 0 rfl) ?_
  have hd := Option.some.inj hd
  subst hd
  exact hQ _ _ _ _ rfl hW dX5_runEnd_24
abbrev rmX5_looksIn : Room := { frames := 3, cells := 0, slots := 0, locals := 65 }
set_option maxRecDepth 100000 in
set_option maxHeartbeats 4000000 in
theorem kX5_looksIn (l : Launch) (Dd : va_G) (Y : yT) (ad : Nat → Nat) (F : gF) (x1 : Int32) (x2 : Int32) (r : Int32) (hd : dnX5_looksIn F x1 x2 = some r) : MG l yX5_looksIn wsX5_looksIn rmX5_looksIn Dd Y [.ref (ad 0), .int x1, .int x2] (WM Y ad F) (WM Y ad F) (some (.int r)) := by
  refine MGi (cc := cX5_looksIn) (maxL := 7) (ty := .int) (by decide) rfl (Nat.le_of_ble_eq_true rfl) (fun {p e s m args below meth c A} ls Q X hW hl hQ => ?_)
  have hx := X.x
  have hb := X.b
  have hl : lv_has ls 7 [(0, .ref (ad 0)), (1, .int x1), (2, .int x2)] := hl
  unfold dnX5_looksIn at hd
  have K5 : ∀ (F : gF) (x2 : Int32) (n : Nat) (x3 : Int32) (x4 : Int32) (z : Nat × Int32), lpX5_looksIn_5 F x2 n x3 x4 = some z → ∀ (H : Heap) (locs : List Loc) (ls : Array Slot), Wd Dd A s.heap (WM Y ad F) H locs → lv_has ls 7 [(0, .ref (ad 0)), (2, .int x2), (3, .int x3), (4, .int x4)] → (∀ (H : Heap) (locs : List Loc) (ls : Array Slot), z.1 = 0 → Wd Dd A s.heap (WM Y ad F) H locs → lv_has ls 7 [(3, .int z.2)] → W p l e rmX5_looksIn s m args below meth c H locs 0 0 Q (F0 m 73 ls [])) → W p l e rmX5_looksIn s m args below meth c H locs 0 0 Q (F0 m 5 ls []) := by
    intro F x2 n
    induction n with
    | zero => intro x3 x4 z hd; cases hd
    | succ n ih =>
      intro x3 x4 z hd H locs ls hW hl kx0
      unfold lpX5_looksIn_5 at hd
      refine lv_iload hx hb dX5_looksIn_5 (lv_at hl 3 rfl) ?_
      refine lv_iload_n hx hb dX5_looksIn_7 rfl (lv_at hl 1 rfl) ?_
      refine lv_icmp_gt (tgt := 73) hx hb dX5_looksIn_8 (by decide) (fun c1 => ?_) (fun c1 => ?_)
      · replace hd := if_t c1 hd
        cases hd
        exact kx0 _ _ _ rfl hW (lv_sub hl [2] rfl)
      · replace hd := if_f c1 hd
        refine lv_aload_n hx hb dX5_looksIn_11 rfl (lv_at hl 0 rfl) ?_
        refine lv_iload hx hb dX5_looksIn_12 (lv_at hl 3 rfl) ?_
        obtain ⟨r3, h2, hd⟩ := bp_e hd
        refine cVi_ (rest := []) X (kX5_isWaiting l Dd Y ad F x4 r3 h2) (cwV 1 X.1.2.2.2.2 gX5_looksIn_X5_isWaiting rfl rfl rfl (by decide +kernel) ⟨Nat.le_of_ble_eq_true rfl, Nat.le_of_ble_eq_true rfl⟩) hW 0 5 rfl rfl rfl rfl hl.1 rfl (Nat.le_of_ble_eq_true rfl) dX5_looksIn_14 ⟨Nat.zero_le _, Nat.zero_le _⟩ (fun H locs hW => ?_)
        refine lv_if_eq (tgt := 25) hx hb dX5_looksIn_17 (by decide) (fun c4 => ?_) (fun c4 => ?_)
        · replace hd := if_t c4 hd
          refine lv_aload_n hx hb dX5_looksIn_25 rfl (lv_at hl 0 rfl) ?_
          refine lv_iload hx hb dX5_looksIn_26 (lv_at hl 3 rfl) ?_
          refine lv_iload_n hx hb dX5_looksIn_28 rfl (lv_at hl 1 rfl) ?_
          obtain ⟨r6, h5, hd⟩ := bp_e hd
          refine cVi_ (rest := []) X (kX5_runEnd l Dd Y ad F x4 x2 r6 h5) (cwV 2 X.1.2.2.2.2 gX5_looksIn_X5_runEnd rfl rfl rfl (by decide +kernel) ⟨Nat.le_of_ble_eq_true rfl, Nat.le_of_ble_eq_true rfl⟩) hW 0 5 rfl rfl rfl rfl hl.1 rfl (Nat.le_of_ble_eq_true rfl) dX5_looksIn_29 ⟨Nat.zero_le _, Nat.zero_le _⟩ (fun H locs hW => ?_)
          refine lv_istore (lv' := [(5, .int r6), (0, .ref (ad 0)), (2, .int x2), (3, .int x3), (4, .int x4)]) hx hb dX5_looksIn_32 hl (by decide) rfl (fun ls hl => ?_)
          refine lv_iload hx hb dX5_looksIn_34 (lv_at hl 0 rfl) ?_
          refine lv_iload hx hb dX5_looksIn_36 (lv_at hl 4 rfl) ?_
          refine lv_isub hx hb dX5_looksIn_38 ?_
          refine lv_iconst (v := 1) hx hb dX5_looksIn_39 (by decide) ?_
          refine lv_iadd hx hb dX5_looksIn_40 ?_
          refine lv_istore (lv' := [(6, .int ((r6 - x4) + 1)), (5, .int r6), (0, .ref (ad 0)), (2, .int x2), (3, .int x3), (4, .int x4)]) hx hb dX5_looksIn_41 hl (by decide) rfl (fun ls hl => ?_)
          refine lv_iload_n hx hb dX5_looksIn_43 rfl (lv_at hl 4 rfl) ?_
          refine lv_iconst (v := 1) hx hb dX5_looksIn_44 (by decide) ?_
          refine lv_aload_n hx hb dX5_looksIn_45 rfl (lv_at hl 2 rfl) ?_
          refine lv_iload hx hb dX5_looksIn_46 (lv_at hl 0 rfl) ?_
          obtain ⟨r8, h7, hd⟩ := bp_e hd
          refine cVi_ (rest := [.int 1, .int x3]) X (kX5_levelOf l Dd Y ad F ((r6 - x4) + 1) r8 h7) (cwV 1 X.1.2.2.2.2 gX5_looksIn_X5_levelOf rfl rfl rfl (by decide +kernel) ⟨Nat.le_of_ble_eq_true rfl, Nat.le_of_ble_eq_true rfl⟩) hW 0 5 rfl rfl rfl rfl hl.1 rfl (Nat.le_of_ble_eq_true rfl) dX5_looksIn_48 ⟨Nat.zero_le _, Nat.zero_le _⟩ (fun H locs hW => ?_)
          refine lv_ishl hx hb dX5_looksIn_51 ?_
          refine lv_iload hx hb dX5_looksIn_52 (lv_at hl 0 rfl) ?_
          refine lv_icmp_ne (tgt := 61) hx hb dX5_looksIn_54 (by decide) (fun c9 => ?_) (fun c9 => ?_)
          · replace hd := if_f c9 hd
            refine lv_iconst (v := 2) hx hb dX5_looksIn_61 (by decide) ?_
            refine lv_iadd hx hb dX5_looksIn_62 ?_
            refine lv_istore_n (lv' := [(3, .int (x3 + 2)), (6, .int ((r6 - x4) + 1)), (5, .int r6), (0, .ref (ad 0)), (2, .int x2), (4, .int x4)]) hx hb dX5_looksIn_63 rfl hl (by decide) rfl (fun ls hl => ?_)
            refine lv_iload hx hb dX5_looksIn_64 (lv_at hl 2 rfl) ?_
            refine lv_iconst (v := 1) hx hb dX5_looksIn_66 (by decide) ?_
            refine lv_iadd hx hb dX5_looksIn_67 ?_
            refine lv_istore (lv' := [(4, .int (r6 + 1)), (3, .int (x3 + 2)), (6, .int ((r6 - x4) + 1)), (5, .int r6), (0, .ref (ad 0)), (2, .int x2)]) hx hb dX5_looksIn_68 hl (by decide) rfl (fun ls hl => ?_)
            refine lv_goto (tgt := 5) hx hb dX5_looksIn_70 (by decide) ?_
            exact ih (x3 + 2) (r6 + 1) z hd _ _ _ hW (lv_sub hl [4, 5, 1, 0] rfl) kx0
          · replace hd := if_t c9 hd
            refine lv_iconst (v := 1) hx hb dX5_looksIn_57 (by decide) ?_
            refine lv_goto (tgt := 62) hx hb dX5_looksIn_58 (by decide) ?_
            refine lv_iadd hx hb dX5_looksIn_62 ?_
            refine lv_istore_n (lv' := [(3, .int (x3 + 1)), (6, .int ((r6 - x4) + 1)), (5, .int r6), (0, .ref (ad 0)), (2, .int x2), (4, .int x4)]) hx hb dX5_looksIn_63 rfl hl (by decide) rfl (fun ls hl => ?_)
            refine lv_iload hx hb dX5_looksIn_64 (lv_at hl 2 rfl) ?_
            refine lv_iconst (v := 1) hx hb dX5_looksIn_66 (by decide) ?_
            refine lv_iadd hx hb dX5_looksIn_67 ?_
            refine lv_istore (lv' := [(4, .int (r6 + 1)), (3, .int (x3 + 1)), (6, .int ((r6 - x4) + 1)), (5, .int r6), (0, .ref (ad 0)), (2, .int x2)]) hx hb dX5_looksIn_68 hl (by decide) rfl (fun ls hl => ?_)
            refine lv_goto (tgt := 5) hx hb dX5_looksIn_70 (by decide) ?_
            exact ih (x3 + 1) (r6 + 1) z hd _ _ _ hW (lv_sub hl [4, 5, 1, 0] rfl) kx0
        · replace hd := if_f c4 hd
          refine lv_iload hx hb dX5_looksIn_20 (lv_at hl 3 rfl) ?_
          refine lv_goto (tgt := 32) hx hb dX5_looksIn_22 (by decide) ?_
          refine lv_istore (lv' := [(5, .int x4), (0, .ref (ad 0)), (2, .int x2), (3, .int x3), (4, .int x4)]) hx hb dX5_looksIn_32 hl (by decide) rfl (fun ls hl => ?_)
          refine lv_iload hx hb dX5_looksIn_34 (lv_at hl 0 rfl) ?_
          refine lv_iload hx hb dX5_looksIn_36 (lv_at hl 4 rfl) ?_
          refine lv_isub hx hb dX5_looksIn_38 ?_
          refine lv_iconst (v := 1) hx hb dX5_looksIn_39 (by decide) ?_
          refine lv_iadd hx hb dX5_looksIn_40 ?_
          refine lv_istore (lv' := [(6, .int ((x4 - x4) + 1)), (5, .int x4), (0, .ref (ad 0)), (2, .int x2), (3, .int x3), (4, .int x4)]) hx hb dX5_looksIn_41 hl (by decide) rfl (fun ls hl => ?_)
          refine lv_iload_n hx hb dX5_looksIn_43 rfl (lv_at hl 4 rfl) ?_
          refine lv_iconst (v := 1) hx hb dX5_looksIn_44 (by decide) ?_
          refine lv_aload_n hx hb dX5_looksIn_45 rfl (lv_at hl 2 rfl) ?_
          refine lv_iload hx hb dX5_looksIn_46 (lv_at hl 0 rfl) ?_
          obtain ⟨r11, h10, hd⟩ := bp_e hd
          refine cVi_ (rest := [.int 1, .int x3]) X (kX5_levelOf l Dd Y ad F ((x4 - x4) + 1) r11 h10) (cwV 1 X.1.2.2.2.2 gX5_looksIn_X5_levelOf rfl rfl rfl (by decide +kernel) ⟨Nat.le_of_ble_eq_true rfl, Nat.le_of_ble_eq_true rfl⟩) hW 0 5 rfl rfl rfl rfl hl.1 rfl (Nat.le_of_ble_eq_true rfl) dX5_looksIn_48 ⟨Nat.zero_le _, Nat.zero_le _⟩ (fun H locs hW => ?_)
          refine lv_ishl hx hb dX5_looksIn_51 ?_
          refine lv_iload hx hb dX5_looksIn_52 (lv_at hl 0 rfl) ?_
          refine lv_icmp_ne (tgt := 61) hx hb dX5_looksIn_54 (by decide) (fun c12 => ?_) (fun c12 => ?_)
          · replace hd := if_f c12 hd
            refine lv_iconst (v := 2) hx hb dX5_looksIn_61 (by decide) ?_
            refine lv_iadd hx hb dX5_looksIn_62 ?_
            refine lv_istore_n (lv' := [(3, .int (x3 + 2)), (6, .int ((x4 - x4) + 1)), (5, .int x4), (0, .ref (ad 0)), (2, .int x2), (4, .int x4)]) hx hb dX5_looksIn_63 rfl hl (by decide) rfl (fun ls hl => ?_)
            refine lv_iload hx hb dX5_looksIn_64 (lv_at hl 2 rfl) ?_
            refine lv_iconst (v := 1) hx hb dX5_looksIn_66 (by decide) ?_
            refine lv_iadd hx hb dX5_looksIn_67 ?_
            refine lv_istore (lv' := [(4, .int (x4 + 1)), (3, .int (x3 + 2)), (6, .int ((x4 - x4) + 1)), (5, .int x4), (0, .ref (ad 0)), (2, .int x2)]) hx hb dX5_looksIn_68 hl (by decide) rfl (fun ls hl => ?_)
            refine lv_goto (tgt := 5) hx hb dX5_looksIn_70 (by decide) ?_
            exact ih (x3 + 2) (x4 + 1) z hd _ _ _ hW (lv_sub hl [4, 5, 1, 0] rfl) kx0
          · replace hd := if_t c12 hd
            refine lv_iconst (v := 1) hx hb dX5_looksIn_57 (by decide) ?_
            refine lv_goto (tgt := 62) hx hb dX5_looksIn_58 (by decide) ?_
            refine lv_iadd hx hb dX5_looksIn_62 ?_
            refine lv_istore_n (lv' := [(3, .int (x3 + 1)), (6, .int ((x4 - x4) + 1)), (5, .int x4), (0, .ref (ad 0)), (2, .int x2), (4, .int x4)]) hx hb dX5_looksIn_63 rfl hl (by decide) rfl (fun ls hl => ?_)
            refine lv_iload hx hb dX5_looksIn_64 (lv_at hl 2 rfl) ?_
            refine lv_iconst (v := 1) hx hb dX5_looksIn_66 (by decide) ?_
            refine lv_iadd hx hb dX5_looksIn_67 ?_
            refine lv_istore (lv' := [(4, .int (x4 + 1)), (3, .int (x3 + 1)), (6, .int ((x4 - x4) + 1)), (5, .int x4), (0, .ref (ad 0)), (2, .int x2)]) hx hb dX5_looksIn_68 hl (by decide) rfl (fun ls hl => ?_)
            refine lv_goto (tgt := 5) hx hb dX5_looksIn_70 (by decide) ?_
            exact ih (x3 + 1) (x4 + 1) z hd _ _ _ hW (lv_sub hl [4, 5, 1, 0] rfl) kx0
  refine lv_iconst (v := 0) hx hb dX5_looksIn_0 (by decide) ?_
  refine lv_istore_n (lv' := [(3, .int 0), (0, .ref (ad 0)), (1, .int x1), (2, .int x2)]) hx hb dX5_looksIn_1 rfl hl (by decide) rfl (fun ls hl => ?_)
  refine lv_iload_n hx hb dX5_looksIn_2 rfl (lv_at hl 2 rfl) ?_
  refine lv_istore (lv' := [(4, .int x1), (3, .int 0), (0, .ref (ad 0)), (1, .int x1), (2, .int x2)]) hx hb dX5_looksIn_3 hl (by decide) rfl (fun ls hl => ?_)
  obtain ⟨z5_12, hz5_12, hd⟩ := bp_e hd
  refine K5 F x2 FU 0 x1 z5_12 hz5_12 _ _ _ hW (lv_sub hl [2, 4, 1, 0] rfl) (fun H locs ls e5 hW hl => ?_)
  refine lv_iload_n hx hb dX5_looksIn_73 rfl (lv_at hl 0 rfl) ?_
  have hd := Option.some.inj hd
  subst hd
  exact hQ _ _ _ _ rfl hW dX5_looksIn_74
abbrev rmX5_toldBy : Room := { frames := 1, cells := 0, slots := 0, locals := 21 }
set_option maxRecDepth 100000 in
set_option maxHeartbeats 4000000 in
theorem kX5_toldBy (l : Launch) (Dd : va_G) (Y : yT) (ad : Nat → Nat) (F : gF) (x1 : Int32) (x2 : Int32) (r : Int32) (hd : dnX5_toldBy F x1 x2 = some r) : MG l yX5_toldBy wsX5_toldBy rmX5_toldBy Dd Y [.ref (ad 0), .int x1, .int x2] (WM Y ad F) (WM Y ad F) (some (.int r)) := by
  refine MGi (cc := cX5_toldBy) (maxL := 3) (ty := .int) (by decide) rfl (Nat.le_of_ble_eq_true rfl) (fun {p e s m args below meth c A} ls Q X hW hl hQ => ?_)
  have hx := X.x
  have hb := X.b
  have hl : lv_has ls 3 [(0, .ref (ad 0)), (1, .int x1), (2, .int x2)] := hl
  unfold dnX5_toldBy at hd
  refine lv_iload_n hx hb dX5_toldBy_0 rfl (lv_at hl 1 rfl) ?_
  refine lv_if_ne (tgt := 8) hx hb dX5_toldBy_1 (by decide) (fun c1 => ?_) (fun c1 => ?_)
  · replace hd := if_f c1 hd
    refine lv_aload_n hx hb dX5_toldBy_8 rfl (lv_at hl 0 rfl) ?_
    refine lv_iload_n hx hb dX5_toldBy_9 rfl (lv_at hl 1 rfl) ?_
    refine lv_iload_n hx hb dX5_toldBy_10 rfl (lv_at hl 2 rfl) ?_
    obtain ⟨r3, h2, hd⟩ := bp_e hd
    refine cSi_ (rest := [.ref (ad 0)]) X (kX5_cellAt l Dd Y x1 x2 r3 h2) (va_cwS 2 X.1.2.2.2.2 gX5_toldBy_X5_cellAt rfl rfl rfl (by decide +kernel) ⟨Nat.le_of_ble_eq_true rfl, Nat.le_of_ble_eq_true rfl⟩) hW rfl hl.1 rfl (Nat.le_of_ble_eq_true rfl) dX5_toldBy_11 ⟨Nat.zero_le _, Nat.zero_le _⟩ (fun H locs hW => ?_)
    obtain ⟨r5, h4, hd⟩ := bp_e hd
    refine cVi_ (rest := []) X (kX5_get l Dd Y ad F r3 r5 h4) (cwV 1 X.1.2.2.2.2 gX5_toldBy_X5_get rfl rfl rfl (by decide +kernel) ⟨Nat.le_of_ble_eq_true rfl, Nat.le_of_ble_eq_true rfl⟩) hW 0 5 rfl rfl rfl rfl hl.1 rfl (Nat.le_of_ble_eq_true rfl) dX5_toldBy_14 ⟨Nat.zero_le _, Nat.zero_le _⟩ (fun H locs hW => ?_)
    have hd := Option.some.inj hd
    subst hd
    exact hQ _ _ _ _ rfl hW dX5_toldBy_17
  · replace hd := if_t c1 hd
    refine lv_iload_n hx hb dX5_toldBy_4 rfl (lv_at hl 2 rfl) ?_
    refine lv_goto (tgt := 17) hx hb dX5_toldBy_5 (by decide) ?_
    have hd := Option.some.inj hd
    subst hd
    exact hQ _ _ _ _ rfl hW dX5_toldBy_17
abbrev rmX5_lesser : Room := { frames := 2, cells := 0, slots := 0, locals := 42 }
set_option maxRecDepth 100000 in
set_option maxHeartbeats 4000000 in
theorem kX5_lesser (l : Launch) (Dd : va_G) (Y : yT) (ad : Nat → Nat) (F : gF) (x1 : Int32) (x2 : Int32) (r : Int32) (hd : dnX5_lesser F x1 x2 = some r) : MG l yX5_lesser wsX5_lesser rmX5_lesser Dd Y [.ref (ad 0), .int x1, .int x2] (WM Y ad F) (WM Y ad F) (some (.int r)) := by
  refine MGi (cc := cX5_lesser) (maxL := 3) (ty := .int) (by decide) rfl (Nat.le_of_ble_eq_true rfl) (fun {p e s m args below meth c A} ls Q X hW hl hQ => ?_)
  have hx := X.x
  have hb := X.b
  have hl : lv_has ls 3 [(0, .ref (ad 0)), (1, .int x1), (2, .int x2)] := hl
  unfold dnX5_lesser at hd
  refine lv_iload_n hx hb dX5_lesser_0 rfl (lv_at hl 1 rfl) ?_
  refine lv_iconst (v := (-1)) hx hb dX5_lesser_1 (by decide) ?_
  refine lv_icmp_eq (tgt := 18) hx hb dX5_lesser_2 (by decide) (fun c1 => ?_) (fun c1 => ?_)
  · replace hd := if_t c1 hd
    refine lv_iload_n hx hb dX5_lesser_18 rfl (lv_at hl 2 rfl) ?_
    refine lv_goto (tgt := 23) hx hb dX5_lesser_19 (by decide) ?_
    have hd := Option.some.inj hd
    subst hd
    exact hQ _ _ _ _ rfl hW dX5_lesser_23
  · replace hd := if_f c1 hd
    refine lv_aload_n hx hb dX5_lesser_5 rfl (lv_at hl 0 rfl) ?_
    refine lv_iload_n hx hb dX5_lesser_6 rfl (lv_at hl 2 rfl) ?_
    obtain ⟨r3, h2, hd⟩ := bp_e hd
    refine cVi_ (rest := []) X (kX5_valueAt l Dd Y ad F x2 r3 h2) (cwV 1 X.1.2.2.2.2 gX5_lesser_X5_valueAt rfl rfl rfl (by decide +kernel) ⟨Nat.le_of_ble_eq_true rfl, Nat.le_of_ble_eq_true rfl⟩) hW 0 5 rfl rfl rfl rfl hl.1 rfl (Nat.le_of_ble_eq_true rfl) dX5_lesser_7 ⟨Nat.zero_le _, Nat.zero_le _⟩ (fun H locs hW => ?_)
    refine lv_aload_n hx hb dX5_lesser_10 rfl (lv_at hl 0 rfl) ?_
    refine lv_iload_n hx hb dX5_lesser_11 rfl (lv_at hl 1 rfl) ?_
    obtain ⟨r5, h4, hd⟩ := bp_e hd
    refine cVi_ (rest := [.int r3]) X (kX5_valueAt l Dd Y ad F x1 r5 h4) (cwV 1 X.1.2.2.2.2 gX5_lesser_X5_valueAt rfl rfl rfl (by decide +kernel) ⟨Nat.le_of_ble_eq_true rfl, Nat.le_of_ble_eq_true rfl⟩) hW 0 5 rfl rfl rfl rfl hl.1 rfl (Nat.le_of_ble_eq_true rfl) dX5_lesser_12 ⟨Nat.zero_le _, Nat.zero_le _⟩ (fun H locs hW => ?_)
    refine lv_icmp_ge (tgt := 22) hx hb dX5_lesser_15 (by decide) (fun c6 => ?_) (fun c6 => ?_)
    · replace hd := if_t c6 hd
      refine lv_iload_n hx hb dX5_lesser_22 rfl (lv_at hl 1 rfl) ?_
      have hd := Option.some.inj hd
      subst hd
      exact hQ _ _ _ _ rfl hW dX5_lesser_23
    · replace hd := if_f c6 hd
      refine lv_iload_n hx hb dX5_lesser_18 rfl (lv_at hl 2 rfl) ?_
      refine lv_goto (tgt := 23) hx hb dX5_lesser_19 (by decide) ?_
      have hd := Option.some.inj hd
      subst hd
      exact hQ _ _ _ _ rfl hW dX5_lesser_23
abbrev rmX5_asks : Room := { frames := 5, cells := 0, slots := 0, locals := 110 }
set_option maxRecDepth 100000 in
set_option maxHeartbeats 4000000 in
theorem kX5_asks (l : Launch) (Dd : va_G) (Y : yT) (ad : Nat → Nat) (F : gF) (x1 : Int32) (x2 : Int32) (r : Int32) (F' : gF) (hd : dnX5_asks F x1 x2 = some (r, F')) : MG l yX5_asks wsX5_asks rmX5_asks Dd Y [.ref (ad 0), .int x1, .int x2] (WM Y ad F) (WM Y ad F') (some (.int r)) := by
  refine MGi (cc := cX5_asks) (maxL := 7) (ty := .int) (by decide) rfl (Nat.le_of_ble_eq_true rfl) (fun {p e s m args below meth c A} ls Q X hW hl hQ => ?_)
  have hx := X.x
  have hb := X.b
  have hl : lv_has ls 7 [(0, .ref (ad 0)), (1, .int x1), (2, .int x2)] := hl
  unfold dnX5_asks at hd
  have K43 : ∀ (F : gF) (x2 : Int32) (n : Nat) (x3 : Int32) (x4 : Int32) (z : Nat × Int32), lpX5_asks_43 F x2 n x3 x4 = some z → ∀ (H : Heap) (locs : List Loc) (ls : Array Slot), Wd Dd A s.heap (WM Y ad F) H locs → lv_has ls 7 [(0, .ref (ad 0)), (2, .int x2), (3, .int x3), (4, .int x4)] → (∀ (H : Heap) (locs : List Loc) (ls : Array Slot), z.1 = 0 → Wd Dd A s.heap (WM Y ad F) H locs → lv_has ls 7 [(3, .int z.2)] → W p l e rmX5_asks s m args below meth c H locs 0 0 Q (F0 m 129 ls [])) → W p l e rmX5_asks s m args below meth c H locs 0 0 Q (F0 m 43 ls []) := by
    intro F x2 n
    induction n with
    | zero => intro x3 x4 z hd; cases hd
    | succ n ih =>
      intro x3 x4 z hd H locs ls hW hl kx0
      unfold lpX5_asks_43 at hd
      refine lv_iload hx hb dX5_asks_43 (lv_at hl 3 rfl) ?_
      refine lv_iload_n hx hb dX5_asks_45 rfl (lv_at hl 1 rfl) ?_
      refine lv_icmp_gt (tgt := 129) hx hb dX5_asks_46 (by decide) (fun c1 => ?_) (fun c1 => ?_)
      · replace hd := if_t c1 hd
        cases hd
        exact kx0 _ _ _ rfl hW (lv_sub hl [2] rfl)
      · replace hd := if_f c1 hd
        refine lv_aload_n hx hb dX5_asks_49 rfl (lv_at hl 0 rfl) ?_
        refine lv_iload hx hb dX5_asks_50 (lv_at hl 3 rfl) ?_
        obtain ⟨r3, h2, hd⟩ := bp_e hd
        refine cVi_ (rest := []) X (kX5_isWaiting l Dd Y ad F x4 r3 h2) (cwV 1 X.1.2.2.2.2 gX5_asks_X5_isWaiting rfl rfl rfl (by decide +kernel) ⟨Nat.le_of_ble_eq_true rfl, Nat.le_of_ble_eq_true rfl⟩) hW 0 5 rfl rfl rfl rfl hl.1 rfl (Nat.le_of_ble_eq_true rfl) dX5_asks_52 ⟨Nat.zero_le _, Nat.zero_le _⟩ (fun H locs hW => ?_)
        refine lv_if_eq (tgt := 63) hx hb dX5_asks_55 (by decide) (fun c4 => ?_) (fun c4 => ?_)
        · replace hd := if_t c4 hd
          refine lv_aload_n hx hb dX5_asks_63 rfl (lv_at hl 0 rfl) ?_
          refine lv_iload hx hb dX5_asks_64 (lv_at hl 3 rfl) ?_
          refine lv_iload_n hx hb dX5_asks_66 rfl (lv_at hl 1 rfl) ?_
          obtain ⟨r6, h5, hd⟩ := bp_e hd
          refine cVi_ (rest := []) X (kX5_runEnd l Dd Y ad F x4 x2 r6 h5) (cwV 2 X.1.2.2.2.2 gX5_asks_X5_runEnd rfl rfl rfl (by decide +kernel) ⟨Nat.le_of_ble_eq_true rfl, Nat.le_of_ble_eq_true rfl⟩) hW 0 5 rfl rfl rfl rfl hl.1 rfl (Nat.le_of_ble_eq_true rfl) dX5_asks_67 ⟨Nat.zero_le _, Nat.zero_le _⟩ (fun H locs hW => ?_)
          refine lv_istore (lv' := [(5, .int r6), (0, .ref (ad 0)), (2, .int x2), (3, .int x3), (4, .int x4)]) hx hb dX5_asks_70 hl (by decide) rfl (fun ls hl => ?_)
          refine lv_aload_n hx hb dX5_asks_72 rfl (lv_at hl 1 rfl) ?_
          refine lv_iload hx hb dX5_asks_73 (lv_at hl 0 rfl) ?_
          refine lv_iload hx hb dX5_asks_75 (lv_at hl 4 rfl) ?_
          refine lv_isub hx hb dX5_asks_77 ?_
          refine lv_iconst (v := 1) hx hb dX5_asks_78 (by decide) ?_
          refine lv_iadd hx hb dX5_asks_79 ?_
          obtain ⟨r8, h7, hd⟩ := bp_e hd
          refine cVi_ (rest := []) X (kX5_levelOf l Dd Y ad F ((r6 - x4) + 1) r8 h7) (cwV 1 X.1.2.2.2.2 gX5_asks_X5_levelOf rfl rfl rfl (by decide +kernel) ⟨Nat.le_of_ble_eq_true rfl, Nat.le_of_ble_eq_true rfl⟩) hW 0 5 rfl rfl rfl rfl hl.1 rfl (Nat.le_of_ble_eq_true rfl) dX5_asks_80 ⟨Nat.zero_le _, Nat.zero_le _⟩ (fun H locs hW => ?_)
          refine lv_istore (lv' := [(6, .int r8), (5, .int r6), (0, .ref (ad 0)), (2, .int x2), (3, .int x3), (4, .int x4)]) hx hb dX5_asks_83 hl (by decide) rfl (fun ls hl => ?_)
          refine lv_aload_n hx hb dX5_asks_85 rfl (lv_at hl 2 rfl) ?_
          refine lv_iload_n hx hb dX5_asks_86 rfl (lv_at hl 4 rfl) ?_
          refine lv_aload_n hx hb dX5_asks_87 rfl (lv_at hl 2 rfl) ?_
          refine lv_iload hx hb dX5_asks_88 (lv_at hl 0 rfl) ?_
          refine lv_iload hx hb dX5_asks_90 (lv_at hl 5 rfl) ?_
          obtain ⟨r10, h9, hd⟩ := bp_e hd
          refine cVi_ (rest := [.int x3, .ref (ad 0)]) X (kX5_toldBy l Dd Y ad F r8 x4 r10 h9) (cwV 2 X.1.2.2.2.2 gX5_asks_X5_toldBy rfl rfl rfl (by decide +kernel) ⟨Nat.le_of_ble_eq_true rfl, Nat.le_of_ble_eq_true rfl⟩) hW 0 5 rfl rfl rfl rfl hl.1 rfl (Nat.le_of_ble_eq_true rfl) dX5_asks_92 ⟨Nat.zero_le _, Nat.zero_le _⟩ (fun H locs hW => ?_)
          obtain ⟨r12, h11, hd⟩ := bp_e hd
          refine cVi_ (rest := []) X (kX5_lesser l Dd Y ad F x3 r10 r12 h11) (cwV 2 X.1.2.2.2.2 gX5_asks_X5_lesser rfl rfl rfl (by decide +kernel) ⟨Nat.le_of_ble_eq_true rfl, Nat.le_of_ble_eq_true rfl⟩) hW 0 5 rfl rfl rfl rfl hl.1 rfl (Nat.le_of_ble_eq_true rfl) dX5_asks_95 ⟨Nat.zero_le _, Nat.zero_le _⟩ (fun H locs hW => ?_)
          refine lv_istore_n (lv' := [(3, .int r12), (6, .int r8), (5, .int r6), (0, .ref (ad 0)), (2, .int x2), (4, .int x4)]) hx hb dX5_asks_98 rfl hl (by decide) rfl (fun ls hl => ?_)
          refine lv_aload_n hx hb dX5_asks_99 rfl (lv_at hl 3 rfl) ?_
          refine lv_iload_n hx hb dX5_asks_100 rfl (lv_at hl 0 rfl) ?_
          refine lv_aload_n hx hb dX5_asks_101 rfl (lv_at hl 3 rfl) ?_
          refine lv_iload hx hb dX5_asks_102 (lv_at hl 1 rfl) ?_
          refine lv_iload hx hb dX5_asks_104 (lv_at hl 2 rfl) ?_
          refine lv_iconst (v := 1) hx hb dX5_asks_106 (by decide) ?_
          refine lv_iload hx hb dX5_asks_107 (lv_at hl 1 rfl) ?_
          refine lv_ishl hx hb dX5_asks_109 ?_
          refine lv_isub hx hb dX5_asks_110 ?_
          refine lv_iconst (v := 1) hx hb dX5_asks_111 (by decide) ?_
          refine lv_iadd hx hb dX5_asks_112 ?_
          obtain ⟨r14, h13, hd⟩ := bp_e hd
          refine cVi_ (rest := [.int r12, .ref (ad 0)]) X (kX5_toldBy l Dd Y ad F r8 ((r6 - ((1 : Int32) <<< (r8 &&& 31))) + 1) r14 h13) (cwV 2 X.1.2.2.2.2 gX5_asks_X5_toldBy rfl rfl rfl (by decide +kernel) ⟨Nat.le_of_ble_eq_true rfl, Nat.le_of_ble_eq_true rfl⟩) hW 0 5 rfl rfl rfl rfl hl.1 rfl (Nat.le_of_ble_eq_true rfl) dX5_asks_113 ⟨Nat.zero_le _, Nat.zero_le _⟩ (fun H locs hW => ?_)
          obtain ⟨r16, h15, hd⟩ := bp_e hd
          refine cVi_ (rest := []) X (kX5_lesser l Dd Y ad F r12 r14 r16 h15) (cwV 2 X.1.2.2.2.2 gX5_asks_X5_lesser rfl rfl rfl (by decide +kernel) ⟨Nat.le_of_ble_eq_true rfl, Nat.le_of_ble_eq_true rfl⟩) hW 0 5 rfl rfl rfl rfl hl.1 rfl (Nat.le_of_ble_eq_true rfl) dX5_asks_116 ⟨Nat.zero_le _, Nat.zero_le _⟩ (fun H locs hW => ?_)
          refine lv_istore_n (lv' := [(3, .int r16), (6, .int r8), (5, .int r6), (0, .ref (ad 0)), (2, .int x2), (4, .int x4)]) hx hb dX5_asks_119 rfl hl (by decide) rfl (fun ls hl => ?_)
          refine lv_iload hx hb dX5_asks_120 (lv_at hl 2 rfl) ?_
          refine lv_iconst (v := 1) hx hb dX5_asks_122 (by decide) ?_
          refine lv_iadd hx hb dX5_asks_123 ?_
          refine lv_istore (lv' := [(4, .int (r6 + 1)), (3, .int r16), (6, .int r8), (5, .int r6), (0, .ref (ad 0)), (2, .int x2)]) hx hb dX5_asks_124 hl (by decide) rfl (fun ls hl => ?_)
          refine lv_goto (tgt := 43) hx hb dX5_asks_126 (by decide) ?_
          exact ih r16 (r6 + 1) z hd _ _ _ hW (lv_sub hl [4, 5, 1, 0] rfl) kx0
        · replace hd := if_f c4 hd
          refine lv_iload hx hb dX5_asks_58 (lv_at hl 3 rfl) ?_
          refine lv_goto (tgt := 70) hx hb dX5_asks_60 (by decide) ?_
          refine lv_istore (lv' := [(5, .int x4), (0, .ref (ad 0)), (2, .int x2), (3, .int x3), (4, .int x4)]) hx hb dX5_asks_70 hl (by decide) rfl (fun ls hl => ?_)
          refine lv_aload_n hx hb dX5_asks_72 rfl (lv_at hl 1 rfl) ?_
          refine lv_iload hx hb dX5_asks_73 (lv_at hl 0 rfl) ?_
          refine lv_iload hx hb dX5_asks_75 (lv_at hl 4 rfl) ?_
          refine lv_isub hx hb dX5_asks_77 ?_
          refine lv_iconst (v := 1) hx hb dX5_asks_78 (by decide) ?_
          refine lv_iadd hx hb dX5_asks_79 ?_
          obtain ⟨r18, h17, hd⟩ := bp_e hd
          refine cVi_ (rest := []) X (kX5_levelOf l Dd Y ad F ((x4 - x4) + 1) r18 h17) (cwV 1 X.1.2.2.2.2 gX5_asks_X5_levelOf rfl rfl rfl (by decide +kernel) ⟨Nat.le_of_ble_eq_true rfl, Nat.le_of_ble_eq_true rfl⟩) hW 0 5 rfl rfl rfl rfl hl.1 rfl (Nat.le_of_ble_eq_true rfl) dX5_asks_80 ⟨Nat.zero_le _, Nat.zero_le _⟩ (fun H locs hW => ?_)
          refine lv_istore (lv' := [(6, .int r18), (5, .int x4), (0, .ref (ad 0)), (2, .int x2), (3, .int x3), (4, .int x4)]) hx hb dX5_asks_83 hl (by decide) rfl (fun ls hl => ?_)
          refine lv_aload_n hx hb dX5_asks_85 rfl (lv_at hl 2 rfl) ?_
          refine lv_iload_n hx hb dX5_asks_86 rfl (lv_at hl 4 rfl) ?_
          refine lv_aload_n hx hb dX5_asks_87 rfl (lv_at hl 2 rfl) ?_
          refine lv_iload hx hb dX5_asks_88 (lv_at hl 0 rfl) ?_
          refine lv_iload hx hb dX5_asks_90 (lv_at hl 5 rfl) ?_
          obtain ⟨r20, h19, hd⟩ := bp_e hd
          refine cVi_ (rest := [.int x3, .ref (ad 0)]) X (kX5_toldBy l Dd Y ad F r18 x4 r20 h19) (cwV 2 X.1.2.2.2.2 gX5_asks_X5_toldBy rfl rfl rfl (by decide +kernel) ⟨Nat.le_of_ble_eq_true rfl, Nat.le_of_ble_eq_true rfl⟩) hW 0 5 rfl rfl rfl rfl hl.1 rfl (Nat.le_of_ble_eq_true rfl) dX5_asks_92 ⟨Nat.zero_le _, Nat.zero_le _⟩ (fun H locs hW => ?_)
          obtain ⟨r22, h21, hd⟩ := bp_e hd
          refine cVi_ (rest := []) X (kX5_lesser l Dd Y ad F x3 r20 r22 h21) (cwV 2 X.1.2.2.2.2 gX5_asks_X5_lesser rfl rfl rfl (by decide +kernel) ⟨Nat.le_of_ble_eq_true rfl, Nat.le_of_ble_eq_true rfl⟩) hW 0 5 rfl rfl rfl rfl hl.1 rfl (Nat.le_of_ble_eq_true rfl) dX5_asks_95 ⟨Nat.zero_le _, Nat.zero_le _⟩ (fun H locs hW => ?_)
          refine lv_istore_n (lv' := [(3, .int r22), (6, .int r18), (5, .int x4), (0, .ref (ad 0)), (2, .int x2), (4, .int x4)]) hx hb dX5_asks_98 rfl hl (by decide) rfl (fun ls hl => ?_)
          refine lv_aload_n hx hb dX5_asks_99 rfl (lv_at hl 3 rfl) ?_
          refine lv_iload_n hx hb dX5_asks_100 rfl (lv_at hl 0 rfl) ?_
          refine lv_aload_n hx hb dX5_asks_101 rfl (lv_at hl 3 rfl) ?_
          refine lv_iload hx hb dX5_asks_102 (lv_at hl 1 rfl) ?_
          refine lv_iload hx hb dX5_asks_104 (lv_at hl 2 rfl) ?_
          refine lv_iconst (v := 1) hx hb dX5_asks_106 (by decide) ?_
          refine lv_iload hx hb dX5_asks_107 (lv_at hl 1 rfl) ?_
          refine lv_ishl hx hb dX5_asks_109 ?_
          refine lv_isub hx hb dX5_asks_110 ?_
          refine lv_iconst (v := 1) hx hb dX5_asks_111 (by decide) ?_
          refine lv_iadd hx hb dX5_asks_112 ?_
          obtain ⟨r24, h23, hd⟩ := bp_e hd
          refine cVi_ (rest := [.int r22, .ref (ad 0)]) X (kX5_toldBy l Dd Y ad F r18 ((x4 - ((1 : Int32) <<< (r18 &&& 31))) + 1) r24 h23) (cwV 2 X.1.2.2.2.2 gX5_asks_X5_toldBy rfl rfl rfl (by decide +kernel) ⟨Nat.le_of_ble_eq_true rfl, Nat.le_of_ble_eq_true rfl⟩) hW 0 5 rfl rfl rfl rfl hl.1 rfl (Nat.le_of_ble_eq_true rfl) dX5_asks_113 ⟨Nat.zero_le _, Nat.zero_le _⟩ (fun H locs hW => ?_)
          obtain ⟨r26, h25, hd⟩ := bp_e hd
          refine cVi_ (rest := []) X (kX5_lesser l Dd Y ad F r22 r24 r26 h25) (cwV 2 X.1.2.2.2.2 gX5_asks_X5_lesser rfl rfl rfl (by decide +kernel) ⟨Nat.le_of_ble_eq_true rfl, Nat.le_of_ble_eq_true rfl⟩) hW 0 5 rfl rfl rfl rfl hl.1 rfl (Nat.le_of_ble_eq_true rfl) dX5_asks_116 ⟨Nat.zero_le _, Nat.zero_le _⟩ (fun H locs hW => ?_)
          refine lv_istore_n (lv' := [(3, .int r26), (6, .int r18), (5, .int x4), (0, .ref (ad 0)), (2, .int x2), (4, .int x4)]) hx hb dX5_asks_119 rfl hl (by decide) rfl (fun ls hl => ?_)
          refine lv_iload hx hb dX5_asks_120 (lv_at hl 2 rfl) ?_
          refine lv_iconst (v := 1) hx hb dX5_asks_122 (by decide) ?_
          refine lv_iadd hx hb dX5_asks_123 ?_
          refine lv_istore (lv' := [(4, .int (x4 + 1)), (3, .int r26), (6, .int r18), (5, .int x4), (0, .ref (ad 0)), (2, .int x2)]) hx hb dX5_asks_124 hl (by decide) rfl (fun ls hl => ?_)
          refine lv_goto (tgt := 43) hx hb dX5_asks_126 (by decide) ?_
          exact ih r26 (x4 + 1) z hd _ _ _ hW (lv_sub hl [4, 5, 1, 0] rfl) kx0
  refine lv_aload_n hx hb dX5_asks_0 rfl (lv_at hl 0 rfl) ?_
  refine lv_iconst (v := 1) hx hb dX5_asks_1 (by decide) ?_
  obtain ⟨r28, h27, hd⟩ := bp_e hd
  refine cVi_ (rest := []) X (kX5_get l Dd Y ad F 1 r28 h27) (cwV 1 X.1.2.2.2.2 gX5_asks_X5_get rfl rfl rfl (by decide +kernel) ⟨Nat.le_of_ble_eq_true rfl, Nat.le_of_ble_eq_true rfl⟩) hW 0 5 rfl rfl rfl rfl hl.1 rfl (Nat.le_of_ble_eq_true rfl) dX5_asks_2 ⟨Nat.zero_le _, Nat.zero_le _⟩ (fun H locs hW => ?_)
  refine lv_if_ne (tgt := 19) hx hb dX5_asks_5 (by decide) (fun c29 => ?_) (fun c29 => ?_)
  · replace hd := if_f c29 hd
    refine lv_aload_n hx hb dX5_asks_19 rfl (lv_at hl 0 rfl) ?_
    refine lv_bipush (v := 9) hx hb dX5_asks_20 (by decide) ?_
    refine lv_iconst (v := 1) hx hb dX5_asks_22 (by decide) ?_
    obtain ⟨F31, h30, hd⟩ := bp_e hd
    refine cVv_ (rest := []) X (kX5_adds l Dd Y ad F 9 1 F31 h30) (cwV 2 X.1.2.2.2.2 gX5_asks_X5_adds rfl rfl rfl (by decide +kernel) ⟨Nat.le_of_ble_eq_true rfl, Nat.le_of_ble_eq_true rfl⟩) hW 0 5 rfl rfl rfl rfl hl.1 rfl (Nat.le_of_ble_eq_true rfl) dX5_asks_23 ⟨Nat.zero_le _, Nat.zero_le _⟩ (fun H locs hW => ?_)
    refine lv_aload_n hx hb dX5_asks_26 rfl (lv_at hl 0 rfl) ?_
    refine lv_bipush (v := 7) hx hb dX5_asks_27 (by decide) ?_
    refine lv_aload_n hx hb dX5_asks_29 rfl (lv_at hl 0 rfl) ?_
    refine lv_iload_n hx hb dX5_asks_30 rfl (lv_at hl 1 rfl) ?_
    refine lv_iload_n hx hb dX5_asks_31 rfl (lv_at hl 2 rfl) ?_
    obtain ⟨r33, h32, hd⟩ := bp_e hd
    refine cVi_ (rest := [.int 7, .ref (ad 0)]) X (kX5_looksIn l Dd Y ad F31 x1 x2 r33 h32) (cwV 2 X.1.2.2.2.2 gX5_asks_X5_looksIn rfl rfl rfl (by decide +kernel) ⟨Nat.le_of_ble_eq_true rfl, Nat.le_of_ble_eq_true rfl⟩) hW 0 5 rfl rfl rfl rfl hl.1 rfl (Nat.le_of_ble_eq_true rfl) dX5_asks_32 ⟨Nat.zero_le _, Nat.zero_le _⟩ (fun H locs hW => ?_)
    obtain ⟨F35, h34, hd⟩ := bp_e hd
    refine cVv_ (rest := []) X (kX5_adds l Dd Y ad F31 7 r33 F35 h34) (cwV 2 X.1.2.2.2.2 gX5_asks_X5_adds rfl rfl rfl (by decide +kernel) ⟨Nat.le_of_ble_eq_true rfl, Nat.le_of_ble_eq_true rfl⟩) hW 0 5 rfl rfl rfl rfl hl.1 rfl (Nat.le_of_ble_eq_true rfl) dX5_asks_35 ⟨Nat.zero_le _, Nat.zero_le _⟩ (fun H locs hW => ?_)
    refine lv_iconst (v := (-1)) hx hb dX5_asks_38 (by decide) ?_
    refine lv_istore_n (lv' := [(3, .int (-1)), (0, .ref (ad 0)), (1, .int x1), (2, .int x2)]) hx hb dX5_asks_39 rfl hl (by decide) rfl (fun ls hl => ?_)
    refine lv_iload_n hx hb dX5_asks_40 rfl (lv_at hl 2 rfl) ?_
    refine lv_istore (lv' := [(4, .int x1), (3, .int (-1)), (0, .ref (ad 0)), (1, .int x1), (2, .int x2)]) hx hb dX5_asks_41 hl (by decide) rfl (fun ls hl => ?_)
    obtain ⟨z43_35, hz43_35, hd⟩ := bp_e hd
    refine K43 F35 x2 FU (-1) x1 z43_35 hz43_35 _ _ _ hW (lv_sub hl [2, 4, 1, 0] rfl) (fun H locs ls e43 hW hl => ?_)
    refine lv_iload_n hx hb dX5_asks_129 rfl (lv_at hl 0 rfl) ?_
    obtain ⟨rfl, rfl⟩ := Prod.mk.inj (Option.some.inj hd)
    exact hQ _ _ _ _ rfl hW dX5_asks_130
  · replace hd := if_t c29 hd
    refine lv_aload_n hx hb dX5_asks_8 rfl (lv_at hl 0 rfl) ?_
    obtain ⟨r38, h37, hd⟩ := bp_e hd
    refine cVi_ (rest := []) X (kX5_waiting l Dd Y ad F r38 h37) (cwV 0 X.1.2.2.2.2 gX5_asks_X5_waiting rfl rfl rfl (by decide +kernel) ⟨Nat.le_of_ble_eq_true rfl, Nat.le_of_ble_eq_true rfl⟩) hW 0 5 rfl rfl rfl rfl hl.1 rfl (Nat.le_of_ble_eq_true rfl) dX5_asks_9 ⟨Nat.zero_le _, Nat.zero_le _⟩ (fun H locs hW => ?_)
    refine lv_if_le (tgt := 19) hx hb dX5_asks_12 (by decide) (fun c39 => ?_) (fun c39 => ?_)
    · replace hd := if_t c39 hd
      refine lv_aload_n hx hb dX5_asks_19 rfl (lv_at hl 0 rfl) ?_
      refine lv_bipush (v := 9) hx hb dX5_asks_20 (by decide) ?_
      refine lv_iconst (v := 1) hx hb dX5_asks_22 (by decide) ?_
      obtain ⟨F41, h40, hd⟩ := bp_e hd
      refine cVv_ (rest := []) X (kX5_adds l Dd Y ad F 9 1 F41 h40) (cwV 2 X.1.2.2.2.2 gX5_asks_X5_adds rfl rfl rfl (by decide +kernel) ⟨Nat.le_of_ble_eq_true rfl, Nat.le_of_ble_eq_true rfl⟩) hW 0 5 rfl rfl rfl rfl hl.1 rfl (Nat.le_of_ble_eq_true rfl) dX5_asks_23 ⟨Nat.zero_le _, Nat.zero_le _⟩ (fun H locs hW => ?_)
      refine lv_aload_n hx hb dX5_asks_26 rfl (lv_at hl 0 rfl) ?_
      refine lv_bipush (v := 7) hx hb dX5_asks_27 (by decide) ?_
      refine lv_aload_n hx hb dX5_asks_29 rfl (lv_at hl 0 rfl) ?_
      refine lv_iload_n hx hb dX5_asks_30 rfl (lv_at hl 1 rfl) ?_
      refine lv_iload_n hx hb dX5_asks_31 rfl (lv_at hl 2 rfl) ?_
      obtain ⟨r43, h42, hd⟩ := bp_e hd
      refine cVi_ (rest := [.int 7, .ref (ad 0)]) X (kX5_looksIn l Dd Y ad F41 x1 x2 r43 h42) (cwV 2 X.1.2.2.2.2 gX5_asks_X5_looksIn rfl rfl rfl (by decide +kernel) ⟨Nat.le_of_ble_eq_true rfl, Nat.le_of_ble_eq_true rfl⟩) hW 0 5 rfl rfl rfl rfl hl.1 rfl (Nat.le_of_ble_eq_true rfl) dX5_asks_32 ⟨Nat.zero_le _, Nat.zero_le _⟩ (fun H locs hW => ?_)
      obtain ⟨F45, h44, hd⟩ := bp_e hd
      refine cVv_ (rest := []) X (kX5_adds l Dd Y ad F41 7 r43 F45 h44) (cwV 2 X.1.2.2.2.2 gX5_asks_X5_adds rfl rfl rfl (by decide +kernel) ⟨Nat.le_of_ble_eq_true rfl, Nat.le_of_ble_eq_true rfl⟩) hW 0 5 rfl rfl rfl rfl hl.1 rfl (Nat.le_of_ble_eq_true rfl) dX5_asks_35 ⟨Nat.zero_le _, Nat.zero_le _⟩ (fun H locs hW => ?_)
      refine lv_iconst (v := (-1)) hx hb dX5_asks_38 (by decide) ?_
      refine lv_istore_n (lv' := [(3, .int (-1)), (0, .ref (ad 0)), (1, .int x1), (2, .int x2)]) hx hb dX5_asks_39 rfl hl (by decide) rfl (fun ls hl => ?_)
      refine lv_iload_n hx hb dX5_asks_40 rfl (lv_at hl 2 rfl) ?_
      refine lv_istore (lv' := [(4, .int x1), (3, .int (-1)), (0, .ref (ad 0)), (1, .int x1), (2, .int x2)]) hx hb dX5_asks_41 hl (by decide) rfl (fun ls hl => ?_)
      obtain ⟨z43_45, hz43_45, hd⟩ := bp_e hd
      refine K43 F45 x2 FU (-1) x1 z43_45 hz43_45 _ _ _ hW (lv_sub hl [2, 4, 1, 0] rfl) (fun H locs ls e43 hW hl => ?_)
      refine lv_iload_n hx hb dX5_asks_129 rfl (lv_at hl 0 rfl) ?_
      obtain ⟨rfl, rfl⟩ := Prod.mk.inj (Option.some.inj hd)
      exact hQ _ _ _ _ rfl hW dX5_asks_130
    · replace hd := if_f c39 hd
      refine lv_aload_n hx hb dX5_asks_15 rfl (lv_at hl 0 rfl) ?_
      obtain ⟨F48, h47, hd⟩ := bp_e hd
      refine cVv_ (rest := []) X (kX5_builds l Dd Y ad F F48 h47) (cwV 0 X.1.2.2.2.2 gX5_asks_X5_builds rfl rfl rfl (by decide +kernel) ⟨Nat.le_of_ble_eq_true rfl, Nat.le_of_ble_eq_true rfl⟩) hW 0 5 rfl rfl rfl rfl hl.1 rfl (Nat.le_of_ble_eq_true rfl) dX5_asks_16 ⟨Nat.zero_le _, Nat.zero_le _⟩ (fun H locs hW => ?_)
      refine lv_aload_n hx hb dX5_asks_19 rfl (lv_at hl 0 rfl) ?_
      refine lv_bipush (v := 9) hx hb dX5_asks_20 (by decide) ?_
      refine lv_iconst (v := 1) hx hb dX5_asks_22 (by decide) ?_
      obtain ⟨F50, h49, hd⟩ := bp_e hd
      refine cVv_ (rest := []) X (kX5_adds l Dd Y ad F48 9 1 F50 h49) (cwV 2 X.1.2.2.2.2 gX5_asks_X5_adds rfl rfl rfl (by decide +kernel) ⟨Nat.le_of_ble_eq_true rfl, Nat.le_of_ble_eq_true rfl⟩) hW 0 5 rfl rfl rfl rfl hl.1 rfl (Nat.le_of_ble_eq_true rfl) dX5_asks_23 ⟨Nat.zero_le _, Nat.zero_le _⟩ (fun H locs hW => ?_)
      refine lv_aload_n hx hb dX5_asks_26 rfl (lv_at hl 0 rfl) ?_
      refine lv_bipush (v := 7) hx hb dX5_asks_27 (by decide) ?_
      refine lv_aload_n hx hb dX5_asks_29 rfl (lv_at hl 0 rfl) ?_
      refine lv_iload_n hx hb dX5_asks_30 rfl (lv_at hl 1 rfl) ?_
      refine lv_iload_n hx hb dX5_asks_31 rfl (lv_at hl 2 rfl) ?_
      obtain ⟨r52, h51, hd⟩ := bp_e hd
      refine cVi_ (rest := [.int 7, .ref (ad 0)]) X (kX5_looksIn l Dd Y ad F50 x1 x2 r52 h51) (cwV 2 X.1.2.2.2.2 gX5_asks_X5_looksIn rfl rfl rfl (by decide +kernel) ⟨Nat.le_of_ble_eq_true rfl, Nat.le_of_ble_eq_true rfl⟩) hW 0 5 rfl rfl rfl rfl hl.1 rfl (Nat.le_of_ble_eq_true rfl) dX5_asks_32 ⟨Nat.zero_le _, Nat.zero_le _⟩ (fun H locs hW => ?_)
      obtain ⟨F54, h53, hd⟩ := bp_e hd
      refine cVv_ (rest := []) X (kX5_adds l Dd Y ad F50 7 r52 F54 h53) (cwV 2 X.1.2.2.2.2 gX5_asks_X5_adds rfl rfl rfl (by decide +kernel) ⟨Nat.le_of_ble_eq_true rfl, Nat.le_of_ble_eq_true rfl⟩) hW 0 5 rfl rfl rfl rfl hl.1 rfl (Nat.le_of_ble_eq_true rfl) dX5_asks_35 ⟨Nat.zero_le _, Nat.zero_le _⟩ (fun H locs hW => ?_)
      refine lv_iconst (v := (-1)) hx hb dX5_asks_38 (by decide) ?_
      refine lv_istore_n (lv' := [(3, .int (-1)), (0, .ref (ad 0)), (1, .int x1), (2, .int x2)]) hx hb dX5_asks_39 rfl hl (by decide) rfl (fun ls hl => ?_)
      refine lv_iload_n hx hb dX5_asks_40 rfl (lv_at hl 2 rfl) ?_
      refine lv_istore (lv' := [(4, .int x1), (3, .int (-1)), (0, .ref (ad 0)), (1, .int x1), (2, .int x2)]) hx hb dX5_asks_41 hl (by decide) rfl (fun ls hl => ?_)
      obtain ⟨z43_54, hz43_54, hd⟩ := bp_e hd
      refine K43 F54 x2 FU (-1) x1 z43_54 hz43_54 _ _ _ hW (lv_sub hl [2, 4, 1, 0] rfl) (fun H locs ls e43 hW hl => ?_)
      refine lv_iload_n hx hb dX5_asks_129 rfl (lv_at hl 0 rfl) ?_
      obtain ⟨rfl, rfl⟩ := Prod.mk.inj (Option.some.inj hd)
      exact hQ _ _ _ _ rfl hW dX5_asks_130
abbrev rmX5_keptFrom : Room := { frames := 1, cells := 0, slots := 0, locals := 21 }
set_option maxRecDepth 100000 in
set_option maxHeartbeats 4000000 in
theorem kX5_keptFrom (l : Launch) (Dd : va_G) (Y : yT) (ad : Nat → Nat) (F : gF) (x1 : Int32) (r : Int32) (hd : dnX5_keptFrom F x1 = some r) : MG l yX5_keptFrom wsX5_keptFrom rmX5_keptFrom Dd Y [.ref (ad 0), .int x1] (WM Y ad F) (WM Y ad F) (some (.int r)) := by
  refine MGi (cc := cX5_keptFrom) (maxL := 2) (ty := .int) (by decide) rfl (Nat.le_of_ble_eq_true rfl) (fun {p e s m args below meth c A} ls Q X hW hl hQ => ?_)
  have hx := X.x
  have hb := X.b
  have hl : lv_has ls 2 [(0, .ref (ad 0)), (1, .int x1)] := hl
  unfold dnX5_keptFrom at hd
  refine lv_aload_n hx hb dX5_keptFrom_0 rfl (lv_at hl 0 rfl) ?_
  refine lv_sipush (v := 292) hx hb dX5_keptFrom_1 (by decide) ?_
  refine lv_iconst (v := 2) hx hb dX5_keptFrom_4 (by decide) ?_
  refine lv_iload_n hx hb dX5_keptFrom_5 rfl (lv_at hl 1 rfl) ?_
  refine lv_imul hx hb dX5_keptFrom_6 ?_
  refine lv_iadd hx hb dX5_keptFrom_7 ?_
  obtain ⟨r2, h1, hd⟩ := bp_e hd
  refine cVi_ (rest := []) X (kX5_get l Dd Y ad F (292 + (2 * x1)) r2 h1) (cwV 1 X.1.2.2.2.2 gX5_keptFrom_X5_get rfl rfl rfl (by decide +kernel) ⟨Nat.le_of_ble_eq_true rfl, Nat.le_of_ble_eq_true rfl⟩) hW 0 5 rfl rfl rfl rfl hl.1 rfl (Nat.le_of_ble_eq_true rfl) dX5_keptFrom_8 ⟨Nat.zero_le _, Nat.zero_le _⟩ (fun H locs hW => ?_)
  have hd := Option.some.inj hd
  subst hd
  exact hQ _ _ _ _ rfl hW dX5_keptFrom_11
abbrev rmX5_keptTo : Room := { frames := 1, cells := 0, slots := 0, locals := 21 }
set_option maxRecDepth 100000 in
set_option maxHeartbeats 4000000 in
theorem kX5_keptTo (l : Launch) (Dd : va_G) (Y : yT) (ad : Nat → Nat) (F : gF) (x1 : Int32) (r : Int32) (hd : dnX5_keptTo F x1 = some r) : MG l yX5_keptTo wsX5_keptTo rmX5_keptTo Dd Y [.ref (ad 0), .int x1] (WM Y ad F) (WM Y ad F) (some (.int r)) := by
  refine MGi (cc := cX5_keptTo) (maxL := 2) (ty := .int) (by decide) rfl (Nat.le_of_ble_eq_true rfl) (fun {p e s m args below meth c A} ls Q X hW hl hQ => ?_)
  have hx := X.x
  have hb := X.b
  have hl : lv_has ls 2 [(0, .ref (ad 0)), (1, .int x1)] := hl
  unfold dnX5_keptTo at hd
  refine lv_aload_n hx hb dX5_keptTo_0 rfl (lv_at hl 0 rfl) ?_
  refine lv_sipush (v := 292) hx hb dX5_keptTo_1 (by decide) ?_
  refine lv_iconst (v := 2) hx hb dX5_keptTo_4 (by decide) ?_
  refine lv_iload_n hx hb dX5_keptTo_5 rfl (lv_at hl 1 rfl) ?_
  refine lv_imul hx hb dX5_keptTo_6 ?_
  refine lv_iadd hx hb dX5_keptTo_7 ?_
  refine lv_iconst (v := 1) hx hb dX5_keptTo_8 (by decide) ?_
  refine lv_iadd hx hb dX5_keptTo_9 ?_
  obtain ⟨r2, h1, hd⟩ := bp_e hd
  refine cVi_ (rest := []) X (kX5_get l Dd Y ad F ((292 + (2 * x1)) + 1) r2 h1) (cwV 1 X.1.2.2.2.2 gX5_keptTo_X5_get rfl rfl rfl (by decide +kernel) ⟨Nat.le_of_ble_eq_true rfl, Nat.le_of_ble_eq_true rfl⟩) hW 0 5 rfl rfl rfl rfl hl.1 rfl (Nat.le_of_ble_eq_true rfl) dX5_keptTo_10 ⟨Nat.zero_le _, Nat.zero_le _⟩ (fun H locs hW => ?_)
  have hd := Option.some.inj hd
  subst hd
  exact hQ _ _ _ _ rfl hW dX5_keptTo_13
abbrev rmX5_keeps : Room := { frames := 2, cells := 0, slots := 0, locals := 44 }
set_option maxRecDepth 100000 in
set_option maxHeartbeats 4000000 in
theorem kX5_keeps (l : Launch) (Dd : va_G) (Y : yT) (ad : Nat → Nat) (F : gF) (x1 : Int32) (x2 : Int32) (r : Int32) (F' : gF) (hd : dnX5_keeps F x1 x2 = some (r, F')) : MG l yX5_keeps wsX5_keeps rmX5_keeps Dd Y [.ref (ad 0), .int x1, .int x2] (WM Y ad F) (WM Y ad F') (some (.int r)) := by
  refine MGi (cc := cX5_keeps) (maxL := 4) (ty := .int) (by decide) rfl (Nat.le_of_ble_eq_true rfl) (fun {p e s m args below meth c A} ls Q X hW hl hQ => ?_)
  have hx := X.x
  have hb := X.b
  have hl : lv_has ls 4 [(0, .ref (ad 0)), (1, .int x1), (2, .int x2)] := hl
  unfold dnX5_keeps at hd
  refine lv_sipush (v := 292) hx hb dX5_keeps_0 (by decide) ?_
  refine lv_iconst (v := 2) hx hb dX5_keeps_3 (by decide) ?_
  refine lv_aload_n hx hb dX5_keeps_4 rfl (lv_at hl 0 rfl) ?_
  refine lv_bipush (v := 6) hx hb dX5_keeps_5 (by decide) ?_
  obtain ⟨r2, h1, hd⟩ := bp_e hd
  refine cVi_ (rest := [.int 2, .int 292]) X (kX5_get l Dd Y ad F 6 r2 h1) (cwV 1 X.1.2.2.2.2 gX5_keeps_X5_get rfl rfl rfl (by decide +kernel) ⟨Nat.le_of_ble_eq_true rfl, Nat.le_of_ble_eq_true rfl⟩) hW 0 5 rfl rfl rfl rfl hl.1 rfl (Nat.le_of_ble_eq_true rfl) dX5_keeps_7 ⟨Nat.zero_le _, Nat.zero_le _⟩ (fun H locs hW => ?_)
  refine lv_imul hx hb dX5_keeps_10 ?_
  refine lv_iadd hx hb dX5_keeps_11 ?_
  refine lv_istore_n (lv' := [(3, .int (292 + (2 * r2))), (0, .ref (ad 0)), (1, .int x1), (2, .int x2)]) hx hb dX5_keeps_12 rfl hl (by decide) rfl (fun ls hl => ?_)
  refine lv_aload_n hx hb dX5_keeps_13 rfl (lv_at hl 1 rfl) ?_
  refine lv_iload_n hx hb dX5_keeps_14 rfl (lv_at hl 0 rfl) ?_
  refine lv_iload_n hx hb dX5_keeps_15 rfl (lv_at hl 2 rfl) ?_
  obtain ⟨F4, h3, hd⟩ := bp_e hd
  refine cVv_ (rest := []) X (kX5_put0 l Dd Y ad F (292 + (2 * r2)) x1 F4 h3) (cwV 2 X.1.2.2.2.2 gX5_keeps_X5_put0 rfl rfl rfl (by decide +kernel) ⟨Nat.le_of_ble_eq_true rfl, Nat.le_of_ble_eq_true rfl⟩) hW 0 5 rfl rfl rfl rfl hl.1 rfl (Nat.le_of_ble_eq_true rfl) dX5_keeps_16 ⟨Nat.zero_le _, Nat.zero_le _⟩ (fun H locs hW => ?_)
  refine lv_aload_n hx hb dX5_keeps_19 rfl (lv_at hl 1 rfl) ?_
  refine lv_iload_n hx hb dX5_keeps_20 rfl (lv_at hl 0 rfl) ?_
  refine lv_iconst (v := 1) hx hb dX5_keeps_21 (by decide) ?_
  refine lv_iadd hx hb dX5_keeps_22 ?_
  refine lv_iload_n hx hb dX5_keeps_23 rfl (lv_at hl 3 rfl) ?_
  obtain ⟨F6, h5, hd⟩ := bp_e hd
  refine cVv_ (rest := []) X (kX5_put0 l Dd Y ad F4 ((292 + (2 * r2)) + 1) x2 F6 h5) (cwV 2 X.1.2.2.2.2 gX5_keeps_X5_put0 rfl rfl rfl (by decide +kernel) ⟨Nat.le_of_ble_eq_true rfl, Nat.le_of_ble_eq_true rfl⟩) hW 0 5 rfl rfl rfl rfl hl.1 rfl (Nat.le_of_ble_eq_true rfl) dX5_keeps_24 ⟨Nat.zero_le _, Nat.zero_le _⟩ (fun H locs hW => ?_)
  refine lv_aload_n hx hb dX5_keeps_27 rfl (lv_at hl 1 rfl) ?_
  refine lv_bipush (v := 6) hx hb dX5_keeps_28 (by decide) ?_
  refine lv_iconst (v := 1) hx hb dX5_keeps_30 (by decide) ?_
  obtain ⟨F8, h7, hd⟩ := bp_e hd
  refine cVv_ (rest := []) X (kX5_adds l Dd Y ad F6 6 1 F8 h7) (cwV 2 X.1.2.2.2.2 gX5_keeps_X5_adds rfl rfl rfl (by decide +kernel) ⟨Nat.le_of_ble_eq_true rfl, Nat.le_of_ble_eq_true rfl⟩) hW 0 5 rfl rfl rfl rfl hl.1 rfl (Nat.le_of_ble_eq_true rfl) dX5_keeps_31 ⟨Nat.zero_le _, Nat.zero_le _⟩ (fun H locs hW => ?_)
  refine lv_aload_n hx hb dX5_keeps_34 rfl (lv_at hl 1 rfl) ?_
  refine lv_bipush (v := 6) hx hb dX5_keeps_35 (by decide) ?_
  obtain ⟨r10, h9, hd⟩ := bp_e hd
  refine cVi_ (rest := []) X (kX5_get l Dd Y ad F8 6 r10 h9) (cwV 1 X.1.2.2.2.2 gX5_keeps_X5_get rfl rfl rfl (by decide +kernel) ⟨Nat.le_of_ble_eq_true rfl, Nat.le_of_ble_eq_true rfl⟩) hW 0 5 rfl rfl rfl rfl hl.1 rfl (Nat.le_of_ble_eq_true rfl) dX5_keeps_37 ⟨Nat.zero_le _, Nat.zero_le _⟩ (fun H locs hW => ?_)
  obtain ⟨rfl, rfl⟩ := Prod.mk.inj (Option.some.inj hd)
  exact hQ _ _ _ _ rfl hW dX5_keeps_40
abbrev rmX5_forgets : Room := { frames := 2, cells := 0, slots := 0, locals := 44 }
set_option maxRecDepth 100000 in
set_option maxHeartbeats 4000000 in
theorem kX5_forgets (l : Launch) (Dd : va_G) (Y : yT) (ad : Nat → Nat) (F : gF) (x1 : Int32) (r : Int32) (F' : gF) (hd : dnX5_forgets F x1 = some (r, F')) : MG l yX5_forgets wsX5_forgets rmX5_forgets Dd Y [.ref (ad 0), .int x1] (WM Y ad F) (WM Y ad F') (some (.int r)) := by
  refine MGi (cc := cX5_forgets) (maxL := 3) (ty := .int) (by decide) rfl (Nat.le_of_ble_eq_true rfl) (fun {p e s m args below meth c A} ls Q X hW hl hQ => ?_)
  have hx := X.x
  have hb := X.b
  have hl : lv_has ls 3 [(0, .ref (ad 0)), (1, .int x1)] := hl
  unfold dnX5_forgets at hd
  have K8 : ∀ (n : Nat) (x2 : Int32) (F : gF) (z : Nat × gF), lpX5_forgets_8 n x2 F = some z → ∀ (H : Heap) (locs : List Loc) (ls : Array Slot), Wd Dd A s.heap (WM Y ad F) H locs → lv_has ls 3 [(0, .ref (ad 0)), (2, .int x2)] → (∀ (H : Heap) (locs : List Loc) (ls : Array Slot), z.1 = 0 → Wd Dd A s.heap (WM Y ad z.2) H locs → lv_has ls 3 [(0, .ref (ad 0))] → W p l e rmX5_forgets s m args below meth c H locs 0 0 Q (F0 m 44 ls [])) → W p l e rmX5_forgets s m args below meth c H locs 0 0 Q (F0 m 8 ls []) := by
    intro n
    induction n with
    | zero => intro x2 F z hd; cases hd
    | succ n ih =>
      intro x2 F z hd H locs ls hW hl kx0
      unfold lpX5_forgets_8 at hd
      refine lv_iload_n hx hb dX5_forgets_8 rfl (lv_at hl 1 rfl) ?_
      refine lv_sipush (v := 292) hx hb dX5_forgets_9 (by decide) ?_
      refine lv_iconst (v := 2) hx hb dX5_forgets_12 (by decide) ?_
      refine lv_aload_n hx hb dX5_forgets_13 rfl (lv_at hl 0 rfl) ?_
      refine lv_bipush (v := 6) hx hb dX5_forgets_14 (by decide) ?_
      obtain ⟨r2, h1, hd⟩ := bp_e hd
      refine cVi_ (rest := [.int 2, .int 292, .int x2]) X (kX5_get l Dd Y ad F 6 r2 h1) (cwV 1 X.1.2.2.2.2 gX5_forgets_X5_get rfl rfl rfl (by decide +kernel) ⟨Nat.le_of_ble_eq_true rfl, Nat.le_of_ble_eq_true rfl⟩) hW 0 5 rfl rfl rfl rfl hl.1 rfl (Nat.le_of_ble_eq_true rfl) dX5_forgets_16 ⟨Nat.zero_le _, Nat.zero_le _⟩ (fun H locs hW => ?_)
      refine lv_imul hx hb dX5_forgets_19 ?_
      refine lv_iadd hx hb dX5_forgets_20 ?_
      refine lv_iconst (v := 2) hx hb dX5_forgets_21 (by decide) ?_
      refine lv_isub hx hb dX5_forgets_22 ?_
      refine lv_icmp_ge (tgt := 44) hx hb dX5_forgets_23 (by decide) (fun c3 => ?_) (fun c3 => ?_)
      · replace hd := if_t c3 hd
        cases hd
        exact kx0 _ _ _ rfl hW (lv_sub hl [0] rfl)
      · replace hd := if_f c3 hd
        refine lv_aload_n hx hb dX5_forgets_26 rfl (lv_at hl 0 rfl) ?_
        refine lv_iload_n hx hb dX5_forgets_27 rfl (lv_at hl 1 rfl) ?_
        refine lv_aload_n hx hb dX5_forgets_28 rfl (lv_at hl 0 rfl) ?_
        refine lv_iload_n hx hb dX5_forgets_29 rfl (lv_at hl 1 rfl) ?_
        refine lv_iconst (v := 2) hx hb dX5_forgets_30 (by decide) ?_
        refine lv_iadd hx hb dX5_forgets_31 ?_
        obtain ⟨r5, h4, hd⟩ := bp_e hd
        refine cVi_ (rest := [.int x2, .ref (ad 0)]) X (kX5_get l Dd Y ad F (x2 + 2) r5 h4) (cwV 1 X.1.2.2.2.2 gX5_forgets_X5_get rfl rfl rfl (by decide +kernel) ⟨Nat.le_of_ble_eq_true rfl, Nat.le_of_ble_eq_true rfl⟩) hW 0 5 rfl rfl rfl rfl hl.1 rfl (Nat.le_of_ble_eq_true rfl) dX5_forgets_32 ⟨Nat.zero_le _, Nat.zero_le _⟩ (fun H locs hW => ?_)
        obtain ⟨F7, h6, hd⟩ := bp_e hd
        refine cVv_ (rest := []) X (kX5_put0 l Dd Y ad F x2 r5 F7 h6) (cwV 2 X.1.2.2.2.2 gX5_forgets_X5_put0 rfl rfl rfl (by decide +kernel) ⟨Nat.le_of_ble_eq_true rfl, Nat.le_of_ble_eq_true rfl⟩) hW 0 5 rfl rfl rfl rfl hl.1 rfl (Nat.le_of_ble_eq_true rfl) dX5_forgets_35 ⟨Nat.zero_le _, Nat.zero_le _⟩ (fun H locs hW => ?_)
        refine lv_iinc (v := x2 + 1) (lv' := [(2, .int (x2 + 1)), (0, .ref (ad 0))]) hx hb dX5_forgets_38 hl (k := 1) rfl rfl (by decide) rfl (fun ls hl => ?_)
        refine lv_goto (tgt := 8) hx hb dX5_forgets_41 (by decide) ?_
        exact ih (x2 + 1) F7 z hd _ _ _ hW (lv_sub hl [1, 0] rfl) kx0
  refine lv_sipush (v := 292) hx hb dX5_forgets_0 (by decide) ?_
  refine lv_iconst (v := 2) hx hb dX5_forgets_3 (by decide) ?_
  refine lv_iload_n hx hb dX5_forgets_4 rfl (lv_at hl 1 rfl) ?_
  refine lv_imul hx hb dX5_forgets_5 ?_
  refine lv_iadd hx hb dX5_forgets_6 ?_
  refine lv_istore_n (lv' := [(2, .int (292 + (2 * x1))), (0, .ref (ad 0)), (1, .int x1)]) hx hb dX5_forgets_7 rfl hl (by decide) rfl (fun ls hl => ?_)
  obtain ⟨z8_7, hz8_7, hd⟩ := bp_e hd
  refine K8 FU (292 + (2 * x1)) F z8_7 hz8_7 _ _ _ hW (lv_sub hl [1, 0] rfl) (fun H locs ls e8 hW hl => ?_)
  refine lv_aload_n hx hb dX5_forgets_44 rfl (lv_at hl 0 rfl) ?_
  refine lv_bipush (v := 6) hx hb dX5_forgets_45 (by decide) ?_
  refine lv_iconst (v := (-1)) hx hb dX5_forgets_47 (by decide) ?_
  obtain ⟨F10, h9, hd⟩ := bp_e hd
  refine cVv_ (rest := []) X (kX5_adds l Dd Y ad z8_7.2 6 (-1) F10 h9) (cwV 2 X.1.2.2.2.2 gX5_forgets_X5_adds rfl rfl rfl (by decide +kernel) ⟨Nat.le_of_ble_eq_true rfl, Nat.le_of_ble_eq_true rfl⟩) hW 0 5 rfl rfl rfl rfl hl.1 rfl (Nat.le_of_ble_eq_true rfl) dX5_forgets_48 ⟨Nat.zero_le _, Nat.zero_le _⟩ (fun H locs hW => ?_)
  refine lv_aload_n hx hb dX5_forgets_51 rfl (lv_at hl 0 rfl) ?_
  refine lv_bipush (v := 6) hx hb dX5_forgets_52 (by decide) ?_
  obtain ⟨r12, h11, hd⟩ := bp_e hd
  refine cVi_ (rest := []) X (kX5_get l Dd Y ad F10 6 r12 h11) (cwV 1 X.1.2.2.2.2 gX5_forgets_X5_get rfl rfl rfl (by decide +kernel) ⟨Nat.le_of_ble_eq_true rfl, Nat.le_of_ble_eq_true rfl⟩) hW 0 5 rfl rfl rfl rfl hl.1 rfl (Nat.le_of_ble_eq_true rfl) dX5_forgets_54 ⟨Nat.zero_le _, Nat.zero_le _⟩ (fun H locs hW => ?_)
  obtain ⟨rfl, rfl⟩ := Prod.mk.inj (Option.some.inj hd)
  exact hQ _ _ _ _ rfl hW dX5_forgets_57
abbrev rmX5_putsIn : Room := { frames := 5, cells := 0, slots := 0, locals := 110 }
set_option maxRecDepth 100000 in
set_option maxHeartbeats 4000000 in
theorem kX5_putsIn (l : Launch) (Dd : va_G) (Y : yT) (ad : Nat → Nat) (F : gF) (x1 : Int32) (x2 : Int32) (r : Int32) (F' : gF) (hd : dnX5_putsIn F x1 x2 = some (r, F')) : MG l yX5_putsIn wsX5_putsIn rmX5_putsIn Dd Y [.ref (ad 0), .int x1, .int x2] (WM Y ad F) (WM Y ad F') (some (.int r)) := by
  refine MGi (cc := cX5_putsIn) (maxL := 4) (ty := .int) (by decide) rfl (Nat.le_of_ble_eq_true rfl) (fun {p e s m args below meth c A} ls Q X hW hl hQ => ?_)
  have hx := X.x
  have hb := X.b
  have hl : lv_has ls 4 [(0, .ref (ad 0)), (1, .int x1), (2, .int x2)] := hl
  unfold dnX5_putsIn at hd
  have K5 : ∀ (x1 : Int32) (x2 : Int32) (n : Nat) (x3 : Int32) (F : gF) (z : Nat × gF), lpX5_putsIn_5 x1 x2 n x3 F = some z → ∀ (H : Heap) (locs : List Loc) (ls : Array Slot), Wd Dd A s.heap (WM Y ad F) H locs → lv_has ls 4 [(0, .ref (ad 0)), (1, .int x1), (2, .int x2), (3, .int x3)] → (∀ (H : Heap) (locs : List Loc) (ls : Array Slot), z.1 = 0 → Wd Dd A s.heap (WM Y ad z.2) H locs → lv_has ls 4 [(0, .ref (ad 0)), (1, .int x1), (2, .int x2)] → W p l e rmX5_putsIn s m args below meth c H locs 0 0 Q (F0 m 31 ls [])) → W p l e rmX5_putsIn s m args below meth c H locs 0 0 Q (F0 m 5 ls []) := by
    intro x1 x2 n
    induction n with
    | zero => intro x3 F z hd; cases hd
    | succ n ih =>
      intro x3 F z hd H locs ls hW hl kx0
      unfold lpX5_putsIn_5 at hd
      refine lv_iload_n hx hb dX5_putsIn_5 rfl (lv_at hl 3 rfl) ?_
      refine lv_iload_n hx hb dX5_putsIn_6 rfl (lv_at hl 1 rfl) ?_
      refine lv_icmp_le (tgt := 31) hx hb dX5_putsIn_7 (by decide) (fun c1 => ?_) (fun c1 => ?_)
      · replace hd := if_t c1 hd
        cases hd
        exact kx0 _ _ _ rfl hW (lv_sub hl [0, 1, 2] rfl)
      · replace hd := if_f c1 hd
        refine lv_aload_n hx hb dX5_putsIn_10 rfl (lv_at hl 0 rfl) ?_
        refine lv_bipush (v := 12) hx hb dX5_putsIn_11 (by decide) ?_
        refine lv_iload_n hx hb dX5_putsIn_13 rfl (lv_at hl 3 rfl) ?_
        refine lv_iadd hx hb dX5_putsIn_14 ?_
        refine lv_aload_n hx hb dX5_putsIn_15 rfl (lv_at hl 0 rfl) ?_
        refine lv_iload_n hx hb dX5_putsIn_16 rfl (lv_at hl 3 rfl) ?_
        refine lv_iconst (v := 1) hx hb dX5_putsIn_17 (by decide) ?_
        refine lv_isub hx hb dX5_putsIn_18 ?_
        obtain ⟨r3, h2, hd⟩ := bp_e hd
        refine cVi_ (rest := [.int (12 + x3), .ref (ad 0)]) X (kX5_valueAt l Dd Y ad F (x3 - 1) r3 h2) (cwV 1 X.1.2.2.2.2 gX5_putsIn_X5_valueAt rfl rfl rfl (by decide +kernel) ⟨Nat.le_of_ble_eq_true rfl, Nat.le_of_ble_eq_true rfl⟩) hW 0 5 rfl rfl rfl rfl hl.1 rfl (Nat.le_of_ble_eq_true rfl) dX5_putsIn_19 ⟨Nat.zero_le _, Nat.zero_le _⟩ (fun H locs hW => ?_)
        obtain ⟨F5, h4, hd⟩ := bp_e hd
        refine cVv_ (rest := []) X (kX5_put0 l Dd Y ad F (12 + x3) r3 F5 h4) (cwV 2 X.1.2.2.2.2 gX5_putsIn_X5_put0 rfl rfl rfl (by decide +kernel) ⟨Nat.le_of_ble_eq_true rfl, Nat.le_of_ble_eq_true rfl⟩) hW 0 5 rfl rfl rfl rfl hl.1 rfl (Nat.le_of_ble_eq_true rfl) dX5_putsIn_22 ⟨Nat.zero_le _, Nat.zero_le _⟩ (fun H locs hW => ?_)
        refine lv_iinc (v := x3 + (-1)) (lv' := [(3, .int (x3 + (-1))), (0, .ref (ad 0)), (1, .int x1), (2, .int x2)]) hx hb dX5_putsIn_25 hl (k := 3) rfl rfl (by decide) rfl (fun ls hl => ?_)
        refine lv_goto (tgt := 5) hx hb dX5_putsIn_28 (by decide) ?_
        exact ih (x3 + (-1)) F5 z hd _ _ _ hW (lv_sub hl [1, 2, 3, 0] rfl) kx0
  have K48 : ∀ (x1 : Int32) (n : Nat) (x3 : Int32) (F : gF) (z : Nat × gF), lpX5_putsIn_48 x1 n x3 F = some z → ∀ (H : Heap) (locs : List Loc) (ls : Array Slot), Wd Dd A s.heap (WM Y ad F) H locs → lv_has ls 4 [(0, .ref (ad 0)), (1, .int x1), (3, .int x3)] → (∀ (H : Heap) (locs : List Loc) (ls : Array Slot), z.1 = 0 → Wd Dd A s.heap (WM Y ad z.2) H locs → lv_has ls 4 [(0, .ref (ad 0))] → W p l e rmX5_putsIn s m args below meth c H locs 0 0 Q (F0 m 111 ls [])) → W p l e rmX5_putsIn s m args below meth c H locs 0 0 Q (F0 m 48 ls []) := by
    intro x1 n
    induction n with
    | zero => intro x3 F z hd; cases hd
    | succ n ih =>
      intro x3 F z hd H locs ls hW hl kx0
      unfold lpX5_putsIn_48 at hd
      refine lv_iload_n hx hb dX5_putsIn_48 rfl (lv_at hl 2 rfl) ?_
      refine lv_aload_n hx hb dX5_putsIn_49 rfl (lv_at hl 0 rfl) ?_
      refine lv_bipush (v := 6) hx hb dX5_putsIn_50 (by decide) ?_
      obtain ⟨r7, h6, hd⟩ := bp_e hd
      refine cVi_ (rest := [.int x3]) X (kX5_get l Dd Y ad F 6 r7 h6) (cwV 1 X.1.2.2.2.2 gX5_putsIn_X5_get rfl rfl rfl (by decide +kernel) ⟨Nat.le_of_ble_eq_true rfl, Nat.le_of_ble_eq_true rfl⟩) hW 0 5 rfl rfl rfl rfl hl.1 rfl (Nat.le_of_ble_eq_true rfl) dX5_putsIn_52 ⟨Nat.zero_le _, Nat.zero_le _⟩ (fun H locs hW => ?_)
      refine lv_icmp_ge (tgt := 111) hx hb dX5_putsIn_55 (by decide) (fun c8 => ?_) (fun c8 => ?_)
      · replace hd := if_t c8 hd
        cases hd
        exact kx0 _ _ _ rfl hW (lv_sub hl [0] rfl)
      · replace hd := if_f c8 hd
        refine lv_aload_n hx hb dX5_putsIn_58 rfl (lv_at hl 0 rfl) ?_
        refine lv_iload_n hx hb dX5_putsIn_59 rfl (lv_at hl 2 rfl) ?_
        obtain ⟨r10, h9, hd⟩ := bp_e hd
        refine cVi_ (rest := []) X (kX5_keptTo l Dd Y ad F x3 r10 h9) (cwV 1 X.1.2.2.2.2 gX5_putsIn_X5_keptTo rfl rfl rfl (by decide +kernel) ⟨Nat.le_of_ble_eq_true rfl, Nat.le_of_ble_eq_true rfl⟩) hW 0 5 rfl rfl rfl rfl hl.1 rfl (Nat.le_of_ble_eq_true rfl) dX5_putsIn_60 ⟨Nat.zero_le _, Nat.zero_le _⟩ (fun H locs hW => ?_)
        refine lv_iload_n hx hb dX5_putsIn_63 rfl (lv_at hl 1 rfl) ?_
        refine lv_icmp_ge (tgt := 70) hx hb dX5_putsIn_64 (by decide) (fun c11 => ?_) (fun c11 => ?_)
        · replace hd := if_t c11 hd
          refine lv_aload_n hx hb dX5_putsIn_70 rfl (lv_at hl 0 rfl) ?_
          refine lv_iload_n hx hb dX5_putsIn_71 rfl (lv_at hl 2 rfl) ?_
          obtain ⟨r13, h12, hd⟩ := bp_e hd
          refine cVi_ (rest := []) X (kX5_keptFrom l Dd Y ad F x3 r13 h12) (cwV 1 X.1.2.2.2.2 gX5_putsIn_X5_keptFrom rfl rfl rfl (by decide +kernel) ⟨Nat.le_of_ble_eq_true rfl, Nat.le_of_ble_eq_true rfl⟩) hW 0 5 rfl rfl rfl rfl hl.1 rfl (Nat.le_of_ble_eq_true rfl) dX5_putsIn_72 ⟨Nat.zero_le _, Nat.zero_le _⟩ (fun H locs hW => ?_)
          refine lv_iload_n hx hb dX5_putsIn_75 rfl (lv_at hl 1 rfl) ?_
          refine lv_icmp_lt (tgt := 91) hx hb dX5_putsIn_76 (by decide) (fun c14 => ?_) (fun c14 => ?_)
          · replace hd := if_t c14 hd
            refine lv_aload_n hx hb dX5_putsIn_91 rfl (lv_at hl 0 rfl) ?_
            refine lv_sipush (v := 292) hx hb dX5_putsIn_92 (by decide) ?_
            refine lv_iconst (v := 2) hx hb dX5_putsIn_95 (by decide) ?_
            refine lv_iload_n hx hb dX5_putsIn_96 rfl (lv_at hl 2 rfl) ?_
            refine lv_imul hx hb dX5_putsIn_97 ?_
            refine lv_iadd hx hb dX5_putsIn_98 ?_
            refine lv_iconst (v := 1) hx hb dX5_putsIn_99 (by decide) ?_
            refine lv_iadd hx hb dX5_putsIn_100 ?_
            refine lv_iconst (v := 1) hx hb dX5_putsIn_101 (by decide) ?_
            obtain ⟨F16, h15, hd⟩ := bp_e hd
            refine cVv_ (rest := []) X (kX5_adds l Dd Y ad F ((292 + (2 * x3)) + 1) 1 F16 h15) (cwV 2 X.1.2.2.2.2 gX5_putsIn_X5_adds rfl rfl rfl (by decide +kernel) ⟨Nat.le_of_ble_eq_true rfl, Nat.le_of_ble_eq_true rfl⟩) hW 0 5 rfl rfl rfl rfl hl.1 rfl (Nat.le_of_ble_eq_true rfl) dX5_putsIn_102 ⟨Nat.zero_le _, Nat.zero_le _⟩ (fun H locs hW => ?_)
            refine lv_iinc (v := x3 + 1) (lv' := [(3, .int (x3 + 1)), (0, .ref (ad 0)), (1, .int x1)]) hx hb dX5_putsIn_105 hl (k := 2) rfl rfl (by decide) rfl (fun ls hl => ?_)
            refine lv_goto (tgt := 48) hx hb dX5_putsIn_108 (by decide) ?_
            exact ih (x3 + 1) F16 z hd _ _ _ hW (lv_sub hl [1, 2, 0] rfl) kx0
          · replace hd := if_f c14 hd
            refine lv_aload_n hx hb dX5_putsIn_79 rfl (lv_at hl 0 rfl) ?_
            refine lv_sipush (v := 292) hx hb dX5_putsIn_80 (by decide) ?_
            refine lv_iconst (v := 2) hx hb dX5_putsIn_83 (by decide) ?_
            refine lv_iload_n hx hb dX5_putsIn_84 rfl (lv_at hl 2 rfl) ?_
            refine lv_imul hx hb dX5_putsIn_85 ?_
            refine lv_iadd hx hb dX5_putsIn_86 ?_
            refine lv_iconst (v := 1) hx hb dX5_putsIn_87 (by decide) ?_
            obtain ⟨F18, h17, hd⟩ := bp_e hd
            refine cVv_ (rest := []) X (kX5_adds l Dd Y ad F (292 + (2 * x3)) 1 F18 h17) (cwV 2 X.1.2.2.2.2 gX5_putsIn_X5_adds rfl rfl rfl (by decide +kernel) ⟨Nat.le_of_ble_eq_true rfl, Nat.le_of_ble_eq_true rfl⟩) hW 0 5 rfl rfl rfl rfl hl.1 rfl (Nat.le_of_ble_eq_true rfl) dX5_putsIn_88 ⟨Nat.zero_le _, Nat.zero_le _⟩ (fun H locs hW => ?_)
            refine lv_aload_n hx hb dX5_putsIn_91 rfl (lv_at hl 0 rfl) ?_
            refine lv_sipush (v := 292) hx hb dX5_putsIn_92 (by decide) ?_
            refine lv_iconst (v := 2) hx hb dX5_putsIn_95 (by decide) ?_
            refine lv_iload_n hx hb dX5_putsIn_96 rfl (lv_at hl 2 rfl) ?_
            refine lv_imul hx hb dX5_putsIn_97 ?_
            refine lv_iadd hx hb dX5_putsIn_98 ?_
            refine lv_iconst (v := 1) hx hb dX5_putsIn_99 (by decide) ?_
            refine lv_iadd hx hb dX5_putsIn_100 ?_
            refine lv_iconst (v := 1) hx hb dX5_putsIn_101 (by decide) ?_
            obtain ⟨F20, h19, hd⟩ := bp_e hd
            refine cVv_ (rest := []) X (kX5_adds l Dd Y ad F18 ((292 + (2 * x3)) + 1) 1 F20 h19) (cwV 2 X.1.2.2.2.2 gX5_putsIn_X5_adds rfl rfl rfl (by decide +kernel) ⟨Nat.le_of_ble_eq_true rfl, Nat.le_of_ble_eq_true rfl⟩) hW 0 5 rfl rfl rfl rfl hl.1 rfl (Nat.le_of_ble_eq_true rfl) dX5_putsIn_102 ⟨Nat.zero_le _, Nat.zero_le _⟩ (fun H locs hW => ?_)
            refine lv_iinc (v := x3 + 1) (lv' := [(3, .int (x3 + 1)), (0, .ref (ad 0)), (1, .int x1)]) hx hb dX5_putsIn_105 hl (k := 2) rfl rfl (by decide) rfl (fun ls hl => ?_)
            refine lv_goto (tgt := 48) hx hb dX5_putsIn_108 (by decide) ?_
            exact ih (x3 + 1) F20 z hd _ _ _ hW (lv_sub hl [1, 2, 0] rfl) kx0
        · replace hd := if_f c11 hd
          refine lv_goto (tgt := 105) hx hb dX5_putsIn_67 (by decide) ?_
          refine lv_iinc (v := x3 + 1) (lv' := [(3, .int (x3 + 1)), (0, .ref (ad 0)), (1, .int x1)]) hx hb dX5_putsIn_105 hl (k := 2) rfl rfl (by decide) rfl (fun ls hl => ?_)
          refine lv_goto (tgt := 48) hx hb dX5_putsIn_108 (by decide) ?_
          exact ih (x3 + 1) F z hd _ _ _ hW (lv_sub hl [1, 2, 0] rfl) kx0
  refine lv_aload_n hx hb dX5_putsIn_0 rfl (lv_at hl 0 rfl) ?_
  obtain ⟨r22, h21, hd⟩ := bp_e hd
  refine cVi_ (rest := []) X (kX5_size l Dd Y ad F r22 h21) (cwV 0 X.1.2.2.2.2 gX5_putsIn_X5_size rfl rfl rfl (by decide +kernel) ⟨Nat.le_of_ble_eq_true rfl, Nat.le_of_ble_eq_true rfl⟩) hW 0 5 rfl rfl rfl rfl hl.1 rfl (Nat.le_of_ble_eq_true rfl) dX5_putsIn_1 ⟨Nat.zero_le _, Nat.zero_le _⟩ (fun H locs hW => ?_)
  refine lv_istore_n (lv' := [(3, .int r22), (0, .ref (ad 0)), (1, .int x1), (2, .int x2)]) hx hb dX5_putsIn_4 rfl hl (by decide) rfl (fun ls hl => ?_)
  obtain ⟨z5_22, hz5_22, hd⟩ := bp_e hd
  refine K5 x1 x2 FU r22 F z5_22 hz5_22 _ _ _ hW (lv_sub hl [1, 2, 3, 0] rfl) (fun H locs ls e5 hW hl => ?_)
  refine lv_aload_n hx hb dX5_putsIn_31 rfl (lv_at hl 0 rfl) ?_
  refine lv_bipush (v := 12) hx hb dX5_putsIn_32 (by decide) ?_
  refine lv_iload_n hx hb dX5_putsIn_34 rfl (lv_at hl 1 rfl) ?_
  refine lv_iadd hx hb dX5_putsIn_35 ?_
  refine lv_iload_n hx hb dX5_putsIn_36 rfl (lv_at hl 2 rfl) ?_
  obtain ⟨F25, h24, hd⟩ := bp_e hd
  refine cVv_ (rest := []) X (kX5_put0 l Dd Y ad z5_22.2 (12 + x1) x2 F25 h24) (cwV 2 X.1.2.2.2.2 gX5_putsIn_X5_put0 rfl rfl rfl (by decide +kernel) ⟨Nat.le_of_ble_eq_true rfl, Nat.le_of_ble_eq_true rfl⟩) hW 0 5 rfl rfl rfl rfl hl.1 rfl (Nat.le_of_ble_eq_true rfl) dX5_putsIn_37 ⟨Nat.zero_le _, Nat.zero_le _⟩ (fun H locs hW => ?_)
  refine lv_aload_n hx hb dX5_putsIn_40 rfl (lv_at hl 0 rfl) ?_
  refine lv_iconst (v := 0) hx hb dX5_putsIn_41 (by decide) ?_
  refine lv_iconst (v := 1) hx hb dX5_putsIn_42 (by decide) ?_
  obtain ⟨F27, h26, hd⟩ := bp_e hd
  refine cVv_ (rest := []) X (kX5_adds l Dd Y ad F25 0 1 F27 h26) (cwV 2 X.1.2.2.2.2 gX5_putsIn_X5_adds rfl rfl rfl (by decide +kernel) ⟨Nat.le_of_ble_eq_true rfl, Nat.le_of_ble_eq_true rfl⟩) hW 0 5 rfl rfl rfl rfl hl.1 rfl (Nat.le_of_ble_eq_true rfl) dX5_putsIn_43 ⟨Nat.zero_le _, Nat.zero_le _⟩ (fun H locs hW => ?_)
  refine lv_iconst (v := 0) hx hb dX5_putsIn_46 (by decide) ?_
  refine lv_istore_n (lv' := [(3, .int 0), (0, .ref (ad 0)), (1, .int x1), (2, .int x2)]) hx hb dX5_putsIn_47 rfl hl (by decide) rfl (fun ls hl => ?_)
  obtain ⟨z48_27, hz48_27, hd⟩ := bp_e hd
  refine K48 x1 FU 0 F27 z48_27 hz48_27 _ _ _ hW (lv_sub hl [1, 2, 0] rfl) (fun H locs ls e48 hW hl => ?_)
  refine lv_aload_n hx hb dX5_putsIn_111 rfl (lv_at hl 0 rfl) ?_
  obtain ⟨F30, h29, hd⟩ := bp_e hd
  refine cVv_ (rest := []) X (kX5_builds l Dd Y ad z48_27.2 F30 h29) (cwV 0 X.1.2.2.2.2 gX5_putsIn_X5_builds rfl rfl rfl (by decide +kernel) ⟨Nat.le_of_ble_eq_true rfl, Nat.le_of_ble_eq_true rfl⟩) hW 0 5 rfl rfl rfl rfl hl.1 rfl (Nat.le_of_ble_eq_true rfl) dX5_putsIn_112 ⟨Nat.zero_le _, Nat.zero_le _⟩ (fun H locs hW => ?_)
  refine lv_aload_n hx hb dX5_putsIn_115 rfl (lv_at hl 0 rfl) ?_
  obtain ⟨r32, h31, hd⟩ := bp_e hd
  refine cVi_ (rest := []) X (kX5_size l Dd Y ad F30 r32 h31) (cwV 0 X.1.2.2.2.2 gX5_putsIn_X5_size rfl rfl rfl (by decide +kernel) ⟨Nat.le_of_ble_eq_true rfl, Nat.le_of_ble_eq_true rfl⟩) hW 0 5 rfl rfl rfl rfl hl.1 rfl (Nat.le_of_ble_eq_true rfl) dX5_putsIn_116 ⟨Nat.zero_le _, Nat.zero_le _⟩ (fun H locs hW => ?_)
  obtain ⟨rfl, rfl⟩ := Prod.mk.inj (Option.some.inj hd)
  exact hQ _ _ _ _ rfl hW dX5_putsIn_119
abbrev rmX5_takesOut : Room := { frames := 5, cells := 0, slots := 0, locals := 110 }
set_option maxRecDepth 100000 in
set_option maxHeartbeats 4000000 in
theorem kX5_takesOut (l : Launch) (Dd : va_G) (Y : yT) (ad : Nat → Nat) (F : gF) (x1 : Int32) (r : Int32) (F' : gF) (hd : dnX5_takesOut F x1 = some (r, F')) : MG l yX5_takesOut wsX5_takesOut rmX5_takesOut Dd Y [.ref (ad 0), .int x1] (WM Y ad F) (WM Y ad F') (some (.int r)) := by
  refine MGi (cc := cX5_takesOut) (maxL := 4) (ty := .int) (by decide) rfl (Nat.le_of_ble_eq_true rfl) (fun {p e s m args below meth c A} ls Q X hW hl hQ => ?_)
  have hx := X.x
  have hb := X.b
  have hl : lv_has ls 4 [(0, .ref (ad 0)), (1, .int x1)] := hl
  unfold dnX5_takesOut at hd
  have K8 : ∀ (x1 : Int32) (x2 : Int32) (n : Nat) (x3 : Int32) (F : gF) (z : Nat × gF), lpX5_takesOut_8 x1 x2 n x3 F = some z → ∀ (H : Heap) (locs : List Loc) (ls : Array Slot), Wd Dd A s.heap (WM Y ad F) H locs → lv_has ls 4 [(0, .ref (ad 0)), (1, .int x1), (2, .int x2), (3, .int x3)] → (∀ (H : Heap) (locs : List Loc) (ls : Array Slot), z.1 = 0 → Wd Dd A s.heap (WM Y ad z.2) H locs → lv_has ls 4 [(0, .ref (ad 0)), (1, .int x1), (2, .int x2)] → W p l e rmX5_takesOut s m args below meth c H locs 0 0 Q (F0 m 39 ls [])) → W p l e rmX5_takesOut s m args below meth c H locs 0 0 Q (F0 m 8 ls []) := by
    intro x1 x2 n
    induction n with
    | zero => intro x3 F z hd; cases hd
    | succ n ih =>
      intro x3 F z hd H locs ls hW hl kx0
      unfold lpX5_takesOut_8 at hd
      refine lv_iload_n hx hb dX5_takesOut_8 rfl (lv_at hl 3 rfl) ?_
      refine lv_aload_n hx hb dX5_takesOut_9 rfl (lv_at hl 0 rfl) ?_
      obtain ⟨r2, h1, hd⟩ := bp_e hd
      refine cVi_ (rest := [.int x3]) X (kX5_size l Dd Y ad F r2 h1) (cwV 0 X.1.2.2.2.2 gX5_takesOut_X5_size rfl rfl rfl (by decide +kernel) ⟨Nat.le_of_ble_eq_true rfl, Nat.le_of_ble_eq_true rfl⟩) hW 0 5 rfl rfl rfl rfl hl.1 rfl (Nat.le_of_ble_eq_true rfl) dX5_takesOut_10 ⟨Nat.zero_le _, Nat.zero_le _⟩ (fun H locs hW => ?_)
      refine lv_iconst (v := 1) hx hb dX5_takesOut_13 (by decide) ?_
      refine lv_isub hx hb dX5_takesOut_14 ?_
      refine lv_icmp_ge (tgt := 39) hx hb dX5_takesOut_15 (by decide) (fun c3 => ?_) (fun c3 => ?_)
      · replace hd := if_t c3 hd
        cases hd
        exact kx0 _ _ _ rfl hW (lv_sub hl [0, 1, 2] rfl)
      · replace hd := if_f c3 hd
        refine lv_aload_n hx hb dX5_takesOut_18 rfl (lv_at hl 0 rfl) ?_
        refine lv_bipush (v := 12) hx hb dX5_takesOut_19 (by decide) ?_
        refine lv_iload_n hx hb dX5_takesOut_21 rfl (lv_at hl 3 rfl) ?_
        refine lv_iadd hx hb dX5_takesOut_22 ?_
        refine lv_aload_n hx hb dX5_takesOut_23 rfl (lv_at hl 0 rfl) ?_
        refine lv_iload_n hx hb dX5_takesOut_24 rfl (lv_at hl 3 rfl) ?_
        refine lv_iconst (v := 1) hx hb dX5_takesOut_25 (by decide) ?_
        refine lv_iadd hx hb dX5_takesOut_26 ?_
        obtain ⟨r5, h4, hd⟩ := bp_e hd
        refine cVi_ (rest := [.int (12 + x3), .ref (ad 0)]) X (kX5_valueAt l Dd Y ad F (x3 + 1) r5 h4) (cwV 1 X.1.2.2.2.2 gX5_takesOut_X5_valueAt rfl rfl rfl (by decide +kernel) ⟨Nat.le_of_ble_eq_true rfl, Nat.le_of_ble_eq_true rfl⟩) hW 0 5 rfl rfl rfl rfl hl.1 rfl (Nat.le_of_ble_eq_true rfl) dX5_takesOut_27 ⟨Nat.zero_le _, Nat.zero_le _⟩ (fun H locs hW => ?_)
        obtain ⟨F7, h6, hd⟩ := bp_e hd
        refine cVv_ (rest := []) X (kX5_put0 l Dd Y ad F (12 + x3) r5 F7 h6) (cwV 2 X.1.2.2.2.2 gX5_takesOut_X5_put0 rfl rfl rfl (by decide +kernel) ⟨Nat.le_of_ble_eq_true rfl, Nat.le_of_ble_eq_true rfl⟩) hW 0 5 rfl rfl rfl rfl hl.1 rfl (Nat.le_of_ble_eq_true rfl) dX5_takesOut_30 ⟨Nat.zero_le _, Nat.zero_le _⟩ (fun H locs hW => ?_)
        refine lv_iinc (v := x3 + 1) (lv' := [(3, .int (x3 + 1)), (0, .ref (ad 0)), (1, .int x1), (2, .int x2)]) hx hb dX5_takesOut_33 hl (k := 3) rfl rfl (by decide) rfl (fun ls hl => ?_)
        refine lv_goto (tgt := 8) hx hb dX5_takesOut_36 (by decide) ?_
        exact ih (x3 + 1) F7 z hd _ _ _ hW (lv_sub hl [1, 2, 3, 0] rfl) kx0
  have K54 : ∀ (x1 : Int32) (x2 : Int32) (n : Nat) (x3 : Int32) (F : gF) (z : Nat × gF), lpX5_takesOut_54 x1 x2 n x3 F = some z → ∀ (H : Heap) (locs : List Loc) (ls : Array Slot), Wd Dd A s.heap (WM Y ad F) H locs → lv_has ls 4 [(0, .ref (ad 0)), (1, .int x1), (2, .int x2), (3, .int x3)] → (∀ (H : Heap) (locs : List Loc) (ls : Array Slot), z.1 = 0 → Wd Dd A s.heap (WM Y ad z.2) H locs → lv_has ls 4 [(2, .int x2)] → W p l e rmX5_takesOut s m args below meth c H locs 0 0 Q (F0 m 126 ls [])) → (∀ (H : Heap) (locs : List Loc) (ls : Array Slot), z.1 = 1 → Wd Dd A s.heap (WM Y ad z.2) H locs → lv_has ls 4 [(0, .ref (ad 0)), (2, .int x2)] → W p l e rmX5_takesOut s m args below meth c H locs 0 0 Q (F0 m 134 ls [])) → W p l e rmX5_takesOut s m args below meth c H locs 0 0 Q (F0 m 54 ls []) := by
    intro x1 x2 n
    induction n with
    | zero => intro x3 F z hd; cases hd
    | succ n ih =>
      intro x3 F z hd H locs ls hW hl kx0 kx1
      unfold lpX5_takesOut_54 at hd
      refine lv_iload_n hx hb dX5_takesOut_54 rfl (lv_at hl 3 rfl) ?_
      refine lv_if_lt (tgt := 134) hx hb dX5_takesOut_55 (by decide) (fun c8 => ?_) (fun c8 => ?_)
      · replace hd := if_t c8 hd
        cases hd
        exact kx1 _ _ _ rfl hW (lv_sub hl [0, 2] rfl)
      · replace hd := if_f c8 hd
        refine lv_aload_n hx hb dX5_takesOut_58 rfl (lv_at hl 0 rfl) ?_
        refine lv_iload_n hx hb dX5_takesOut_59 rfl (lv_at hl 3 rfl) ?_
        obtain ⟨r10, h9, hd⟩ := bp_e hd
        refine cVi_ (rest := []) X (kX5_keptTo l Dd Y ad F x3 r10 h9) (cwV 1 X.1.2.2.2.2 gX5_takesOut_X5_keptTo rfl rfl rfl (by decide +kernel) ⟨Nat.le_of_ble_eq_true rfl, Nat.le_of_ble_eq_true rfl⟩) hW 0 5 rfl rfl rfl rfl hl.1 rfl (Nat.le_of_ble_eq_true rfl) dX5_takesOut_60 ⟨Nat.zero_le _, Nat.zero_le _⟩ (fun H locs hW => ?_)
        refine lv_iload_n hx hb dX5_takesOut_63 rfl (lv_at hl 1 rfl) ?_
        refine lv_icmp_ge (tgt := 70) hx hb dX5_takesOut_64 (by decide) (fun c11 => ?_) (fun c11 => ?_)
        · replace hd := if_t c11 hd
          refine lv_aload_n hx hb dX5_takesOut_70 rfl (lv_at hl 0 rfl) ?_
          refine lv_iload_n hx hb dX5_takesOut_71 rfl (lv_at hl 3 rfl) ?_
          obtain ⟨r13, h12, hd⟩ := bp_e hd
          refine cVi_ (rest := []) X (kX5_keptFrom l Dd Y ad F x3 r13 h12) (cwV 1 X.1.2.2.2.2 gX5_takesOut_X5_keptFrom rfl rfl rfl (by decide +kernel) ⟨Nat.le_of_ble_eq_true rfl, Nat.le_of_ble_eq_true rfl⟩) hW 0 5 rfl rfl rfl rfl hl.1 rfl (Nat.le_of_ble_eq_true rfl) dX5_takesOut_72 ⟨Nat.zero_le _, Nat.zero_le _⟩ (fun H locs hW => ?_)
          refine lv_iload_n hx hb dX5_takesOut_75 rfl (lv_at hl 1 rfl) ?_
          refine lv_icmp_le (tgt := 91) hx hb dX5_takesOut_76 (by decide) (fun c14 => ?_) (fun c14 => ?_)
          · replace hd := if_t c14 hd
            refine lv_aload_n hx hb dX5_takesOut_91 rfl (lv_at hl 0 rfl) ?_
            refine lv_sipush (v := 292) hx hb dX5_takesOut_92 (by decide) ?_
            refine lv_iconst (v := 2) hx hb dX5_takesOut_95 (by decide) ?_
            refine lv_iload_n hx hb dX5_takesOut_96 rfl (lv_at hl 3 rfl) ?_
            refine lv_imul hx hb dX5_takesOut_97 ?_
            refine lv_iadd hx hb dX5_takesOut_98 ?_
            refine lv_iconst (v := 1) hx hb dX5_takesOut_99 (by decide) ?_
            refine lv_iadd hx hb dX5_takesOut_100 ?_
            refine lv_iconst (v := (-1)) hx hb dX5_takesOut_101 (by decide) ?_
            obtain ⟨F16, h15, hd⟩ := bp_e hd
            refine cVv_ (rest := []) X (kX5_adds l Dd Y ad F ((292 + (2 * x3)) + 1) (-1) F16 h15) (cwV 2 X.1.2.2.2.2 gX5_takesOut_X5_adds rfl rfl rfl (by decide +kernel) ⟨Nat.le_of_ble_eq_true rfl, Nat.le_of_ble_eq_true rfl⟩) hW 0 5 rfl rfl rfl rfl hl.1 rfl (Nat.le_of_ble_eq_true rfl) dX5_takesOut_102 ⟨Nat.zero_le _, Nat.zero_le _⟩ (fun H locs hW => ?_)
            refine lv_aload_n hx hb dX5_takesOut_105 rfl (lv_at hl 0 rfl) ?_
            refine lv_iload_n hx hb dX5_takesOut_106 rfl (lv_at hl 3 rfl) ?_
            obtain ⟨r18, h17, hd⟩ := bp_e hd
            refine cVi_ (rest := []) X (kX5_keptTo l Dd Y ad F16 x3 r18 h17) (cwV 1 X.1.2.2.2.2 gX5_takesOut_X5_keptTo rfl rfl rfl (by decide +kernel) ⟨Nat.le_of_ble_eq_true rfl, Nat.le_of_ble_eq_true rfl⟩) hW 0 5 rfl rfl rfl rfl hl.1 rfl (Nat.le_of_ble_eq_true rfl) dX5_takesOut_107 ⟨Nat.zero_le _, Nat.zero_le _⟩ (fun H locs hW => ?_)
            refine lv_aload_n hx hb dX5_takesOut_110 rfl (lv_at hl 0 rfl) ?_
            refine lv_iload_n hx hb dX5_takesOut_111 rfl (lv_at hl 3 rfl) ?_
            obtain ⟨r20, h19, hd⟩ := bp_e hd
            refine cVi_ (rest := [.int r18]) X (kX5_keptFrom l Dd Y ad F16 x3 r20 h19) (cwV 1 X.1.2.2.2.2 gX5_takesOut_X5_keptFrom rfl rfl rfl (by decide +kernel) ⟨Nat.le_of_ble_eq_true rfl, Nat.le_of_ble_eq_true rfl⟩) hW 0 5 rfl rfl rfl rfl hl.1 rfl (Nat.le_of_ble_eq_true rfl) dX5_takesOut_112 ⟨Nat.zero_le _, Nat.zero_le _⟩ (fun H locs hW => ?_)
            refine lv_icmp_ge (tgt := 128) hx hb dX5_takesOut_115 (by decide) (fun c21 => ?_) (fun c21 => ?_)
            · replace hd := if_t c21 hd
              refine lv_iinc (v := x3 + (-1)) (lv' := [(3, .int (x3 + (-1))), (0, .ref (ad 0)), (1, .int x1), (2, .int x2)]) hx hb dX5_takesOut_128 hl (k := 3) rfl rfl (by decide) rfl (fun ls hl => ?_)
              refine lv_goto (tgt := 54) hx hb dX5_takesOut_131 (by decide) ?_
              exact ih (x3 + (-1)) F16 z hd _ _ _ hW (lv_sub hl [1, 2, 3, 0] rfl) kx0 kx1
            · replace hd := if_f c21 hd
              refine lv_aload_n hx hb dX5_takesOut_118 rfl (lv_at hl 0 rfl) ?_
              refine lv_iload_n hx hb dX5_takesOut_119 rfl (lv_at hl 3 rfl) ?_
              obtain ⟨r23, F24, h22, hd⟩ := bs_e hd
              refine cVi_ (rest := []) X (kX5_forgets l Dd Y ad F16 x3 r23 F24 h22) (cwV 1 X.1.2.2.2.2 gX5_takesOut_X5_forgets rfl rfl rfl (by decide +kernel) ⟨Nat.le_of_ble_eq_true rfl, Nat.le_of_ble_eq_true rfl⟩) hW 0 5 rfl rfl rfl rfl hl.1 rfl (Nat.le_of_ble_eq_true rfl) dX5_takesOut_120 ⟨Nat.zero_le _, Nat.zero_le _⟩ (fun H locs hW => ?_)
              refine lv_if_ge (tgt := 128) hx hb dX5_takesOut_123 (by decide) (fun c25 => ?_) (fun c25 => ?_)
              · replace hd := if_t c25 hd
                refine lv_iinc (v := x3 + (-1)) (lv' := [(3, .int (x3 + (-1))), (0, .ref (ad 0)), (1, .int x1), (2, .int x2)]) hx hb dX5_takesOut_128 hl (k := 3) rfl rfl (by decide) rfl (fun ls hl => ?_)
                refine lv_goto (tgt := 54) hx hb dX5_takesOut_131 (by decide) ?_
                exact ih (x3 + (-1)) F24 z hd _ _ _ hW (lv_sub hl [1, 2, 3, 0] rfl) kx0 kx1
              · replace hd := if_f c25 hd
                cases hd
                exact kx0 _ _ _ rfl hW (lv_sub hl [2] rfl)
          · replace hd := if_f c14 hd
            refine lv_aload_n hx hb dX5_takesOut_79 rfl (lv_at hl 0 rfl) ?_
            refine lv_sipush (v := 292) hx hb dX5_takesOut_80 (by decide) ?_
            refine lv_iconst (v := 2) hx hb dX5_takesOut_83 (by decide) ?_
            refine lv_iload_n hx hb dX5_takesOut_84 rfl (lv_at hl 3 rfl) ?_
            refine lv_imul hx hb dX5_takesOut_85 ?_
            refine lv_iadd hx hb dX5_takesOut_86 ?_
            refine lv_iconst (v := (-1)) hx hb dX5_takesOut_87 (by decide) ?_
            obtain ⟨F27, h26, hd⟩ := bp_e hd
            refine cVv_ (rest := []) X (kX5_adds l Dd Y ad F (292 + (2 * x3)) (-1) F27 h26) (cwV 2 X.1.2.2.2.2 gX5_takesOut_X5_adds rfl rfl rfl (by decide +kernel) ⟨Nat.le_of_ble_eq_true rfl, Nat.le_of_ble_eq_true rfl⟩) hW 0 5 rfl rfl rfl rfl hl.1 rfl (Nat.le_of_ble_eq_true rfl) dX5_takesOut_88 ⟨Nat.zero_le _, Nat.zero_le _⟩ (fun H locs hW => ?_)
            refine lv_aload_n hx hb dX5_takesOut_91 rfl (lv_at hl 0 rfl) ?_
            refine lv_sipush (v := 292) hx hb dX5_takesOut_92 (by decide) ?_
            refine lv_iconst (v := 2) hx hb dX5_takesOut_95 (by decide) ?_
            refine lv_iload_n hx hb dX5_takesOut_96 rfl (lv_at hl 3 rfl) ?_
            refine lv_imul hx hb dX5_takesOut_97 ?_
            refine lv_iadd hx hb dX5_takesOut_98 ?_
            refine lv_iconst (v := 1) hx hb dX5_takesOut_99 (by decide) ?_
            refine lv_iadd hx hb dX5_takesOut_100 ?_
            refine lv_iconst (v := (-1)) hx hb dX5_takesOut_101 (by decide) ?_
            obtain ⟨F29, h28, hd⟩ := bp_e hd
            refine cVv_ (rest := []) X (kX5_adds l Dd Y ad F27 ((292 + (2 * x3)) + 1) (-1) F29 h28) (cwV 2 X.1.2.2.2.2 gX5_takesOut_X5_adds rfl rfl rfl (by decide +kernel) ⟨Nat.le_of_ble_eq_true rfl, Nat.le_of_ble_eq_true rfl⟩) hW 0 5 rfl rfl rfl rfl hl.1 rfl (Nat.le_of_ble_eq_true rfl) dX5_takesOut_102 ⟨Nat.zero_le _, Nat.zero_le _⟩ (fun H locs hW => ?_)
            refine lv_aload_n hx hb dX5_takesOut_105 rfl (lv_at hl 0 rfl) ?_
            refine lv_iload_n hx hb dX5_takesOut_106 rfl (lv_at hl 3 rfl) ?_
            obtain ⟨r31, h30, hd⟩ := bp_e hd
            refine cVi_ (rest := []) X (kX5_keptTo l Dd Y ad F29 x3 r31 h30) (cwV 1 X.1.2.2.2.2 gX5_takesOut_X5_keptTo rfl rfl rfl (by decide +kernel) ⟨Nat.le_of_ble_eq_true rfl, Nat.le_of_ble_eq_true rfl⟩) hW 0 5 rfl rfl rfl rfl hl.1 rfl (Nat.le_of_ble_eq_true rfl) dX5_takesOut_107 ⟨Nat.zero_le _, Nat.zero_le _⟩ (fun H locs hW => ?_)
            refine lv_aload_n hx hb dX5_takesOut_110 rfl (lv_at hl 0 rfl) ?_
            refine lv_iload_n hx hb dX5_takesOut_111 rfl (lv_at hl 3 rfl) ?_
            obtain ⟨r33, h32, hd⟩ := bp_e hd
            refine cVi_ (rest := [.int r31]) X (kX5_keptFrom l Dd Y ad F29 x3 r33 h32) (cwV 1 X.1.2.2.2.2 gX5_takesOut_X5_keptFrom rfl rfl rfl (by decide +kernel) ⟨Nat.le_of_ble_eq_true rfl, Nat.le_of_ble_eq_true rfl⟩) hW 0 5 rfl rfl rfl rfl hl.1 rfl (Nat.le_of_ble_eq_true rfl) dX5_takesOut_112 ⟨Nat.zero_le _, Nat.zero_le _⟩ (fun H locs hW => ?_)
            refine lv_icmp_ge (tgt := 128) hx hb dX5_takesOut_115 (by decide) (fun c34 => ?_) (fun c34 => ?_)
            · replace hd := if_t c34 hd
              refine lv_iinc (v := x3 + (-1)) (lv' := [(3, .int (x3 + (-1))), (0, .ref (ad 0)), (1, .int x1), (2, .int x2)]) hx hb dX5_takesOut_128 hl (k := 3) rfl rfl (by decide) rfl (fun ls hl => ?_)
              refine lv_goto (tgt := 54) hx hb dX5_takesOut_131 (by decide) ?_
              exact ih (x3 + (-1)) F29 z hd _ _ _ hW (lv_sub hl [1, 2, 3, 0] rfl) kx0 kx1
            · replace hd := if_f c34 hd
              refine lv_aload_n hx hb dX5_takesOut_118 rfl (lv_at hl 0 rfl) ?_
              refine lv_iload_n hx hb dX5_takesOut_119 rfl (lv_at hl 3 rfl) ?_
              obtain ⟨r36, F37, h35, hd⟩ := bs_e hd
              refine cVi_ (rest := []) X (kX5_forgets l Dd Y ad F29 x3 r36 F37 h35) (cwV 1 X.1.2.2.2.2 gX5_takesOut_X5_forgets rfl rfl rfl (by decide +kernel) ⟨Nat.le_of_ble_eq_true rfl, Nat.le_of_ble_eq_true rfl⟩) hW 0 5 rfl rfl rfl rfl hl.1 rfl (Nat.le_of_ble_eq_true rfl) dX5_takesOut_120 ⟨Nat.zero_le _, Nat.zero_le _⟩ (fun H locs hW => ?_)
              refine lv_if_ge (tgt := 128) hx hb dX5_takesOut_123 (by decide) (fun c38 => ?_) (fun c38 => ?_)
              · replace hd := if_t c38 hd
                refine lv_iinc (v := x3 + (-1)) (lv' := [(3, .int (x3 + (-1))), (0, .ref (ad 0)), (1, .int x1), (2, .int x2)]) hx hb dX5_takesOut_128 hl (k := 3) rfl rfl (by decide) rfl (fun ls hl => ?_)
                refine lv_goto (tgt := 54) hx hb dX5_takesOut_131 (by decide) ?_
                exact ih (x3 + (-1)) F37 z hd _ _ _ hW (lv_sub hl [1, 2, 3, 0] rfl) kx0 kx1
              · replace hd := if_f c38 hd
                cases hd
                exact kx0 _ _ _ rfl hW (lv_sub hl [2] rfl)
        · replace hd := if_f c11 hd
          refine lv_goto (tgt := 128) hx hb dX5_takesOut_67 (by decide) ?_
          refine lv_iinc (v := x3 + (-1)) (lv' := [(3, .int (x3 + (-1))), (0, .ref (ad 0)), (1, .int x1), (2, .int x2)]) hx hb dX5_takesOut_128 hl (k := 3) rfl rfl (by decide) rfl (fun ls hl => ?_)
          refine lv_goto (tgt := 54) hx hb dX5_takesOut_131 (by decide) ?_
          exact ih (x3 + (-1)) F z hd _ _ _ hW (lv_sub hl [1, 2, 3, 0] rfl) kx0 kx1
  refine lv_aload_n hx hb dX5_takesOut_0 rfl (lv_at hl 0 rfl) ?_
  refine lv_iload_n hx hb dX5_takesOut_1 rfl (lv_at hl 1 rfl) ?_
  obtain ⟨r40, h39, hd⟩ := bp_e hd
  refine cVi_ (rest := []) X (kX5_valueAt l Dd Y ad F x1 r40 h39) (cwV 1 X.1.2.2.2.2 gX5_takesOut_X5_valueAt rfl rfl rfl (by decide +kernel) ⟨Nat.le_of_ble_eq_true rfl, Nat.le_of_ble_eq_true rfl⟩) hW 0 5 rfl rfl rfl rfl hl.1 rfl (Nat.le_of_ble_eq_true rfl) dX5_takesOut_2 ⟨Nat.zero_le _, Nat.zero_le _⟩ (fun H locs hW => ?_)
  refine lv_istore_n (lv' := [(2, .int r40), (0, .ref (ad 0)), (1, .int x1)]) hx hb dX5_takesOut_5 rfl hl (by decide) rfl (fun ls hl => ?_)
  refine lv_iload_n hx hb dX5_takesOut_6 rfl (lv_at hl 2 rfl) ?_
  refine lv_istore_n (lv' := [(3, .int x1), (2, .int r40), (0, .ref (ad 0)), (1, .int x1)]) hx hb dX5_takesOut_7 rfl hl (by decide) rfl (fun ls hl => ?_)
  obtain ⟨z8_40, hz8_40, hd⟩ := bp_e hd
  refine K8 x1 r40 FU x1 F z8_40 hz8_40 _ _ _ hW (lv_sub hl [2, 3, 1, 0] rfl) (fun H locs ls e8 hW hl => ?_)
  refine lv_aload_n hx hb dX5_takesOut_39 rfl (lv_at hl 0 rfl) ?_
  refine lv_iconst (v := 0) hx hb dX5_takesOut_40 (by decide) ?_
  refine lv_iconst (v := (-1)) hx hb dX5_takesOut_41 (by decide) ?_
  obtain ⟨F43, h42, hd⟩ := bp_e hd
  refine cVv_ (rest := []) X (kX5_adds l Dd Y ad z8_40.2 0 (-1) F43 h42) (cwV 2 X.1.2.2.2.2 gX5_takesOut_X5_adds rfl rfl rfl (by decide +kernel) ⟨Nat.le_of_ble_eq_true rfl, Nat.le_of_ble_eq_true rfl⟩) hW 0 5 rfl rfl rfl rfl hl.1 rfl (Nat.le_of_ble_eq_true rfl) dX5_takesOut_42 ⟨Nat.zero_le _, Nat.zero_le _⟩ (fun H locs hW => ?_)
  refine lv_aload_n hx hb dX5_takesOut_45 rfl (lv_at hl 0 rfl) ?_
  refine lv_bipush (v := 6) hx hb dX5_takesOut_46 (by decide) ?_
  obtain ⟨r45, h44, hd⟩ := bp_e hd
  refine cVi_ (rest := []) X (kX5_get l Dd Y ad F43 6 r45 h44) (cwV 1 X.1.2.2.2.2 gX5_takesOut_X5_get rfl rfl rfl (by decide +kernel) ⟨Nat.le_of_ble_eq_true rfl, Nat.le_of_ble_eq_true rfl⟩) hW 0 5 rfl rfl rfl rfl hl.1 rfl (Nat.le_of_ble_eq_true rfl) dX5_takesOut_48 ⟨Nat.zero_le _, Nat.zero_le _⟩ (fun H locs hW => ?_)
  refine lv_iconst (v := 1) hx hb dX5_takesOut_51 (by decide) ?_
  refine lv_isub hx hb dX5_takesOut_52 ?_
  refine lv_istore_n (lv' := [(3, .int (r45 - 1)), (0, .ref (ad 0)), (1, .int x1), (2, .int r40)]) hx hb dX5_takesOut_53 rfl hl (by decide) rfl (fun ls hl => ?_)
  obtain ⟨z54_45, hz54_45, hd⟩ := bp_e hd
  refine K54 x1 r40 FU (r45 - 1) F43 z54_45 hz54_45 _ _ _ hW (lv_sub hl [1, 2, 3, 0] rfl) (fun H locs ls e54 hW hl => ?_) (fun H locs ls e54 hW hl => ?_)
  · replace hd := if_t e54 hd
    refine lv_iload_n hx hb dX5_takesOut_126 rfl (lv_at hl 0 rfl) ?_
    obtain ⟨rfl, rfl⟩ := Prod.mk.inj (Option.some.inj hd)
    exact hQ _ _ _ _ rfl hW dX5_takesOut_127
  · replace hd := if_f (by rw [e54]; decide) hd
    refine lv_aload_n hx hb dX5_takesOut_134 rfl (lv_at hl 0 rfl) ?_
    obtain ⟨F48, h47, hd⟩ := bp_e hd
    refine cVv_ (rest := []) X (kX5_builds l Dd Y ad z54_45.2 F48 h47) (cwV 0 X.1.2.2.2.2 gX5_takesOut_X5_builds rfl rfl rfl (by decide +kernel) ⟨Nat.le_of_ble_eq_true rfl, Nat.le_of_ble_eq_true rfl⟩) hW 0 5 rfl rfl rfl rfl hl.1 rfl (Nat.le_of_ble_eq_true rfl) dX5_takesOut_135 ⟨Nat.zero_le _, Nat.zero_le _⟩ (fun H locs hW => ?_)
    refine lv_iload_n hx hb dX5_takesOut_138 rfl (lv_at hl 1 rfl) ?_
    obtain ⟨rfl, rfl⟩ := Prod.mk.inj (Option.some.inj hd)
    exact hQ _ _ _ _ rfl hW dX5_takesOut_139
abbrev rmX5_fails : Room := { frames := 0, cells := 0, slots := 0, locals := 0 }
set_option maxRecDepth 100000 in
set_option maxHeartbeats 4000000 in
theorem kX5_fails (l : Launch) (Dd : va_G) (Y : yT) (ad : Nat → Nat) (F : gF) (x1 : Int32) (x2 : Int32) (r : Int32) (F' : gF) (hd : dnX5_fails F x1 x2 = some (r, F')) : MG l yX5_fails wsX5_fails rmX5_fails Dd Y [.ref (ad 0), .int x1, .int x2] (WM Y ad F) (WM Y ad F') (some (.int r)) := by
  refine MGi (cc := cX5_fails) (maxL := 3) (ty := .boolean) (by decide) rfl (Nat.le_of_ble_eq_true rfl) (fun {p e s m args below meth c A} ls Q X hW hl hQ => ?_)
  have hx := X.x
  have hb := X.b
  have hl : lv_has ls 3 [(0, .ref (ad 0)), (1, .int x1), (2, .int x2)] := hl
  have hinX5 : ∀ w ∈ wsX50, w ∈ wsX5_fails := fun w h => List.mem_cons_of_mem _ (List.mem_append_right _ h)
  unfold dnX5_fails at hd
  refine lv_aload_n hx hb dX5_fails_0 rfl (lv_at hl 0 rfl) ?_
  refine g_ X hinX5 hW 0 rfl rfl 10 (by decide) 1 rfl rfl rfl dX5_fails_1 ?_
  refine lv_if_eq (tgt := 9) hx hb dX5_fails_4 (by decide) (fun c1 => ?_) (fun c1 => ?_)
  · replace hd := if_t c1 hd
    refine lv_aload_n hx hb dX5_fails_9 rfl (lv_at hl 0 rfl) ?_
    refine lv_iload_n hx hb dX5_fails_10 rfl (lv_at hl 1 rfl) ?_
    obtain ⟨F2, eF2, hd⟩ := bw_e hd
    refine p_ (ty := .int) X hinX5 tyX5 tyX5_ok nmX5 hW 0 rfl rfl 10 (by decide) 1 rfl rfl rfl (by decide +kernel) rfl rfl (Nat.le_of_ble_eq_true rfl) dX5_fails_11 (ws' := (WM Y ad F2)) (by rw [eF2]; rfl) (fun H locs hW => ?_)
    refine lv_aload_n hx hb dX5_fails_14 rfl (lv_at hl 0 rfl) ?_
    refine lv_iload_n hx hb dX5_fails_15 rfl (lv_at hl 2 rfl) ?_
    obtain ⟨F3, eF3, hd⟩ := bw_e hd
    refine p_ (ty := .int) X hinX5 tyX5 tyX5_ok nmX5 hW 0 rfl rfl 11 (by decide) 2 rfl rfl rfl (by decide +kernel) rfl rfl (Nat.le_of_ble_eq_true rfl) dX5_fails_16 (ws' := (WM Y ad F3)) (by rw [eF3]; rfl) (fun H locs hW => ?_)
    refine lv_iconst (v := 0) hx hb dX5_fails_19 (by decide) ?_
    obtain ⟨rfl, rfl⟩ := Prod.mk.inj (Option.some.inj hd)
    exact hQ _ _ _ _ (nz_b (Or.inl rfl)) hW dX5_fails_20
  · replace hd := if_f c1 hd
    refine lv_iconst (v := 0) hx hb dX5_fails_7 (by decide) ?_
    obtain ⟨rfl, rfl⟩ := Prod.mk.inj (Option.some.inj hd)
    exact hQ _ _ _ _ (nz_b (Or.inl rfl)) hW dX5_fails_8
abbrev rmX5_here : Room := { frames := 0, cells := 0, slots := 0, locals := 0 }
set_option maxRecDepth 100000 in
set_option maxHeartbeats 4000000 in
theorem kX5_here (l : Launch) (Dd : va_G) (Y : yT) (ad : Nat → Nat) (F : gF) (r : Int32) (F' : gF) (hd : dnX5_here F = some (r, F')) : MG l yX5_here wsX5_here rmX5_here Dd Y [.ref (ad 0)] (WM Y ad F) (WM Y ad F') (some (.int r)) := by
  refine MGi (cc := cX5_here) (maxL := 1) (ty := .int) (by decide) rfl (Nat.le_of_ble_eq_true rfl) (fun {p e s m args below meth c A} ls Q X hW hl hQ => ?_)
  have hx := X.x
  have hb := X.b
  have hl : lv_has ls 1 [(0, .ref (ad 0))] := hl
  have hinX5 : ∀ w ∈ wsX50, w ∈ wsX5_here := fun w h => List.mem_cons_of_mem _ (List.mem_append_right _ h)
  unfold dnX5_here at hd
  have K0 : ∀ (n : Nat) (F : gF) (z : Nat × gF), lpX5_here_0 n F = some z → ∀ (H : Heap) (locs : List Loc) (ls : Array Slot), Wd Dd A s.heap (WM Y ad F) H locs → lv_has ls 1 [(0, .ref (ad 0))] → (∀ (H : Heap) (locs : List Loc) (ls : Array Slot), z.1 = 0 → Wd Dd A s.heap (WM Y ad z.2) H locs → lv_has ls 1 [(0, .ref (ad 0))] → W p l e rmX5_here s m args below meth c H locs 0 0 Q (F0 m 38 ls [])) → W p l e rmX5_here s m args below meth c H locs 0 0 Q (F0 m 0 ls []) := by
    intro n
    induction n with
    | zero => intro F z hd; cases hd
    | succ n ih =>
      intro F z hd H locs ls hW hl kx0
      unfold lpX5_here_0 at hd
      refine lv_aload_n hx hb dX5_here_0 rfl (lv_at hl 0 rfl) ?_
      refine g_ X hinX5 hW 0 rfl rfl 9 (by decide) 1 rfl rfl rfl dX5_here_1 ?_
      refine lv_aload_n hx hb dX5_here_4 rfl (lv_at hl 0 rfl) ?_
      refine g_ X hinX5 hW 0 rfl rfl 8 (by decide) 2 rfl rfl rfl dX5_here_5 ?_
      refine lv_icmp_ge (tgt := 38) hx hb dX5_here_8 (by decide) (fun c1 => ?_) (fun c1 => ?_)
      · replace hd := if_t c1 hd
        cases hd
        exact kx0 _ _ _ rfl hW (lv_sub hl [0] rfl)
      · replace hd := if_f c1 hd
        refine lv_aload_n hx hb dX5_here_11 rfl (lv_at hl 0 rfl) ?_
        refine g_ X hinX5 hW 0 rfl rfl 6 (by decide) 3 rfl rfl rfl dX5_here_12 ?_
        refine lv_aload_n hx hb dX5_here_15 rfl (lv_at hl 0 rfl) ?_
        refine g_ X hinX5 hW 0 rfl rfl 9 (by decide) 1 rfl rfl rfl dX5_here_16 ?_
        obtain ⟨hi2, hd⟩ := ra_e hd
        refine a_ X hW 4 rfl rfl hi2 dX5_here_19 ?_
        generalize (F 4) (F 0 9).toNatClampNeg = v3 at hd ⊢
        refine lv_bipush (v := 32) hx hb dX5_here_20 (by decide) ?_
        refine lv_icmp_ne (tgt := 38) hx hb dX5_here_22 (by decide) (fun c4 => ?_) (fun c4 => ?_)
        · replace hd := if_f c4 hd
          cases hd
          exact kx0 _ _ _ rfl hW (lv_sub hl [0] rfl)
        · replace hd := if_t c4 hd
          refine lv_aload_n hx hb dX5_here_25 rfl (lv_at hl 0 rfl) ?_
          refine lv_dup hx hb dX5_here_26 rfl ?_
          refine g_ X hinX5 hW 0 rfl rfl 9 (by decide) 1 rfl rfl rfl dX5_here_27 ?_
          refine lv_iconst (v := 1) hx hb dX5_here_30 (by decide) ?_
          refine lv_iadd hx hb dX5_here_31 ?_
          obtain ⟨F5, eF5, hd⟩ := bw_e hd
          refine p_ (ty := .int) X hinX5 tyX5 tyX5_ok nmX5 hW 0 rfl rfl 9 (by decide) 1 rfl rfl rfl (by decide +kernel) rfl rfl (Nat.le_of_ble_eq_true rfl) dX5_here_32 (ws' := (WM Y ad F5)) (by rw [eF5]; rfl) (fun H locs hW => ?_)
          refine lv_goto (tgt := 0) hx hb dX5_here_35 (by decide) ?_
          exact ih  F5 z hd _ _ _ hW (lv_sub hl [0] rfl) kx0
  obtain ⟨z0_5, hz0_5, hd⟩ := bp_e hd
  refine K0 FU F z0_5 hz0_5 _ _ _ hW (lv_sub hl [0] rfl) (fun H locs ls e0 hW hl => ?_)
  refine lv_aload_n hx hb dX5_here_38 rfl (lv_at hl 0 rfl) ?_
  refine g_ X hinX5 hW 0 rfl rfl 9 (by decide) 1 rfl rfl rfl dX5_here_39 ?_
  refine lv_aload_n hx hb dX5_here_42 rfl (lv_at hl 0 rfl) ?_
  refine g_ X hinX5 hW 0 rfl rfl 8 (by decide) 2 rfl rfl rfl dX5_here_43 ?_
  refine lv_icmp_ge (tgt := 61) hx hb dX5_here_46 (by decide) (fun c7 => ?_) (fun c7 => ?_)
  · replace hd := if_t c7 hd
    refine lv_iconst (v := (-1)) hx hb dX5_here_61 (by decide) ?_
    obtain ⟨rfl, rfl⟩ := Prod.mk.inj (Option.some.inj hd)
    exact hQ _ _ _ _ rfl hW dX5_here_62
  · replace hd := if_f c7 hd
    refine lv_aload_n hx hb dX5_here_49 rfl (lv_at hl 0 rfl) ?_
    refine g_ X hinX5 hW 0 rfl rfl 6 (by decide) 3 rfl rfl rfl dX5_here_50 ?_
    refine lv_aload_n hx hb dX5_here_53 rfl (lv_at hl 0 rfl) ?_
    refine g_ X hinX5 hW 0 rfl rfl 9 (by decide) 1 rfl rfl rfl dX5_here_54 ?_
    obtain ⟨hi8, hd⟩ := ra_e hd
    refine a_ X hW 4 rfl rfl hi8 dX5_here_57 ?_
    generalize (z0_5.2 4) (z0_5.2 0 9).toNatClampNeg = v9 at hd ⊢
    refine lv_goto (tgt := 62) hx hb dX5_here_58 (by decide) ?_
    obtain ⟨rfl, rfl⟩ := Prod.mk.inj (Option.some.inj hd)
    exact hQ _ _ _ _ rfl hW dX5_here_62
abbrev rmX5_isSmall : Room := { frames := 0, cells := 0, slots := 0, locals := 0 }
set_option maxRecDepth 100000 in
set_option maxHeartbeats 4000000 in
theorem kX5_isSmall (l : Launch) (Dd : va_G) (Y : yT) (x0 : Int32) (r : Int32) (hd : dnX5_isSmall x0 = some r) : MG l yX5_isSmall wsX5_isSmall rmX5_isSmall Dd Y [.int x0] [] [] (some (.int r)) := by
  refine MGi (cc := cX5_isSmall) (maxL := 1) (ty := .boolean) (by decide) rfl (Nat.le_of_ble_eq_true rfl) (fun {p e s m args below meth c A} ls Q X hW hl hQ => ?_)
  have hx := X.x
  have hb := X.b
  have hl : lv_has ls 1 [(0, .int x0)] := hl
  unfold dnX5_isSmall at hd
  refine lv_iload_n hx hb dX5_isSmall_0 rfl (lv_at hl 0 rfl) ?_
  refine lv_bipush (v := 97) hx hb dX5_isSmall_1 (by decide) ?_
  refine lv_icmp_lt (tgt := 16) hx hb dX5_isSmall_3 (by decide) (fun c1 => ?_) (fun c1 => ?_)
  · replace hd := if_t c1 hd
    refine lv_iconst (v := 0) hx hb dX5_isSmall_16 (by decide) ?_
    have hd := Option.some.inj hd
    subst hd
    exact hQ _ _ _ _ (nz_b (Or.inl rfl)) hW dX5_isSmall_17
  · replace hd := if_f c1 hd
    refine lv_iload_n hx hb dX5_isSmall_6 rfl (lv_at hl 0 rfl) ?_
    refine lv_bipush (v := 122) hx hb dX5_isSmall_7 (by decide) ?_
    refine lv_icmp_gt (tgt := 16) hx hb dX5_isSmall_9 (by decide) (fun c2 => ?_) (fun c2 => ?_)
    · replace hd := if_t c2 hd
      refine lv_iconst (v := 0) hx hb dX5_isSmall_16 (by decide) ?_
      have hd := Option.some.inj hd
      subst hd
      exact hQ _ _ _ _ (nz_b (Or.inl rfl)) hW dX5_isSmall_17
    · replace hd := if_f c2 hd
      refine lv_iconst (v := 1) hx hb dX5_isSmall_12 (by decide) ?_
      refine lv_goto (tgt := 17) hx hb dX5_isSmall_13 (by decide) ?_
      have hd := Option.some.inj hd
      subst hd
      exact hQ _ _ _ _ (nz_b (Or.inr rfl)) hW dX5_isSmall_17
abbrev rmX5_isDigit : Room := { frames := 0, cells := 0, slots := 0, locals := 0 }
set_option maxRecDepth 100000 in
set_option maxHeartbeats 4000000 in
theorem kX5_isDigit (l : Launch) (Dd : va_G) (Y : yT) (x0 : Int32) (r : Int32) (hd : dnX5_isDigit x0 = some r) : MG l yX5_isDigit wsX5_isDigit rmX5_isDigit Dd Y [.int x0] [] [] (some (.int r)) := by
  refine MGi (cc := cX5_isDigit) (maxL := 1) (ty := .boolean) (by decide) rfl (Nat.le_of_ble_eq_true rfl) (fun {p e s m args below meth c A} ls Q X hW hl hQ => ?_)
  have hx := X.x
  have hb := X.b
  have hl : lv_has ls 1 [(0, .int x0)] := hl
  unfold dnX5_isDigit at hd
  refine lv_iload_n hx hb dX5_isDigit_0 rfl (lv_at hl 0 rfl) ?_
  refine lv_bipush (v := 48) hx hb dX5_isDigit_1 (by decide) ?_
  refine lv_icmp_lt (tgt := 16) hx hb dX5_isDigit_3 (by decide) (fun c1 => ?_) (fun c1 => ?_)
  · replace hd := if_t c1 hd
    refine lv_iconst (v := 0) hx hb dX5_isDigit_16 (by decide) ?_
    have hd := Option.some.inj hd
    subst hd
    exact hQ _ _ _ _ (nz_b (Or.inl rfl)) hW dX5_isDigit_17
  · replace hd := if_f c1 hd
    refine lv_iload_n hx hb dX5_isDigit_6 rfl (lv_at hl 0 rfl) ?_
    refine lv_bipush (v := 57) hx hb dX5_isDigit_7 (by decide) ?_
    refine lv_icmp_gt (tgt := 16) hx hb dX5_isDigit_9 (by decide) (fun c2 => ?_) (fun c2 => ?_)
    · replace hd := if_t c2 hd
      refine lv_iconst (v := 0) hx hb dX5_isDigit_16 (by decide) ?_
      have hd := Option.some.inj hd
      subst hd
      exact hQ _ _ _ _ (nz_b (Or.inl rfl)) hW dX5_isDigit_17
    · replace hd := if_f c2 hd
      refine lv_iconst (v := 1) hx hb dX5_isDigit_12 (by decide) ?_
      refine lv_goto (tgt := 17) hx hb dX5_isDigit_13 (by decide) ?_
      have hd := Option.some.inj hd
      subst hd
      exact hQ _ _ _ _ (nz_b (Or.inr rfl)) hW dX5_isDigit_17
abbrev rmX5_passes : Room := { frames := 4, cells := 0, slots := 0, locals := 111 }
set_option maxRecDepth 100000 in
set_option maxHeartbeats 4000000 in
theorem kX5_passes (l : Launch) (Dd : va_G) (Y : yT) (ad : Nat → Nat) (F : gF) (x1 : Nat) (hw : x1 < 6) (r : Int32) (F' : gF) (hd : dnX5_passes F x1 = some (r, F')) : MG l yX5_passes wsX5_passes rmX5_passes Dd Y [.ref (ad 0), .ref (Y.2.2.2.1 x1)] (WM Y ad F) (WM Y ad F') (some (.int r)) := by
  refine MGi (cc := cX5_passes) (maxL := 4) (ty := .boolean) (by decide) rfl (Nat.le_of_ble_eq_true rfl) (fun {p e s m args below meth c A} ls Q X hW hl hQ => ?_)
  have hx := X.x
  have hb := X.b
  have hl : lv_has ls 4 [(0, .ref (ad 0)), (1, .ref (Y.2.2.2.1 x1))] := hl
  have hinX5 : ∀ w ∈ wsX50, w ∈ wsX5_passes := fun w h => List.mem_cons_of_mem _ (List.mem_append_right _ h)
  unfold dnX5_passes at hd
  have K55 : ∀ (F : gF) (x2 : Int32) (n : Nat) (x3 : Int32) (z : Nat), lpX5_passes_55 F x1 x2 n x3 = some z → ∀ (H : Heap) (locs : List Loc) (ls : Array Slot), Wd Dd A s.heap (WM Y ad F) H locs → lv_has ls 4 [(0, .ref (ad 0)), (1, .ref (Y.2.2.2.1 x1)), (2, .int x2), (3, .int x3)] → (∀ (H : Heap) (locs : List Loc) (ls : Array Slot), z.1 = 0 → Wd Dd A s.heap (WM Y ad F) H locs → lv_has ls 4 [] → W p l e rmX5_passes s m args below meth c H locs 0 0 Q (F0 m 79 ls [])) → (∀ (H : Heap) (locs : List Loc) (ls : Array Slot), z.1 = 1 → Wd Dd A s.heap (WM Y ad F) H locs → lv_has ls 4 [(0, .ref (ad 0)), (2, .int x2)] → W p l e rmX5_passes s m args below meth c H locs 0 0 Q (F0 m 87 ls [])) → W p l e rmX5_passes s m args below meth c H locs 0 0 Q (F0 m 55 ls []) := by
    intro F x2 n
    induction n with
    | zero => intro x3 z hd; cases hd
    | succ n ih =>
      intro x3 z hd H locs ls hW hl kx0 kx1
      unfold lpX5_passes_55 at hd
      refine lv_iload_n hx hb dX5_passes_55 rfl (lv_at hl 3 rfl) ?_
      refine lv_iload_n hx hb dX5_passes_56 rfl (lv_at hl 2 rfl) ?_
      refine lv_icmp_ge (tgt := 87) hx hb dX5_passes_57 (by decide) (fun c1 => ?_) (fun c1 => ?_)
      · replace hd := if_t c1 hd
        cases hd
        exact kx1 _ _ _ rfl hW (lv_sub hl [0, 2] rfl)
      · replace hd := if_f c1 hd
        refine lv_aload_n hx hb dX5_passes_60 rfl (lv_at hl 0 rfl) ?_
        refine g_ X hinX5 hW 0 rfl rfl 6 (by decide) 3 rfl rfl rfl dX5_passes_61 ?_
        refine lv_aload_n hx hb dX5_passes_64 rfl (lv_at hl 0 rfl) ?_
        refine g_ X hinX5 hW 0 rfl rfl 9 (by decide) 1 rfl rfl rfl dX5_passes_65 ?_
        refine lv_iload_n hx hb dX5_passes_68 rfl (lv_at hl 3 rfl) ?_
        refine lv_iadd hx hb dX5_passes_69 ?_
        obtain ⟨hi2, hd⟩ := ra_e hd
        refine a_ X hW 4 rfl rfl hi2 dX5_passes_70 ?_
        generalize (F 4) ((F 0 9) + x3).toNatClampNeg = v3 at hd ⊢
        refine lv_aload_n hx hb dX5_passes_71 rfl (lv_at hl 1 rfl) ?_
        refine lv_iload_n hx hb dX5_passes_72 rfl (lv_at hl 3 rfl) ?_
        obtain ⟨hi4, hd⟩ := sc_e hd
        refine cK_ (rest := [.int v3]) X (kJ0_charAt_5068e l Dd Y x1 hw x3 hi4) (cwV 1 X.1.2.2.2.2 gX5_passes_J0_charAt_5068e rfl rfl rfl (by decide +kernel) ⟨Nat.le_of_ble_eq_true rfl, Nat.le_of_ble_eq_true rfl⟩) hW x1 hw rfl rfl rfl hl.1 rfl (Nat.le_of_ble_eq_true rfl) dX5_passes_73 ⟨Nat.zero_le _, Nat.zero_le _⟩ (fun H locs hW => ?_)
        generalize sCh x1 x3 = v5 at hd ⊢
        refine lv_icmp_eq (tgt := 81) hx hb dX5_passes_76 (by decide) (fun c6 => ?_) (fun c6 => ?_)
        · replace hd := if_t c6 hd
          refine lv_iinc (v := x3 + 1) (lv' := [(3, .int (x3 + 1)), (0, .ref (ad 0)), (1, .ref (Y.2.2.2.1 x1)), (2, .int x2)]) hx hb dX5_passes_81 hl (k := 3) rfl rfl (by decide) rfl (fun ls hl => ?_)
          refine lv_goto (tgt := 55) hx hb dX5_passes_84 (by decide) ?_
          exact ih (x3 + 1) z hd _ _ _ hW (lv_sub hl [1, 2, 3, 0] rfl) kx0 kx1
        · replace hd := if_f c6 hd
          cases hd
          exact kx0 _ _ _ rfl hW (lv_sub hl [] rfl)
  have K7 : ∀ (F : gF) (n : Nat) (x2 : Int32) (z : Nat × Int32), lpX5_passes_7 F x1 n x2 = some z → ∀ (H : Heap) (locs : List Loc) (ls : Array Slot), Wd Dd A s.heap (WM Y ad F) H locs → lv_has ls 4 [(0, .ref (ad 0)), (1, .ref (Y.2.2.2.1 x1)), (2, .int x2)] → (∀ (H : Heap) (locs : List Loc) (ls : Array Slot), z.1 = 0 → Wd Dd A s.heap (WM Y ad F) H locs → lv_has ls 4 [(0, .ref (ad 0)), (1, .ref (Y.2.2.2.1 x1)), (2, .int z.2)] → W p l e rmX5_passes s m args below meth c H locs 0 0 Q (F0 m 43 ls [])) → W p l e rmX5_passes s m args below meth c H locs 0 0 Q (F0 m 7 ls []) := by
    intro F n
    induction n with
    | zero => intro x2 z hd; cases hd
    | succ n ih =>
      intro x2 z hd H locs ls hW hl kx0
      unfold lpX5_passes_7 at hd
      refine lv_aload_n hx hb dX5_passes_7 rfl (lv_at hl 0 rfl) ?_
      refine g_ X hinX5 hW 0 rfl rfl 9 (by decide) 1 rfl rfl rfl dX5_passes_8 ?_
      refine lv_iload_n hx hb dX5_passes_11 rfl (lv_at hl 2 rfl) ?_
      refine lv_iadd hx hb dX5_passes_12 ?_
      refine lv_aload_n hx hb dX5_passes_13 rfl (lv_at hl 0 rfl) ?_
      refine g_ X hinX5 hW 0 rfl rfl 8 (by decide) 2 rfl rfl rfl dX5_passes_14 ?_
      refine lv_icmp_ge (tgt := 43) hx hb dX5_passes_17 (by decide) (fun c7 => ?_) (fun c7 => ?_)
      · replace hd := if_t c7 hd
        cases hd
        exact kx0 _ _ _ rfl hW (lv_sub hl [0, 1, 2] rfl)
      · replace hd := if_f c7 hd
        refine lv_aload_n hx hb dX5_passes_20 rfl (lv_at hl 0 rfl) ?_
        refine g_ X hinX5 hW 0 rfl rfl 6 (by decide) 3 rfl rfl rfl dX5_passes_21 ?_
        refine lv_aload_n hx hb dX5_passes_24 rfl (lv_at hl 0 rfl) ?_
        refine g_ X hinX5 hW 0 rfl rfl 9 (by decide) 1 rfl rfl rfl dX5_passes_25 ?_
        refine lv_iload_n hx hb dX5_passes_28 rfl (lv_at hl 2 rfl) ?_
        refine lv_iadd hx hb dX5_passes_29 ?_
        obtain ⟨hi8, hd⟩ := ra_e hd
        refine a_ X hW 4 rfl rfl hi8 dX5_passes_30 ?_
        generalize (F 4) ((F 0 9) + x2).toNatClampNeg = v9 at hd ⊢
        obtain ⟨r11, h10, hd⟩ := bp_e hd
        refine cSi_ (rest := []) X (kX5_isSmall l Dd Y v9 r11 h10) (va_cwS 1 X.1.2.2.2.2 gX5_passes_X5_isSmall rfl rfl rfl (by decide +kernel) ⟨Nat.le_of_ble_eq_true rfl, Nat.le_of_ble_eq_true rfl⟩) hW rfl hl.1 rfl (Nat.le_of_ble_eq_true rfl) dX5_passes_31 ⟨Nat.zero_le _, Nat.zero_le _⟩ (fun H locs hW => ?_)
        refine lv_if_eq (tgt := 43) hx hb dX5_passes_34 (by decide) (fun c12 => ?_) (fun c12 => ?_)
        · replace hd := if_t c12 hd
          cases hd
          exact kx0 _ _ _ rfl hW (lv_sub hl [0, 1, 2] rfl)
        · replace hd := if_f c12 hd
          refine lv_iinc (v := x2 + 1) (lv' := [(2, .int (x2 + 1)), (0, .ref (ad 0)), (1, .ref (Y.2.2.2.1 x1))]) hx hb dX5_passes_37 hl (k := 2) rfl rfl (by decide) rfl (fun ls hl => ?_)
          refine lv_goto (tgt := 7) hx hb dX5_passes_40 (by decide) ?_
          exact ih (x2 + 1) z hd _ _ _ hW (lv_sub hl [1, 2, 0] rfl) kx0
  refine lv_aload_n hx hb dX5_passes_0 rfl (lv_at hl 0 rfl) ?_
  obtain ⟨r14, F15, h13, hd⟩ := bs_e hd
  refine cVi_ (rest := []) X (kX5_here l Dd Y ad F r14 F15 h13) (cwV 0 X.1.2.2.2.2 gX5_passes_X5_here rfl rfl rfl (by decide +kernel) ⟨Nat.le_of_ble_eq_true rfl, Nat.le_of_ble_eq_true rfl⟩) hW 0 5 rfl rfl rfl rfl hl.1 rfl (Nat.le_of_ble_eq_true rfl) dX5_passes_1 ⟨Nat.zero_le _, Nat.zero_le _⟩ (fun H locs hW => ?_)
  refine lv_pop hx hb dX5_passes_4 rfl ?_
  refine lv_iconst (v := 0) hx hb dX5_passes_5 (by decide) ?_
  refine lv_istore_n (lv' := [(2, .int 0), (0, .ref (ad 0)), (1, .ref (Y.2.2.2.1 x1))]) hx hb dX5_passes_6 rfl hl (by decide) rfl (fun ls hl => ?_)
  obtain ⟨z7_15, hz7_15, hd⟩ := bp_e hd
  refine K7 F15 FU 0 z7_15 hz7_15 _ _ _ hW (lv_sub hl [1, 2, 0] rfl) (fun H locs ls e7 hW hl => ?_)
  refine lv_iload_n hx hb dX5_passes_43 rfl (lv_at hl 2 rfl) ?_
  refine lv_aload_n hx hb dX5_passes_44 rfl (lv_at hl 1 rfl) ?_
  refine cK_ (rest := [.int z7_15.2]) X (kJ0_length_8abf5 l Dd Y x1 hw) (cwV 0 X.1.2.2.2.2 gX5_passes_J0_length_8abf5 rfl rfl rfl (by decide +kernel) ⟨Nat.le_of_ble_eq_true rfl, Nat.le_of_ble_eq_true rfl⟩) hW x1 hw rfl rfl rfl hl.1 rfl (Nat.le_of_ble_eq_true rfl) dX5_passes_45 ⟨Nat.zero_le _, Nat.zero_le _⟩ (fun H locs hW => ?_)
  refine lv_icmp_eq (tgt := 53) hx hb dX5_passes_48 (by decide) (fun c17 => ?_) (fun c17 => ?_)
  · replace hd := if_t c17 hd
    refine lv_iconst (v := 0) hx hb dX5_passes_53 (by decide) ?_
    refine lv_istore_n (lv' := [(3, .int 0), (0, .ref (ad 0)), (1, .ref (Y.2.2.2.1 x1)), (2, .int z7_15.2)]) hx hb dX5_passes_54 rfl hl (by decide) rfl (fun ls hl => ?_)
    obtain ⟨z55_17, hz55_17, hd⟩ := bp_e hd
    refine K55 F15 z7_15.2 FU 0 z55_17 hz55_17 _ _ _ hW (lv_sub hl [1, 2, 3, 0] rfl) (fun H locs ls e55 hW hl => ?_) (fun H locs ls e55 hW hl => ?_)
    · replace hd := if_t e55 hd
      refine lv_iconst (v := 0) hx hb dX5_passes_79 (by decide) ?_
      obtain ⟨rfl, rfl⟩ := Prod.mk.inj (Option.some.inj hd)
      exact hQ _ _ _ _ (nz_b (Or.inl rfl)) hW dX5_passes_80
    · replace hd := if_f (by rw [e55]; decide) hd
      refine lv_aload_n hx hb dX5_passes_87 rfl (lv_at hl 0 rfl) ?_
      refine lv_dup hx hb dX5_passes_88 rfl ?_
      refine g_ X hinX5 hW 0 rfl rfl 9 (by decide) 1 rfl rfl rfl dX5_passes_89 ?_
      refine lv_iload_n hx hb dX5_passes_92 rfl (lv_at hl 1 rfl) ?_
      refine lv_iadd hx hb dX5_passes_93 ?_
      obtain ⟨F19, eF19, hd⟩ := bw_e hd
      refine p_ (ty := .int) X hinX5 tyX5 tyX5_ok nmX5 hW 0 rfl rfl 9 (by decide) 1 rfl rfl rfl (by decide +kernel) rfl rfl (Nat.le_of_ble_eq_true rfl) dX5_passes_94 (ws' := (WM Y ad F19)) (by rw [eF19]; rfl) (fun H locs hW => ?_)
      refine lv_iconst (v := 1) hx hb dX5_passes_97 (by decide) ?_
      obtain ⟨rfl, rfl⟩ := Prod.mk.inj (Option.some.inj hd)
      exact hQ _ _ _ _ (nz_b (Or.inr rfl)) hW dX5_passes_98
  · replace hd := if_f c17 hd
    refine lv_iconst (v := 0) hx hb dX5_passes_51 (by decide) ?_
    obtain ⟨rfl, rfl⟩ := Prod.mk.inj (Option.some.inj hd)
    exact hQ _ _ _ _ (nz_b (Or.inl rfl)) hW dX5_passes_52
abbrev rmX5_sign : Room := { frames := 1, cells := 0, slots := 0, locals := 22 }
set_option maxRecDepth 100000 in
set_option maxHeartbeats 4000000 in
theorem kX5_sign (l : Launch) (Dd : va_G) (Y : yT) (ad : Nat → Nat) (F : gF) (x1 : Int32) (r : Int32) (F' : gF) (hd : dnX5_sign F x1 = some (r, F')) : MG l yX5_sign wsX5_sign rmX5_sign Dd Y [.ref (ad 0), .int x1] (WM Y ad F) (WM Y ad F') (some (.int r)) := by
  refine MGi (cc := cX5_sign) (maxL := 2) (ty := .boolean) (by decide) rfl (Nat.le_of_ble_eq_true rfl) (fun {p e s m args below meth c A} ls Q X hW hl hQ => ?_)
  have hx := X.x
  have hb := X.b
  have hl : lv_has ls 2 [(0, .ref (ad 0)), (1, .int x1)] := hl
  have hinX5 : ∀ w ∈ wsX50, w ∈ wsX5_sign := fun w h => List.mem_cons_of_mem _ (List.mem_append_right _ h)
  unfold dnX5_sign at hd
  refine lv_aload_n hx hb dX5_sign_0 rfl (lv_at hl 0 rfl) ?_
  obtain ⟨r2, F3, h1, hd⟩ := bs_e hd
  refine cVi_ (rest := []) X (kX5_here l Dd Y ad F r2 F3 h1) (cwV 0 X.1.2.2.2.2 gX5_sign_X5_here rfl rfl rfl (by decide +kernel) ⟨Nat.le_of_ble_eq_true rfl, Nat.le_of_ble_eq_true rfl⟩) hW 0 5 rfl rfl rfl rfl hl.1 rfl (Nat.le_of_ble_eq_true rfl) dX5_sign_1 ⟨Nat.zero_le _, Nat.zero_le _⟩ (fun H locs hW => ?_)
  refine lv_iload_n hx hb dX5_sign_4 rfl (lv_at hl 1 rfl) ?_
  refine lv_icmp_eq (tgt := 19) hx hb dX5_sign_5 (by decide) (fun c4 => ?_) (fun c4 => ?_)
  · replace hd := if_t c4 hd
    refine lv_aload_n hx hb dX5_sign_19 rfl (lv_at hl 0 rfl) ?_
    refine lv_dup hx hb dX5_sign_20 rfl ?_
    refine g_ X hinX5 hW 0 rfl rfl 9 (by decide) 1 rfl rfl rfl dX5_sign_21 ?_
    refine lv_iconst (v := 1) hx hb dX5_sign_24 (by decide) ?_
    refine lv_iadd hx hb dX5_sign_25 ?_
    obtain ⟨F5, eF5, hd⟩ := bw_e hd
    refine p_ (ty := .int) X hinX5 tyX5 tyX5_ok nmX5 hW 0 rfl rfl 9 (by decide) 1 rfl rfl rfl (by decide +kernel) rfl rfl (Nat.le_of_ble_eq_true rfl) dX5_sign_26 (ws' := (WM Y ad F5)) (by rw [eF5]; rfl) (fun H locs hW => ?_)
    refine lv_iconst (v := 1) hx hb dX5_sign_29 (by decide) ?_
    obtain ⟨rfl, rfl⟩ := Prod.mk.inj (Option.some.inj hd)
    exact hQ _ _ _ _ (nz_b (Or.inr rfl)) hW dX5_sign_30
  · replace hd := if_f c4 hd
    refine lv_aload_n hx hb dX5_sign_8 rfl (lv_at hl 0 rfl) ?_
    refine lv_bipush (v := (-2)) hx hb dX5_sign_9 (by decide) ?_
    refine lv_aload_n hx hb dX5_sign_11 rfl (lv_at hl 0 rfl) ?_
    refine g_ X hinX5 hW 0 rfl rfl 9 (by decide) 1 rfl rfl rfl dX5_sign_12 ?_
    obtain ⟨r7, F8, h6, hd⟩ := bs_e hd
    refine cVi_ (rest := []) X (kX5_fails l Dd Y ad F3 (-2) (F3 0 9) r7 F8 h6) (cwV 2 X.1.2.2.2.2 gX5_sign_X5_fails rfl rfl rfl (by decide +kernel) ⟨Nat.le_of_ble_eq_true rfl, Nat.le_of_ble_eq_true rfl⟩) hW 0 5 rfl rfl rfl rfl hl.1 rfl (Nat.le_of_ble_eq_true rfl) dX5_sign_15 ⟨Nat.zero_le _, Nat.zero_le _⟩ (fun H locs hW => ?_)
    obtain ⟨hz9, hd⟩ := rzs_e hd
    obtain ⟨rfl, rfl⟩ := Prod.mk.inj hd
    exact hQ _ _ _ _ (nz_b hz9) hW dX5_sign_18
abbrev rmX5_reads : Room := { frames := 1, cells := 0, slots := 0, locals := 22 }
set_option maxRecDepth 100000 in
set_option maxHeartbeats 4000000 in
theorem kX5_reads (l : Launch) (Dd : va_G) (Y : yT) (ad : Nat → Nat) (F : gF) (x1 : Int32) (x2 : Int32) (r : Int32) (F' : gF) (hd : dnX5_reads F x1 x2 = some (r, F')) : MG l yX5_reads wsX5_reads rmX5_reads Dd Y [.ref (ad 0), .int x1, .int x2] (WM Y ad F) (WM Y ad F') (some (.int r)) := by
  refine MGi (cc := cX5_reads) (maxL := 3) (ty := .boolean) (by decide) rfl (Nat.le_of_ble_eq_true rfl) (fun {p e s m args below meth c A} ls Q X hW hl hQ => ?_)
  have hx := X.x
  have hb := X.b
  have hl : lv_has ls 3 [(0, .ref (ad 0)), (1, .int x1), (2, .int x2)] := hl
  have hinX5 : ∀ w ∈ wsX50, w ∈ wsX5_reads := fun w h => List.mem_cons_of_mem _ (List.mem_append_right _ h)
  unfold dnX5_reads at hd
  have K34 : ∀ (x1 : Int32) (x2 : Int32) (n : Nat) (F : gF) (z : Nat × gF), lpX5_reads_34 x1 x2 n F = some z → ∀ (H : Heap) (locs : List Loc) (ls : Array Slot), Wd Dd A s.heap (WM Y ad F) H locs → lv_has ls 3 [(0, .ref (ad 0)), (1, .int x1), (2, .int x2)] → (∀ (H : Heap) (locs : List Loc) (ls : Array Slot), z.1 = 0 → Wd Dd A s.heap (WM Y ad z.2) H locs → lv_has ls 3 [(0, .ref (ad 0)), (1, .int x1), (2, .int x2)] → W p l e rmX5_reads s m args below meth c H locs 0 0 Q (F0 m 113 ls [])) → W p l e rmX5_reads s m args below meth c H locs 0 0 Q (F0 m 34 ls []) := by
    intro x1 x2 n
    induction n with
    | zero => intro F z hd; cases hd
    | succ n ih =>
      intro F z hd H locs ls hW hl kx0
      unfold lpX5_reads_34 at hd
      refine lv_aload_n hx hb dX5_reads_34 rfl (lv_at hl 0 rfl) ?_
      refine g_ X hinX5 hW 0 rfl rfl 9 (by decide) 1 rfl rfl rfl dX5_reads_35 ?_
      refine lv_aload_n hx hb dX5_reads_38 rfl (lv_at hl 0 rfl) ?_
      refine g_ X hinX5 hW 0 rfl rfl 8 (by decide) 4 rfl rfl rfl dX5_reads_39 ?_
      refine lv_icmp_ge (tgt := 113) hx hb dX5_reads_42 (by decide) (fun c1 => ?_) (fun c1 => ?_)
      · replace hd := if_t c1 hd
        cases hd
        exact kx0 _ _ _ rfl hW (lv_sub hl [0, 1, 2] rfl)
      · replace hd := if_f c1 hd
        refine lv_aload_n hx hb dX5_reads_45 rfl (lv_at hl 0 rfl) ?_
        refine g_ X hinX5 hW 0 rfl rfl 6 (by decide) 5 rfl rfl rfl dX5_reads_46 ?_
        refine lv_aload_n hx hb dX5_reads_49 rfl (lv_at hl 0 rfl) ?_
        refine g_ X hinX5 hW 0 rfl rfl 9 (by decide) 1 rfl rfl rfl dX5_reads_50 ?_
        obtain ⟨hi2, hd⟩ := ra_e hd
        refine a_ X hW 4 rfl rfl hi2 dX5_reads_53 ?_
        generalize (F 4) (F 0 9).toNatClampNeg = v3 at hd ⊢
        obtain ⟨r5, h4, hd⟩ := bp_e hd
        refine cSi_ (rest := []) X (kX5_isDigit l Dd Y v3 r5 h4) (va_cwS 1 X.1.2.2.2.2 gX5_reads_X5_isDigit rfl rfl rfl (by decide +kernel) ⟨Nat.le_of_ble_eq_true rfl, Nat.le_of_ble_eq_true rfl⟩) hW rfl hl.1 rfl (Nat.le_of_ble_eq_true rfl) dX5_reads_54 ⟨Nat.zero_le _, Nat.zero_le _⟩ (fun H locs hW => ?_)
        refine lv_if_eq (tgt := 113) hx hb dX5_reads_57 (by decide) (fun c6 => ?_) (fun c6 => ?_)
        · replace hd := if_t c6 hd
          cases hd
          exact kx0 _ _ _ rfl hW (lv_sub hl [0, 1, 2] rfl)
        · replace hd := if_f c6 hd
          refine lv_aload_n hx hb dX5_reads_60 rfl (lv_at hl 0 rfl) ?_
          refine lv_aload_n hx hb dX5_reads_61 rfl (lv_at hl 0 rfl) ?_
          refine g_ X hinX5 hW 0 rfl rfl 12 (by decide) 3 rfl rfl rfl dX5_reads_62 ?_
          refine lv_ldc hx hb X.1.2.2.2.1 (X.w (i := 6) rfl) dX5_reads_65 ?_
          refine lv_icmp_le (tgt := 77) hx hb dX5_reads_67 (by decide) (fun c7 => ?_) (fun c7 => ?_)
          · replace hd := if_t c7 hd
            refine lv_bipush (v := 10) hx hb dX5_reads_77 (by decide) ?_
            refine lv_aload_n hx hb dX5_reads_79 rfl (lv_at hl 0 rfl) ?_
            refine g_ X hinX5 hW 0 rfl rfl 12 (by decide) 3 rfl rfl rfl dX5_reads_80 ?_
            refine lv_imul hx hb dX5_reads_83 ?_
            refine lv_aload_n hx hb dX5_reads_84 rfl (lv_at hl 0 rfl) ?_
            refine g_ X hinX5 hW 0 rfl rfl 6 (by decide) 5 rfl rfl rfl dX5_reads_85 ?_
            refine lv_aload_n hx hb dX5_reads_88 rfl (lv_at hl 0 rfl) ?_
            refine g_ X hinX5 hW 0 rfl rfl 9 (by decide) 1 rfl rfl rfl dX5_reads_89 ?_
            obtain ⟨hi8, hd⟩ := ra_e hd
            refine a_ X hW 4 rfl rfl hi8 dX5_reads_92 ?_
            generalize (F 4) (F 0 9).toNatClampNeg = v9 at hd ⊢
            refine lv_iadd hx hb dX5_reads_93 ?_
            refine lv_bipush (v := 48) hx hb dX5_reads_94 (by decide) ?_
            refine lv_isub hx hb dX5_reads_96 ?_
            obtain ⟨F10, eF10, hd⟩ := bw_e hd
            refine p_ (ty := .int) X hinX5 tyX5 tyX5_ok nmX5 hW 0 rfl rfl 12 (by decide) 3 rfl rfl rfl (by decide +kernel) rfl rfl (Nat.le_of_ble_eq_true rfl) dX5_reads_97 (ws' := (WM Y ad F10)) (by rw [eF10]; rfl) (fun H locs hW => ?_)
            refine lv_aload_n hx hb dX5_reads_100 rfl (lv_at hl 0 rfl) ?_
            refine lv_dup hx hb dX5_reads_101 rfl ?_
            refine g_ X hinX5 hW 0 rfl rfl 9 (by decide) 1 rfl rfl rfl dX5_reads_102 ?_
            refine lv_iconst (v := 1) hx hb dX5_reads_105 (by decide) ?_
            refine lv_iadd hx hb dX5_reads_106 ?_
            obtain ⟨F11, eF11, hd⟩ := bw_e hd
            refine p_ (ty := .int) X hinX5 tyX5 tyX5_ok nmX5 hW 0 rfl rfl 9 (by decide) 1 rfl rfl rfl (by decide +kernel) rfl rfl (Nat.le_of_ble_eq_true rfl) dX5_reads_107 (ws' := (WM Y ad F11)) (by rw [eF11]; rfl) (fun H locs hW => ?_)
            refine lv_goto (tgt := 34) hx hb dX5_reads_110 (by decide) ?_
            exact ih  F11 z hd _ _ _ hW (lv_sub hl [0, 1, 2] rfl) kx0
          · replace hd := if_f c7 hd
            refine lv_aload_n hx hb dX5_reads_70 rfl (lv_at hl 0 rfl) ?_
            refine g_ X hinX5 hW 0 rfl rfl 12 (by decide) 3 rfl rfl rfl dX5_reads_71 ?_
            refine lv_goto (tgt := 97) hx hb dX5_reads_74 (by decide) ?_
            obtain ⟨F12, eF12, hd⟩ := bw_e hd
            refine p_ (ty := .int) X hinX5 tyX5 tyX5_ok nmX5 hW 0 rfl rfl 12 (by decide) 3 rfl rfl rfl (by decide +kernel) rfl rfl (Nat.le_of_ble_eq_true rfl) dX5_reads_97 (ws' := (WM Y ad F12)) (by rw [eF12]; rfl) (fun H locs hW => ?_)
            refine lv_aload_n hx hb dX5_reads_100 rfl (lv_at hl 0 rfl) ?_
            refine lv_dup hx hb dX5_reads_101 rfl ?_
            refine g_ X hinX5 hW 0 rfl rfl 9 (by decide) 1 rfl rfl rfl dX5_reads_102 ?_
            refine lv_iconst (v := 1) hx hb dX5_reads_105 (by decide) ?_
            refine lv_iadd hx hb dX5_reads_106 ?_
            obtain ⟨F13, eF13, hd⟩ := bw_e hd
            refine p_ (ty := .int) X hinX5 tyX5 tyX5_ok nmX5 hW 0 rfl rfl 9 (by decide) 1 rfl rfl rfl (by decide +kernel) rfl rfl (Nat.le_of_ble_eq_true rfl) dX5_reads_107 (ws' := (WM Y ad F13)) (by rw [eF13]; rfl) (fun H locs hW => ?_)
            refine lv_goto (tgt := 34) hx hb dX5_reads_110 (by decide) ?_
            exact ih  F13 z hd _ _ _ hW (lv_sub hl [0, 1, 2] rfl) kx0
  refine lv_aload_n hx hb dX5_reads_0 rfl (lv_at hl 0 rfl) ?_
  obtain ⟨r15, F16, h14, hd⟩ := bs_e hd
  refine cVi_ (rest := []) X (kX5_here l Dd Y ad F r15 F16 h14) (cwV 0 X.1.2.2.2.2 gX5_reads_X5_here rfl rfl rfl (by decide +kernel) ⟨Nat.le_of_ble_eq_true rfl, Nat.le_of_ble_eq_true rfl⟩) hW 0 5 rfl rfl rfl rfl hl.1 rfl (Nat.le_of_ble_eq_true rfl) dX5_reads_1 ⟨Nat.zero_le _, Nat.zero_le _⟩ (fun H locs hW => ?_)
  obtain ⟨r18, h17, hd⟩ := bp_e hd
  refine cSi_ (rest := []) X (kX5_isDigit l Dd Y r15 r18 h17) (va_cwS 1 X.1.2.2.2.2 gX5_reads_X5_isDigit rfl rfl rfl (by decide +kernel) ⟨Nat.le_of_ble_eq_true rfl, Nat.le_of_ble_eq_true rfl⟩) hW rfl hl.1 rfl (Nat.le_of_ble_eq_true rfl) dX5_reads_4 ⟨Nat.zero_le _, Nat.zero_le _⟩ (fun H locs hW => ?_)
  refine lv_if_ne (tgt := 21) hx hb dX5_reads_7 (by decide) (fun c19 => ?_) (fun c19 => ?_)
  · replace hd := if_f c19 hd
    refine lv_aload_n hx hb dX5_reads_21 rfl (lv_at hl 0 rfl) ?_
    refine lv_aload_n hx hb dX5_reads_22 rfl (lv_at hl 0 rfl) ?_
    refine g_ X hinX5 hW 0 rfl rfl 9 (by decide) 1 rfl rfl rfl dX5_reads_23 ?_
    obtain ⟨F20, eF20, hd⟩ := bw_e hd
    refine p_ (ty := .int) X hinX5 tyX5 tyX5_ok nmX5 hW 0 rfl rfl 13 (by decide) 2 rfl rfl rfl (by decide +kernel) rfl rfl (Nat.le_of_ble_eq_true rfl) dX5_reads_26 (ws' := (WM Y ad F20)) (by rw [eF20]; rfl) (fun H locs hW => ?_)
    refine lv_aload_n hx hb dX5_reads_29 rfl (lv_at hl 0 rfl) ?_
    refine lv_iconst (v := 0) hx hb dX5_reads_30 (by decide) ?_
    obtain ⟨F21, eF21, hd⟩ := bw_e hd
    refine p_ (ty := .int) X hinX5 tyX5 tyX5_ok nmX5 hW 0 rfl rfl 12 (by decide) 3 rfl rfl rfl (by decide +kernel) rfl rfl (Nat.le_of_ble_eq_true rfl) dX5_reads_31 (ws' := (WM Y ad F21)) (by rw [eF21]; rfl) (fun H locs hW => ?_)
    obtain ⟨z34_21, hz34_21, hd⟩ := bp_e hd
    refine K34 x1 x2 FU F21 z34_21 hz34_21 _ _ _ hW (lv_sub hl [0, 1, 2] rfl) (fun H locs ls e34 hW hl => ?_)
    refine lv_aload_n hx hb dX5_reads_113 rfl (lv_at hl 0 rfl) ?_
    refine g_ X hinX5 hW 0 rfl rfl 12 (by decide) 3 rfl rfl rfl dX5_reads_114 ?_
    refine lv_iload_n hx hb dX5_reads_117 rfl (lv_at hl 1 rfl) ?_
    refine lv_iload_n hx hb dX5_reads_118 rfl (lv_at hl 2 rfl) ?_
    obtain ⟨r24, h23, hd⟩ := bp_e hd
    refine cSi_ (rest := []) X (kX5_isIn l Dd Y (z34_21.2 0 12) x1 x2 r24 h23) (va_cwS 3 X.1.2.2.2.2 gX5_reads_X5_isIn rfl rfl rfl (by decide +kernel) ⟨Nat.le_of_ble_eq_true rfl, Nat.le_of_ble_eq_true rfl⟩) hW rfl hl.1 rfl (Nat.le_of_ble_eq_true rfl) dX5_reads_119 ⟨Nat.zero_le _, Nat.zero_le _⟩ (fun H locs hW => ?_)
    refine lv_if_ne (tgt := 138) hx hb dX5_reads_122 (by decide) (fun c25 => ?_) (fun c25 => ?_)
    · replace hd := if_f c25 hd
      refine lv_iconst (v := 1) hx hb dX5_reads_138 (by decide) ?_
      refine lv_goto (tgt := 143) hx hb dX5_reads_139 (by decide) ?_
      obtain ⟨rfl, rfl⟩ := Prod.mk.inj (Option.some.inj hd)
      exact hQ _ _ _ _ (nz_b (Or.inr rfl)) hW dX5_reads_143
    · replace hd := if_t c25 hd
      refine lv_aload_n hx hb dX5_reads_125 rfl (lv_at hl 0 rfl) ?_
      refine lv_bipush (v := (-3)) hx hb dX5_reads_126 (by decide) ?_
      refine lv_aload_n hx hb dX5_reads_128 rfl (lv_at hl 0 rfl) ?_
      refine g_ X hinX5 hW 0 rfl rfl 13 (by decide) 2 rfl rfl rfl dX5_reads_129 ?_
      obtain ⟨r27, F28, h26, hd⟩ := bs_e hd
      refine cVi_ (rest := []) X (kX5_fails l Dd Y ad z34_21.2 (-3) (z34_21.2 0 13) r27 F28 h26) (cwV 2 X.1.2.2.2.2 gX5_reads_X5_fails rfl rfl rfl (by decide +kernel) ⟨Nat.le_of_ble_eq_true rfl, Nat.le_of_ble_eq_true rfl⟩) hW 0 5 rfl rfl rfl rfl hl.1 rfl (Nat.le_of_ble_eq_true rfl) dX5_reads_132 ⟨Nat.zero_le _, Nat.zero_le _⟩ (fun H locs hW => ?_)
      refine lv_if_eq (tgt := 142) hx hb dX5_reads_135 (by decide) (fun c29 => ?_) (fun c29 => ?_)
      · replace hd := if_t c29 hd
        refine lv_iconst (v := 0) hx hb dX5_reads_142 (by decide) ?_
        obtain ⟨rfl, rfl⟩ := Prod.mk.inj (Option.some.inj hd)
        exact hQ _ _ _ _ (nz_b (Or.inl rfl)) hW dX5_reads_143
      · replace hd := if_f c29 hd
        refine lv_iconst (v := 1) hx hb dX5_reads_138 (by decide) ?_
        refine lv_goto (tgt := 143) hx hb dX5_reads_139 (by decide) ?_
        obtain ⟨rfl, rfl⟩ := Prod.mk.inj (Option.some.inj hd)
        exact hQ _ _ _ _ (nz_b (Or.inr rfl)) hW dX5_reads_143
  · replace hd := if_t c19 hd
    refine lv_aload_n hx hb dX5_reads_10 rfl (lv_at hl 0 rfl) ?_
    refine lv_bipush (v := (-2)) hx hb dX5_reads_11 (by decide) ?_
    refine lv_aload_n hx hb dX5_reads_13 rfl (lv_at hl 0 rfl) ?_
    refine g_ X hinX5 hW 0 rfl rfl 9 (by decide) 1 rfl rfl rfl dX5_reads_14 ?_
    obtain ⟨r31, F32, h30, hd⟩ := bs_e hd
    refine cVi_ (rest := []) X (kX5_fails l Dd Y ad F16 (-2) (F16 0 9) r31 F32 h30) (cwV 2 X.1.2.2.2.2 gX5_reads_X5_fails rfl rfl rfl (by decide +kernel) ⟨Nat.le_of_ble_eq_true rfl, Nat.le_of_ble_eq_true rfl⟩) hW 0 5 rfl rfl rfl rfl hl.1 rfl (Nat.le_of_ble_eq_true rfl) dX5_reads_17 ⟨Nat.zero_le _, Nat.zero_le _⟩ (fun H locs hW => ?_)
    obtain ⟨hz33, hd⟩ := rzs_e hd
    obtain ⟨rfl, rfl⟩ := Prod.mk.inj hd
    exact hQ _ _ _ _ (nz_b hz33) hW dX5_reads_20
abbrev rmX5_readsValue : Room := { frames := 2, cells := 0, slots := 0, locals := 44 }
set_option maxRecDepth 100000 in
set_option maxHeartbeats 4000000 in
theorem kX5_readsValue (l : Launch) (Dd : va_G) (Y : yT) (ad : Nat → Nat) (F : gF) (r : Int32) (F' : gF) (hd : dnX5_readsValue F = some (r, F')) : MG l yX5_readsValue wsX5_readsValue rmX5_readsValue Dd Y [.ref (ad 0)] (WM Y ad F) (WM Y ad F') (some (.int r)) := by
  refine MGi (cc := cX5_readsValue) (maxL := 2) (ty := .boolean) (by decide) rfl (Nat.le_of_ble_eq_true rfl) (fun {p e s m args below meth c A} ls Q X hW hl hQ => ?_)
  have hx := X.x
  have hb := X.b
  have hl : lv_has ls 2 [(0, .ref (ad 0))] := hl
  have hinX5 : ∀ w ∈ wsX50, w ∈ wsX5_readsValue := fun w h => List.mem_cons_of_mem _ (List.mem_append_right _ h)
  unfold dnX5_readsValue at hd
  refine lv_aload_n hx hb dX5_readsValue_0 rfl (lv_at hl 0 rfl) ?_
  obtain ⟨r2, F3, h1, hd⟩ := bs_e hd
  refine cVi_ (rest := []) X (kX5_here l Dd Y ad F r2 F3 h1) (cwV 0 X.1.2.2.2.2 gX5_readsValue_X5_here rfl rfl rfl (by decide +kernel) ⟨Nat.le_of_ble_eq_true rfl, Nat.le_of_ble_eq_true rfl⟩) hW 0 5 rfl rfl rfl rfl hl.1 rfl (Nat.le_of_ble_eq_true rfl) dX5_readsValue_1 ⟨Nat.zero_le _, Nat.zero_le _⟩ (fun H locs hW => ?_)
  refine lv_bipush (v := 45) hx hb dX5_readsValue_4 (by decide) ?_
  refine lv_icmp_ne (tgt := 13) hx hb dX5_readsValue_6 (by decide) (fun c4 => ?_) (fun c4 => ?_)
  · replace hd := if_f c4 hd
    refine lv_iconst (v := 0) hx hb dX5_readsValue_13 (by decide) ?_
    refine lv_istore_n (lv' := [(1, .int 0), (0, .ref (ad 0))]) hx hb dX5_readsValue_14 rfl hl (by decide) rfl (fun ls hl => ?_)
    refine lv_aload_n hx hb dX5_readsValue_15 rfl (lv_at hl 1 rfl) ?_
    refine lv_dup hx hb dX5_readsValue_16 rfl ?_
    refine g_ X hinX5 hW 0 rfl rfl 9 (by decide) 1 rfl rfl rfl dX5_readsValue_17 ?_
    refine lv_iload_n hx hb dX5_readsValue_20 rfl (lv_at hl 0 rfl) ?_
    refine lv_if_eq (tgt := 28) hx hb dX5_readsValue_21 (by decide) (fun c5 => ?_) (fun c5 => ?_)
    · replace hd := if_t c5 hd
      refine lv_iconst (v := 0) hx hb dX5_readsValue_28 (by decide) ?_
      refine lv_iadd hx hb dX5_readsValue_29 ?_
      obtain ⟨F6, eF6, hd⟩ := bw_e hd
      refine p_ (ty := .int) X hinX5 tyX5 tyX5_ok nmX5 hW 0 rfl rfl 9 (by decide) 1 rfl rfl rfl (by decide +kernel) rfl rfl (Nat.le_of_ble_eq_true rfl) dX5_readsValue_30 (ws' := (WM Y ad F6)) (by rw [eF6]; rfl) (fun H locs hW => ?_)
      refine lv_aload_n hx hb dX5_readsValue_33 rfl (lv_at hl 1 rfl) ?_
      refine lv_iconst (v := 0) hx hb dX5_readsValue_34 (by decide) ?_
      refine lv_sipush (v := 999) hx hb dX5_readsValue_35 (by decide) ?_
      obtain ⟨r8, F9, h7, hd⟩ := bs_e hd
      refine cVi_ (rest := []) X (kX5_reads l Dd Y ad F6 0 999 r8 F9 h7) (cwV 2 X.1.2.2.2.2 gX5_readsValue_X5_reads rfl rfl rfl (by decide +kernel) ⟨Nat.le_of_ble_eq_true rfl, Nat.le_of_ble_eq_true rfl⟩) hW 0 5 rfl rfl rfl rfl hl.1 rfl (Nat.le_of_ble_eq_true rfl) dX5_readsValue_38 ⟨Nat.zero_le _, Nat.zero_le _⟩ (fun H locs hW => ?_)
      refine lv_if_ne (tgt := 46) hx hb dX5_readsValue_41 (by decide) (fun c10 => ?_) (fun c10 => ?_)
      · replace hd := if_f c10 hd
        refine lv_aload_n hx hb dX5_readsValue_46 rfl (lv_at hl 1 rfl) ?_
        refine lv_iload_n hx hb dX5_readsValue_47 rfl (lv_at hl 0 rfl) ?_
        refine lv_if_eq (tgt := 59) hx hb dX5_readsValue_48 (by decide) (fun c11 => ?_) (fun c11 => ?_)
        · replace hd := if_t c11 hd
          refine lv_aload_n hx hb dX5_readsValue_59 rfl (lv_at hl 1 rfl) ?_
          refine g_ X hinX5 hW 0 rfl rfl 12 (by decide) 2 rfl rfl rfl dX5_readsValue_60 ?_
          obtain ⟨F12, eF12, hd⟩ := bw_e hd
          refine p_ (ty := .int) X hinX5 tyX5 tyX5_ok nmX5 hW 0 rfl rfl 12 (by decide) 2 rfl rfl rfl (by decide +kernel) rfl rfl (Nat.le_of_ble_eq_true rfl) dX5_readsValue_63 (ws' := (WM Y ad F12)) (by rw [eF12]; rfl) (fun H locs hW => ?_)
          refine lv_iconst (v := 1) hx hb dX5_readsValue_66 (by decide) ?_
          obtain ⟨rfl, rfl⟩ := Prod.mk.inj (Option.some.inj hd)
          exact hQ _ _ _ _ (nz_b (Or.inr rfl)) hW dX5_readsValue_67
        · replace hd := if_f c11 hd
          refine lv_aload_n hx hb dX5_readsValue_51 rfl (lv_at hl 1 rfl) ?_
          refine g_ X hinX5 hW 0 rfl rfl 12 (by decide) 2 rfl rfl rfl dX5_readsValue_52 ?_
          refine lv_ineg hx hb dX5_readsValue_55 ?_
          refine lv_goto (tgt := 63) hx hb dX5_readsValue_56 (by decide) ?_
          obtain ⟨F13, eF13, hd⟩ := bw_e hd
          refine p_ (ty := .int) X hinX5 tyX5 tyX5_ok nmX5 hW 0 rfl rfl 12 (by decide) 2 rfl rfl rfl (by decide +kernel) rfl rfl (Nat.le_of_ble_eq_true rfl) dX5_readsValue_63 (ws' := (WM Y ad F13)) (by rw [eF13]; rfl) (fun H locs hW => ?_)
          refine lv_iconst (v := 1) hx hb dX5_readsValue_66 (by decide) ?_
          obtain ⟨rfl, rfl⟩ := Prod.mk.inj (Option.some.inj hd)
          exact hQ _ _ _ _ (nz_b (Or.inr rfl)) hW dX5_readsValue_67
      · replace hd := if_t c10 hd
        refine lv_iconst (v := 0) hx hb dX5_readsValue_44 (by decide) ?_
        obtain ⟨rfl, rfl⟩ := Prod.mk.inj (Option.some.inj hd)
        exact hQ _ _ _ _ (nz_b (Or.inl rfl)) hW dX5_readsValue_45
    · replace hd := if_f c5 hd
      refine lv_iconst (v := 1) hx hb dX5_readsValue_24 (by decide) ?_
      refine lv_goto (tgt := 29) hx hb dX5_readsValue_25 (by decide) ?_
      refine lv_iadd hx hb dX5_readsValue_29 ?_
      obtain ⟨F14, eF14, hd⟩ := bw_e hd
      refine p_ (ty := .int) X hinX5 tyX5 tyX5_ok nmX5 hW 0 rfl rfl 9 (by decide) 1 rfl rfl rfl (by decide +kernel) rfl rfl (Nat.le_of_ble_eq_true rfl) dX5_readsValue_30 (ws' := (WM Y ad F14)) (by rw [eF14]; rfl) (fun H locs hW => ?_)
      refine lv_aload_n hx hb dX5_readsValue_33 rfl (lv_at hl 1 rfl) ?_
      refine lv_iconst (v := 0) hx hb dX5_readsValue_34 (by decide) ?_
      refine lv_sipush (v := 999) hx hb dX5_readsValue_35 (by decide) ?_
      obtain ⟨r16, F17, h15, hd⟩ := bs_e hd
      refine cVi_ (rest := []) X (kX5_reads l Dd Y ad F14 0 999 r16 F17 h15) (cwV 2 X.1.2.2.2.2 gX5_readsValue_X5_reads rfl rfl rfl (by decide +kernel) ⟨Nat.le_of_ble_eq_true rfl, Nat.le_of_ble_eq_true rfl⟩) hW 0 5 rfl rfl rfl rfl hl.1 rfl (Nat.le_of_ble_eq_true rfl) dX5_readsValue_38 ⟨Nat.zero_le _, Nat.zero_le _⟩ (fun H locs hW => ?_)
      refine lv_if_ne (tgt := 46) hx hb dX5_readsValue_41 (by decide) (fun c18 => ?_) (fun c18 => ?_)
      · replace hd := if_f c18 hd
        refine lv_aload_n hx hb dX5_readsValue_46 rfl (lv_at hl 1 rfl) ?_
        refine lv_iload_n hx hb dX5_readsValue_47 rfl (lv_at hl 0 rfl) ?_
        refine lv_if_eq (tgt := 59) hx hb dX5_readsValue_48 (by decide) (fun c19 => ?_) (fun c19 => ?_)
        · replace hd := if_t c19 hd
          refine lv_aload_n hx hb dX5_readsValue_59 rfl (lv_at hl 1 rfl) ?_
          refine g_ X hinX5 hW 0 rfl rfl 12 (by decide) 2 rfl rfl rfl dX5_readsValue_60 ?_
          obtain ⟨F20, eF20, hd⟩ := bw_e hd
          refine p_ (ty := .int) X hinX5 tyX5 tyX5_ok nmX5 hW 0 rfl rfl 12 (by decide) 2 rfl rfl rfl (by decide +kernel) rfl rfl (Nat.le_of_ble_eq_true rfl) dX5_readsValue_63 (ws' := (WM Y ad F20)) (by rw [eF20]; rfl) (fun H locs hW => ?_)
          refine lv_iconst (v := 1) hx hb dX5_readsValue_66 (by decide) ?_
          obtain ⟨rfl, rfl⟩ := Prod.mk.inj (Option.some.inj hd)
          exact hQ _ _ _ _ (nz_b (Or.inr rfl)) hW dX5_readsValue_67
        · replace hd := if_f c19 hd
          refine lv_aload_n hx hb dX5_readsValue_51 rfl (lv_at hl 1 rfl) ?_
          refine g_ X hinX5 hW 0 rfl rfl 12 (by decide) 2 rfl rfl rfl dX5_readsValue_52 ?_
          refine lv_ineg hx hb dX5_readsValue_55 ?_
          refine lv_goto (tgt := 63) hx hb dX5_readsValue_56 (by decide) ?_
          obtain ⟨F21, eF21, hd⟩ := bw_e hd
          refine p_ (ty := .int) X hinX5 tyX5 tyX5_ok nmX5 hW 0 rfl rfl 12 (by decide) 2 rfl rfl rfl (by decide +kernel) rfl rfl (Nat.le_of_ble_eq_true rfl) dX5_readsValue_63 (ws' := (WM Y ad F21)) (by rw [eF21]; rfl) (fun H locs hW => ?_)
          refine lv_iconst (v := 1) hx hb dX5_readsValue_66 (by decide) ?_
          obtain ⟨rfl, rfl⟩ := Prod.mk.inj (Option.some.inj hd)
          exact hQ _ _ _ _ (nz_b (Or.inr rfl)) hW dX5_readsValue_67
      · replace hd := if_t c18 hd
        refine lv_iconst (v := 0) hx hb dX5_readsValue_44 (by decide) ?_
        obtain ⟨rfl, rfl⟩ := Prod.mk.inj (Option.some.inj hd)
        exact hQ _ _ _ _ (nz_b (Or.inl rfl)) hW dX5_readsValue_45
  · replace hd := if_t c4 hd
    refine lv_iconst (v := 1) hx hb dX5_readsValue_9 (by decide) ?_
    refine lv_goto (tgt := 14) hx hb dX5_readsValue_10 (by decide) ?_
    refine lv_istore_n (lv' := [(1, .int 1), (0, .ref (ad 0))]) hx hb dX5_readsValue_14 rfl hl (by decide) rfl (fun ls hl => ?_)
    refine lv_aload_n hx hb dX5_readsValue_15 rfl (lv_at hl 1 rfl) ?_
    refine lv_dup hx hb dX5_readsValue_16 rfl ?_
    refine g_ X hinX5 hW 0 rfl rfl 9 (by decide) 1 rfl rfl rfl dX5_readsValue_17 ?_
    refine lv_iload_n hx hb dX5_readsValue_20 rfl (lv_at hl 0 rfl) ?_
    refine lv_if_eq (tgt := 28) hx hb dX5_readsValue_21 (by decide) (fun c22 => ?_) (fun c22 => ?_)
    · replace hd := if_t c22 hd
      refine lv_iconst (v := 0) hx hb dX5_readsValue_28 (by decide) ?_
      refine lv_iadd hx hb dX5_readsValue_29 ?_
      obtain ⟨F23, eF23, hd⟩ := bw_e hd
      refine p_ (ty := .int) X hinX5 tyX5 tyX5_ok nmX5 hW 0 rfl rfl 9 (by decide) 1 rfl rfl rfl (by decide +kernel) rfl rfl (Nat.le_of_ble_eq_true rfl) dX5_readsValue_30 (ws' := (WM Y ad F23)) (by rw [eF23]; rfl) (fun H locs hW => ?_)
      refine lv_aload_n hx hb dX5_readsValue_33 rfl (lv_at hl 1 rfl) ?_
      refine lv_iconst (v := 0) hx hb dX5_readsValue_34 (by decide) ?_
      refine lv_sipush (v := 999) hx hb dX5_readsValue_35 (by decide) ?_
      obtain ⟨r25, F26, h24, hd⟩ := bs_e hd
      refine cVi_ (rest := []) X (kX5_reads l Dd Y ad F23 0 999 r25 F26 h24) (cwV 2 X.1.2.2.2.2 gX5_readsValue_X5_reads rfl rfl rfl (by decide +kernel) ⟨Nat.le_of_ble_eq_true rfl, Nat.le_of_ble_eq_true rfl⟩) hW 0 5 rfl rfl rfl rfl hl.1 rfl (Nat.le_of_ble_eq_true rfl) dX5_readsValue_38 ⟨Nat.zero_le _, Nat.zero_le _⟩ (fun H locs hW => ?_)
      refine lv_if_ne (tgt := 46) hx hb dX5_readsValue_41 (by decide) (fun c27 => ?_) (fun c27 => ?_)
      · replace hd := if_f c27 hd
        refine lv_aload_n hx hb dX5_readsValue_46 rfl (lv_at hl 1 rfl) ?_
        refine lv_iload_n hx hb dX5_readsValue_47 rfl (lv_at hl 0 rfl) ?_
        refine lv_if_eq (tgt := 59) hx hb dX5_readsValue_48 (by decide) (fun c28 => ?_) (fun c28 => ?_)
        · replace hd := if_t c28 hd
          refine lv_aload_n hx hb dX5_readsValue_59 rfl (lv_at hl 1 rfl) ?_
          refine g_ X hinX5 hW 0 rfl rfl 12 (by decide) 2 rfl rfl rfl dX5_readsValue_60 ?_
          obtain ⟨F29, eF29, hd⟩ := bw_e hd
          refine p_ (ty := .int) X hinX5 tyX5 tyX5_ok nmX5 hW 0 rfl rfl 12 (by decide) 2 rfl rfl rfl (by decide +kernel) rfl rfl (Nat.le_of_ble_eq_true rfl) dX5_readsValue_63 (ws' := (WM Y ad F29)) (by rw [eF29]; rfl) (fun H locs hW => ?_)
          refine lv_iconst (v := 1) hx hb dX5_readsValue_66 (by decide) ?_
          obtain ⟨rfl, rfl⟩ := Prod.mk.inj (Option.some.inj hd)
          exact hQ _ _ _ _ (nz_b (Or.inr rfl)) hW dX5_readsValue_67
        · replace hd := if_f c28 hd
          refine lv_aload_n hx hb dX5_readsValue_51 rfl (lv_at hl 1 rfl) ?_
          refine g_ X hinX5 hW 0 rfl rfl 12 (by decide) 2 rfl rfl rfl dX5_readsValue_52 ?_
          refine lv_ineg hx hb dX5_readsValue_55 ?_
          refine lv_goto (tgt := 63) hx hb dX5_readsValue_56 (by decide) ?_
          obtain ⟨F30, eF30, hd⟩ := bw_e hd
          refine p_ (ty := .int) X hinX5 tyX5 tyX5_ok nmX5 hW 0 rfl rfl 12 (by decide) 2 rfl rfl rfl (by decide +kernel) rfl rfl (Nat.le_of_ble_eq_true rfl) dX5_readsValue_63 (ws' := (WM Y ad F30)) (by rw [eF30]; rfl) (fun H locs hW => ?_)
          refine lv_iconst (v := 1) hx hb dX5_readsValue_66 (by decide) ?_
          obtain ⟨rfl, rfl⟩ := Prod.mk.inj (Option.some.inj hd)
          exact hQ _ _ _ _ (nz_b (Or.inr rfl)) hW dX5_readsValue_67
      · replace hd := if_t c27 hd
        refine lv_iconst (v := 0) hx hb dX5_readsValue_44 (by decide) ?_
        obtain ⟨rfl, rfl⟩ := Prod.mk.inj (Option.some.inj hd)
        exact hQ _ _ _ _ (nz_b (Or.inl rfl)) hW dX5_readsValue_45
    · replace hd := if_f c22 hd
      refine lv_iconst (v := 1) hx hb dX5_readsValue_24 (by decide) ?_
      refine lv_goto (tgt := 29) hx hb dX5_readsValue_25 (by decide) ?_
      refine lv_iadd hx hb dX5_readsValue_29 ?_
      obtain ⟨F31, eF31, hd⟩ := bw_e hd
      refine p_ (ty := .int) X hinX5 tyX5 tyX5_ok nmX5 hW 0 rfl rfl 9 (by decide) 1 rfl rfl rfl (by decide +kernel) rfl rfl (Nat.le_of_ble_eq_true rfl) dX5_readsValue_30 (ws' := (WM Y ad F31)) (by rw [eF31]; rfl) (fun H locs hW => ?_)
      refine lv_aload_n hx hb dX5_readsValue_33 rfl (lv_at hl 1 rfl) ?_
      refine lv_iconst (v := 0) hx hb dX5_readsValue_34 (by decide) ?_
      refine lv_sipush (v := 999) hx hb dX5_readsValue_35 (by decide) ?_
      obtain ⟨r33, F34, h32, hd⟩ := bs_e hd
      refine cVi_ (rest := []) X (kX5_reads l Dd Y ad F31 0 999 r33 F34 h32) (cwV 2 X.1.2.2.2.2 gX5_readsValue_X5_reads rfl rfl rfl (by decide +kernel) ⟨Nat.le_of_ble_eq_true rfl, Nat.le_of_ble_eq_true rfl⟩) hW 0 5 rfl rfl rfl rfl hl.1 rfl (Nat.le_of_ble_eq_true rfl) dX5_readsValue_38 ⟨Nat.zero_le _, Nat.zero_le _⟩ (fun H locs hW => ?_)
      refine lv_if_ne (tgt := 46) hx hb dX5_readsValue_41 (by decide) (fun c35 => ?_) (fun c35 => ?_)
      · replace hd := if_f c35 hd
        refine lv_aload_n hx hb dX5_readsValue_46 rfl (lv_at hl 1 rfl) ?_
        refine lv_iload_n hx hb dX5_readsValue_47 rfl (lv_at hl 0 rfl) ?_
        refine lv_if_eq (tgt := 59) hx hb dX5_readsValue_48 (by decide) (fun c36 => ?_) (fun c36 => ?_)
        · replace hd := if_t c36 hd
          refine lv_aload_n hx hb dX5_readsValue_59 rfl (lv_at hl 1 rfl) ?_
          refine g_ X hinX5 hW 0 rfl rfl 12 (by decide) 2 rfl rfl rfl dX5_readsValue_60 ?_
          obtain ⟨F37, eF37, hd⟩ := bw_e hd
          refine p_ (ty := .int) X hinX5 tyX5 tyX5_ok nmX5 hW 0 rfl rfl 12 (by decide) 2 rfl rfl rfl (by decide +kernel) rfl rfl (Nat.le_of_ble_eq_true rfl) dX5_readsValue_63 (ws' := (WM Y ad F37)) (by rw [eF37]; rfl) (fun H locs hW => ?_)
          refine lv_iconst (v := 1) hx hb dX5_readsValue_66 (by decide) ?_
          obtain ⟨rfl, rfl⟩ := Prod.mk.inj (Option.some.inj hd)
          exact hQ _ _ _ _ (nz_b (Or.inr rfl)) hW dX5_readsValue_67
        · replace hd := if_f c36 hd
          refine lv_aload_n hx hb dX5_readsValue_51 rfl (lv_at hl 1 rfl) ?_
          refine g_ X hinX5 hW 0 rfl rfl 12 (by decide) 2 rfl rfl rfl dX5_readsValue_52 ?_
          refine lv_ineg hx hb dX5_readsValue_55 ?_
          refine lv_goto (tgt := 63) hx hb dX5_readsValue_56 (by decide) ?_
          obtain ⟨F38, eF38, hd⟩ := bw_e hd
          refine p_ (ty := .int) X hinX5 tyX5 tyX5_ok nmX5 hW 0 rfl rfl 12 (by decide) 2 rfl rfl rfl (by decide +kernel) rfl rfl (Nat.le_of_ble_eq_true rfl) dX5_readsValue_63 (ws' := (WM Y ad F38)) (by rw [eF38]; rfl) (fun H locs hW => ?_)
          refine lv_iconst (v := 1) hx hb dX5_readsValue_66 (by decide) ?_
          obtain ⟨rfl, rfl⟩ := Prod.mk.inj (Option.some.inj hd)
          exact hQ _ _ _ _ (nz_b (Or.inr rfl)) hW dX5_readsValue_67
      · replace hd := if_t c35 hd
        refine lv_iconst (v := 0) hx hb dX5_readsValue_44 (by decide) ?_
        obtain ⟨rfl, rfl⟩ := Prod.mk.inj (Option.some.inj hd)
        exact hQ _ _ _ _ (nz_b (Or.inl rfl)) hW dX5_readsValue_45
abbrev rmX5_isValueHere : Room := { frames := 1, cells := 0, slots := 0, locals := 20 }
set_option maxRecDepth 100000 in
set_option maxHeartbeats 4000000 in
theorem kX5_isValueHere (l : Launch) (Dd : va_G) (Y : yT) (ad : Nat → Nat) (F : gF) (r : Int32) (F' : gF) (hd : dnX5_isValueHere F = some (r, F')) : MG l yX5_isValueHere wsX5_isValueHere rmX5_isValueHere Dd Y [.ref (ad 0)] (WM Y ad F) (WM Y ad F') (some (.int r)) := by
  refine MGi (cc := cX5_isValueHere) (maxL := 1) (ty := .boolean) (by decide) rfl (Nat.le_of_ble_eq_true rfl) (fun {p e s m args below meth c A} ls Q X hW hl hQ => ?_)
  have hx := X.x
  have hb := X.b
  have hl : lv_has ls 1 [(0, .ref (ad 0))] := hl
  unfold dnX5_isValueHere at hd
  refine lv_aload_n hx hb dX5_isValueHere_0 rfl (lv_at hl 0 rfl) ?_
  obtain ⟨r2, F3, h1, hd⟩ := bs_e hd
  refine cVi_ (rest := []) X (kX5_here l Dd Y ad F r2 F3 h1) (cwV 0 X.1.2.2.2.2 gX5_isValueHere_X5_here rfl rfl rfl (by decide +kernel) ⟨Nat.le_of_ble_eq_true rfl, Nat.le_of_ble_eq_true rfl⟩) hW 0 5 rfl rfl rfl rfl hl.1 rfl (Nat.le_of_ble_eq_true rfl) dX5_isValueHere_1 ⟨Nat.zero_le _, Nat.zero_le _⟩ (fun H locs hW => ?_)
  refine lv_bipush (v := 45) hx hb dX5_isValueHere_4 (by decide) ?_
  refine lv_icmp_eq (tgt := 19) hx hb dX5_isValueHere_6 (by decide) (fun c4 => ?_) (fun c4 => ?_)
  · replace hd := if_t c4 hd
    refine lv_iconst (v := 1) hx hb dX5_isValueHere_19 (by decide) ?_
    refine lv_goto (tgt := 24) hx hb dX5_isValueHere_20 (by decide) ?_
    obtain ⟨rfl, rfl⟩ := Prod.mk.inj (Option.some.inj hd)
    exact hQ _ _ _ _ (nz_b (Or.inr rfl)) hW dX5_isValueHere_24
  · replace hd := if_f c4 hd
    refine lv_aload_n hx hb dX5_isValueHere_9 rfl (lv_at hl 0 rfl) ?_
    obtain ⟨r6, F7, h5, hd⟩ := bs_e hd
    refine cVi_ (rest := []) X (kX5_here l Dd Y ad F3 r6 F7 h5) (cwV 0 X.1.2.2.2.2 gX5_isValueHere_X5_here rfl rfl rfl (by decide +kernel) ⟨Nat.le_of_ble_eq_true rfl, Nat.le_of_ble_eq_true rfl⟩) hW 0 5 rfl rfl rfl rfl hl.1 rfl (Nat.le_of_ble_eq_true rfl) dX5_isValueHere_10 ⟨Nat.zero_le _, Nat.zero_le _⟩ (fun H locs hW => ?_)
    obtain ⟨r9, h8, hd⟩ := bp_e hd
    refine cSi_ (rest := []) X (kX5_isDigit l Dd Y r6 r9 h8) (va_cwS 1 X.1.2.2.2.2 gX5_isValueHere_X5_isDigit rfl rfl rfl (by decide +kernel) ⟨Nat.le_of_ble_eq_true rfl, Nat.le_of_ble_eq_true rfl⟩) hW rfl hl.1 rfl (Nat.le_of_ble_eq_true rfl) dX5_isValueHere_13 ⟨Nat.zero_le _, Nat.zero_le _⟩ (fun H locs hW => ?_)
    refine lv_if_eq (tgt := 23) hx hb dX5_isValueHere_16 (by decide) (fun c10 => ?_) (fun c10 => ?_)
    · replace hd := if_t c10 hd
      refine lv_iconst (v := 0) hx hb dX5_isValueHere_23 (by decide) ?_
      obtain ⟨rfl, rfl⟩ := Prod.mk.inj (Option.some.inj hd)
      exact hQ _ _ _ _ (nz_b (Or.inl rfl)) hW dX5_isValueHere_24
    · replace hd := if_f c10 hd
      refine lv_iconst (v := 1) hx hb dX5_isValueHere_19 (by decide) ?_
      refine lv_goto (tgt := 24) hx hb dX5_isValueHere_20 (by decide) ?_
      obtain ⟨rfl, rfl⟩ := Prod.mk.inj (Option.some.inj hd)
      exact hQ _ _ _ _ (nz_b (Or.inr rfl)) hW dX5_isValueHere_24
abbrev rmX5_readsValues : Room := { frames := 3, cells := 0, slots := 0, locals := 65 }
set_option maxRecDepth 100000 in
set_option maxHeartbeats 4000000 in
theorem kX5_readsValues (l : Launch) (Dd : va_G) (Y : yT) (ad : Nat → Nat) (F : gF) (r : Int32) (F' : gF) (hd : dnX5_readsValues F = some (r, F')) : MG l yX5_readsValues wsX5_readsValues rmX5_readsValues Dd Y [.ref (ad 0)] (WM Y ad F) (WM Y ad F') (some (.int r)) := by
  refine MGi (cc := cX5_readsValues) (maxL := 2) (ty := .boolean) (by decide) rfl (Nat.le_of_ble_eq_true rfl) (fun {p e s m args below meth c A} ls Q X hW hl hQ => ?_)
  have hx := X.x
  have hb := X.b
  have hl : lv_has ls 2 [(0, .ref (ad 0))] := hl
  have hinX5 : ∀ w ∈ wsX50, w ∈ wsX5_readsValues := fun w h => List.mem_cons_of_mem _ (List.mem_append_right _ h)
  unfold dnX5_readsValues at hd
  have K18 : ∀ (n : Nat) (F : gF) (z : Nat × Int32 × gF), lpX5_readsValues_18 n F = some z → ∀ (H : Heap) (locs : List Loc) (ls : Array Slot), Wd Dd A s.heap (WM Y ad F) H locs → lv_has ls 2 [(0, .ref (ad 0))] → (∀ (H : Heap) (locs : List Loc) (ls : Array Slot), z.1 = 0 → Wd Dd A s.heap (WM Y ad z.2.2) H locs → lv_has ls 2 [(0, .ref (ad 0)), (1, .int z.2.1)] → W p l e rmX5_readsValues s m args below meth c H locs 0 0 Q (F0 m 55 ls [])) → (∀ (H : Heap) (locs : List Loc) (ls : Array Slot), z.1 = 1 → Wd Dd A s.heap (WM Y ad z.2.2) H locs → lv_has ls 2 [(0, .ref (ad 0)), (1, .int z.2.1)] → W p l e rmX5_readsValues s m args below meth c H locs 0 0 Q (F0 m 72 ls [])) → (∀ (H : Heap) (locs : List Loc) (ls : Array Slot), z.1 = 2 → Wd Dd A s.heap (WM Y ad z.2.2) H locs → lv_has ls 2 [] → W p l e rmX5_readsValues s m args below meth c H locs 0 0 Q (F0 m 104 ls [])) → W p l e rmX5_readsValues s m args below meth c H locs 0 0 Q (F0 m 18 ls []) := by
    intro n
    induction n with
    | zero => intro F z hd; cases hd
    | succ n ih =>
      intro F z hd H locs ls hW hl kx0 kx1 kx2
      unfold lpX5_readsValues_18 at hd
      refine lv_aload_n hx hb dX5_readsValues_18 rfl (lv_at hl 0 rfl) ?_
      obtain ⟨r2, F3, h1, hd⟩ := bs_e hd
      refine cVi_ (rest := []) X (kX5_isValueHere l Dd Y ad F r2 F3 h1) (cwV 0 X.1.2.2.2.2 gX5_readsValues_X5_isValueHere rfl rfl rfl (by decide +kernel) ⟨Nat.le_of_ble_eq_true rfl, Nat.le_of_ble_eq_true rfl⟩) hW 0 5 rfl rfl rfl rfl hl.1 rfl (Nat.le_of_ble_eq_true rfl) dX5_readsValues_19 ⟨Nat.zero_le _, Nat.zero_le _⟩ (fun H locs hW => ?_)
      refine lv_if_eq (tgt := 104) hx hb dX5_readsValues_22 (by decide) (fun c4 => ?_) (fun c4 => ?_)
      · replace hd := if_t c4 hd
        cases hd
        exact kx2 _ _ _ rfl hW (lv_sub hl [] rfl)
      · replace hd := if_f c4 hd
        refine lv_aload_n hx hb dX5_readsValues_25 rfl (lv_at hl 0 rfl) ?_
        refine g_ X hinX5 hW 0 rfl rfl 9 (by decide) 1 rfl rfl rfl dX5_readsValues_26 ?_
        refine lv_istore_n (lv' := [(1, .int (F3 0 9)), (0, .ref (ad 0))]) hx hb dX5_readsValues_29 rfl hl (by decide) rfl (fun ls hl => ?_)
        refine lv_aload_n hx hb dX5_readsValues_30 rfl (lv_at hl 1 rfl) ?_
        obtain ⟨r6, h5, hd⟩ := bp_e hd
        refine cVi_ (rest := []) X (kX5_size l Dd Y ad F3 r6 h5) (cwV 0 X.1.2.2.2.2 gX5_readsValues_X5_size rfl rfl rfl (by decide +kernel) ⟨Nat.le_of_ble_eq_true rfl, Nat.le_of_ble_eq_true rfl⟩) hW 0 5 rfl rfl rfl rfl hl.1 rfl (Nat.le_of_ble_eq_true rfl) dX5_readsValues_31 ⟨Nat.zero_le _, Nat.zero_le _⟩ (fun H locs hW => ?_)
        refine lv_bipush (v := 40) hx hb dX5_readsValues_34 (by decide) ?_
        refine lv_icmp_ne (tgt := 48) hx hb dX5_readsValues_36 (by decide) (fun c7 => ?_) (fun c7 => ?_)
        · replace hd := if_f c7 hd
          refine lv_aload_n hx hb dX5_readsValues_48 rfl (lv_at hl 1 rfl) ?_
          obtain ⟨r9, F10, h8, hd⟩ := bs_e hd
          refine cVi_ (rest := []) X (kX5_readsValue l Dd Y ad F3 r9 F10 h8) (cwV 0 X.1.2.2.2.2 gX5_readsValues_X5_readsValue rfl rfl rfl (by decide +kernel) ⟨Nat.le_of_ble_eq_true rfl, Nat.le_of_ble_eq_true rfl⟩) hW 0 5 rfl rfl rfl rfl hl.1 rfl (Nat.le_of_ble_eq_true rfl) dX5_readsValues_49 ⟨Nat.zero_le _, Nat.zero_le _⟩ (fun H locs hW => ?_)
          refine lv_if_ne (tgt := 63) hx hb dX5_readsValues_52 (by decide) (fun c11 => ?_) (fun c11 => ?_)
          · replace hd := if_f c11 hd
            refine lv_aload_n hx hb dX5_readsValues_63 rfl (lv_at hl 1 rfl) ?_
            obtain ⟨r13, h12, hd⟩ := bp_e hd
            refine cVi_ (rest := []) X (kX5_size l Dd Y ad F10 r13 h12) (cwV 0 X.1.2.2.2.2 gX5_readsValues_X5_size rfl rfl rfl (by decide +kernel) ⟨Nat.le_of_ble_eq_true rfl, Nat.le_of_ble_eq_true rfl⟩) hW 0 5 rfl rfl rfl rfl hl.1 rfl (Nat.le_of_ble_eq_true rfl) dX5_readsValues_64 ⟨Nat.zero_le _, Nat.zero_le _⟩ (fun H locs hW => ?_)
            refine lv_bipush (v := 40) hx hb dX5_readsValues_67 (by decide) ?_
            refine lv_icmp_ne (tgt := 80) hx hb dX5_readsValues_69 (by decide) (fun c14 => ?_) (fun c14 => ?_)
            · replace hd := if_f c14 hd
              refine lv_aload_n hx hb dX5_readsValues_80 rfl (lv_at hl 1 rfl) ?_
              refine lv_bipush (v := 12) hx hb dX5_readsValues_81 (by decide) ?_
              refine lv_aload_n hx hb dX5_readsValues_83 rfl (lv_at hl 1 rfl) ?_
              obtain ⟨r16, h15, hd⟩ := bp_e hd
              refine cVi_ (rest := [.int 12, .ref (ad 0)]) X (kX5_size l Dd Y ad F10 r16 h15) (cwV 0 X.1.2.2.2.2 gX5_readsValues_X5_size rfl rfl rfl (by decide +kernel) ⟨Nat.le_of_ble_eq_true rfl, Nat.le_of_ble_eq_true rfl⟩) hW 0 5 rfl rfl rfl rfl hl.1 rfl (Nat.le_of_ble_eq_true rfl) dX5_readsValues_84 ⟨Nat.zero_le _, Nat.zero_le _⟩ (fun H locs hW => ?_)
              refine lv_iadd hx hb dX5_readsValues_87 ?_
              refine lv_aload_n hx hb dX5_readsValues_88 rfl (lv_at hl 1 rfl) ?_
              refine g_ X hinX5 hW 0 rfl rfl 12 (by decide) 2 rfl rfl rfl dX5_readsValues_89 ?_
              obtain ⟨F18, h17, hd⟩ := bp_e hd
              refine cVv_ (rest := []) X (kX5_put0 l Dd Y ad F10 (12 + r16) (F10 0 12) F18 h17) (cwV 2 X.1.2.2.2.2 gX5_readsValues_X5_put0 rfl rfl rfl (by decide +kernel) ⟨Nat.le_of_ble_eq_true rfl, Nat.le_of_ble_eq_true rfl⟩) hW 0 5 rfl rfl rfl rfl hl.1 rfl (Nat.le_of_ble_eq_true rfl) dX5_readsValues_92 ⟨Nat.zero_le _, Nat.zero_le _⟩ (fun H locs hW => ?_)
              refine lv_aload_n hx hb dX5_readsValues_95 rfl (lv_at hl 1 rfl) ?_
              refine lv_iconst (v := 0) hx hb dX5_readsValues_96 (by decide) ?_
              refine lv_iconst (v := 1) hx hb dX5_readsValues_97 (by decide) ?_
              obtain ⟨F20, h19, hd⟩ := bp_e hd
              refine cVv_ (rest := []) X (kX5_adds l Dd Y ad F18 0 1 F20 h19) (cwV 2 X.1.2.2.2.2 gX5_readsValues_X5_adds rfl rfl rfl (by decide +kernel) ⟨Nat.le_of_ble_eq_true rfl, Nat.le_of_ble_eq_true rfl⟩) hW 0 5 rfl rfl rfl rfl hl.1 rfl (Nat.le_of_ble_eq_true rfl) dX5_readsValues_98 ⟨Nat.zero_le _, Nat.zero_le _⟩ (fun H locs hW => ?_)
              refine lv_goto (tgt := 18) hx hb dX5_readsValues_101 (by decide) ?_
              exact ih  F20 z hd _ _ _ hW (lv_sub hl [1] rfl) kx0 kx1 kx2
            · replace hd := if_t c14 hd
              cases hd
              exact kx1 _ _ _ rfl hW (lv_sub hl [1, 0] rfl)
          · replace hd := if_t c11 hd
            cases hd
            exact kx0 _ _ _ rfl hW (lv_sub hl [1, 0] rfl)
        · replace hd := if_t c7 hd
          refine lv_aload_n hx hb dX5_readsValues_39 rfl (lv_at hl 1 rfl) ?_
          obtain ⟨r22, F23, h21, hd⟩ := bs_e hd
          refine cVi_ (rest := []) X (kX5_here l Dd Y ad F3 r22 F23 h21) (cwV 0 X.1.2.2.2.2 gX5_readsValues_X5_here rfl rfl rfl (by decide +kernel) ⟨Nat.le_of_ble_eq_true rfl, Nat.le_of_ble_eq_true rfl⟩) hW 0 5 rfl rfl rfl rfl hl.1 rfl (Nat.le_of_ble_eq_true rfl) dX5_readsValues_40 ⟨Nat.zero_le _, Nat.zero_le _⟩ (fun H locs hW => ?_)
          refine lv_bipush (v := 45) hx hb dX5_readsValues_43 (by decide) ?_
          refine lv_icmp_eq (tgt := 55) hx hb dX5_readsValues_45 (by decide) (fun c24 => ?_) (fun c24 => ?_)
          · replace hd := if_t c24 hd
            cases hd
            exact kx0 _ _ _ rfl hW (lv_sub hl [1, 0] rfl)
          · replace hd := if_f c24 hd
            refine lv_aload_n hx hb dX5_readsValues_48 rfl (lv_at hl 1 rfl) ?_
            obtain ⟨r26, F27, h25, hd⟩ := bs_e hd
            refine cVi_ (rest := []) X (kX5_readsValue l Dd Y ad F23 r26 F27 h25) (cwV 0 X.1.2.2.2.2 gX5_readsValues_X5_readsValue rfl rfl rfl (by decide +kernel) ⟨Nat.le_of_ble_eq_true rfl, Nat.le_of_ble_eq_true rfl⟩) hW 0 5 rfl rfl rfl rfl hl.1 rfl (Nat.le_of_ble_eq_true rfl) dX5_readsValues_49 ⟨Nat.zero_le _, Nat.zero_le _⟩ (fun H locs hW => ?_)
            refine lv_if_ne (tgt := 63) hx hb dX5_readsValues_52 (by decide) (fun c28 => ?_) (fun c28 => ?_)
            · replace hd := if_f c28 hd
              refine lv_aload_n hx hb dX5_readsValues_63 rfl (lv_at hl 1 rfl) ?_
              obtain ⟨r30, h29, hd⟩ := bp_e hd
              refine cVi_ (rest := []) X (kX5_size l Dd Y ad F27 r30 h29) (cwV 0 X.1.2.2.2.2 gX5_readsValues_X5_size rfl rfl rfl (by decide +kernel) ⟨Nat.le_of_ble_eq_true rfl, Nat.le_of_ble_eq_true rfl⟩) hW 0 5 rfl rfl rfl rfl hl.1 rfl (Nat.le_of_ble_eq_true rfl) dX5_readsValues_64 ⟨Nat.zero_le _, Nat.zero_le _⟩ (fun H locs hW => ?_)
              refine lv_bipush (v := 40) hx hb dX5_readsValues_67 (by decide) ?_
              refine lv_icmp_ne (tgt := 80) hx hb dX5_readsValues_69 (by decide) (fun c31 => ?_) (fun c31 => ?_)
              · replace hd := if_f c31 hd
                refine lv_aload_n hx hb dX5_readsValues_80 rfl (lv_at hl 1 rfl) ?_
                refine lv_bipush (v := 12) hx hb dX5_readsValues_81 (by decide) ?_
                refine lv_aload_n hx hb dX5_readsValues_83 rfl (lv_at hl 1 rfl) ?_
                obtain ⟨r33, h32, hd⟩ := bp_e hd
                refine cVi_ (rest := [.int 12, .ref (ad 0)]) X (kX5_size l Dd Y ad F27 r33 h32) (cwV 0 X.1.2.2.2.2 gX5_readsValues_X5_size rfl rfl rfl (by decide +kernel) ⟨Nat.le_of_ble_eq_true rfl, Nat.le_of_ble_eq_true rfl⟩) hW 0 5 rfl rfl rfl rfl hl.1 rfl (Nat.le_of_ble_eq_true rfl) dX5_readsValues_84 ⟨Nat.zero_le _, Nat.zero_le _⟩ (fun H locs hW => ?_)
                refine lv_iadd hx hb dX5_readsValues_87 ?_
                refine lv_aload_n hx hb dX5_readsValues_88 rfl (lv_at hl 1 rfl) ?_
                refine g_ X hinX5 hW 0 rfl rfl 12 (by decide) 2 rfl rfl rfl dX5_readsValues_89 ?_
                obtain ⟨F35, h34, hd⟩ := bp_e hd
                refine cVv_ (rest := []) X (kX5_put0 l Dd Y ad F27 (12 + r33) (F27 0 12) F35 h34) (cwV 2 X.1.2.2.2.2 gX5_readsValues_X5_put0 rfl rfl rfl (by decide +kernel) ⟨Nat.le_of_ble_eq_true rfl, Nat.le_of_ble_eq_true rfl⟩) hW 0 5 rfl rfl rfl rfl hl.1 rfl (Nat.le_of_ble_eq_true rfl) dX5_readsValues_92 ⟨Nat.zero_le _, Nat.zero_le _⟩ (fun H locs hW => ?_)
                refine lv_aload_n hx hb dX5_readsValues_95 rfl (lv_at hl 1 rfl) ?_
                refine lv_iconst (v := 0) hx hb dX5_readsValues_96 (by decide) ?_
                refine lv_iconst (v := 1) hx hb dX5_readsValues_97 (by decide) ?_
                obtain ⟨F37, h36, hd⟩ := bp_e hd
                refine cVv_ (rest := []) X (kX5_adds l Dd Y ad F35 0 1 F37 h36) (cwV 2 X.1.2.2.2.2 gX5_readsValues_X5_adds rfl rfl rfl (by decide +kernel) ⟨Nat.le_of_ble_eq_true rfl, Nat.le_of_ble_eq_true rfl⟩) hW 0 5 rfl rfl rfl rfl hl.1 rfl (Nat.le_of_ble_eq_true rfl) dX5_readsValues_98 ⟨Nat.zero_le _, Nat.zero_le _⟩ (fun H locs hW => ?_)
                refine lv_goto (tgt := 18) hx hb dX5_readsValues_101 (by decide) ?_
                exact ih  F37 z hd _ _ _ hW (lv_sub hl [1] rfl) kx0 kx1 kx2
              · replace hd := if_t c31 hd
                cases hd
                exact kx1 _ _ _ rfl hW (lv_sub hl [1, 0] rfl)
            · replace hd := if_t c28 hd
              cases hd
              exact kx0 _ _ _ rfl hW (lv_sub hl [1, 0] rfl)
  refine lv_aload_n hx hb dX5_readsValues_0 rfl (lv_at hl 0 rfl) ?_
  obtain ⟨r39, F40, h38, hd⟩ := bs_e hd
  refine cVi_ (rest := []) X (kX5_isValueHere l Dd Y ad F r39 F40 h38) (cwV 0 X.1.2.2.2.2 gX5_readsValues_X5_isValueHere rfl rfl rfl (by decide +kernel) ⟨Nat.le_of_ble_eq_true rfl, Nat.le_of_ble_eq_true rfl⟩) hW 0 5 rfl rfl rfl rfl hl.1 rfl (Nat.le_of_ble_eq_true rfl) dX5_readsValues_1 ⟨Nat.zero_le _, Nat.zero_le _⟩ (fun H locs hW => ?_)
  refine lv_if_ne (tgt := 18) hx hb dX5_readsValues_4 (by decide) (fun c41 => ?_) (fun c41 => ?_)
  · replace hd := if_f c41 hd
    obtain ⟨z18_41, hz18_41, hd⟩ := bp_e hd
    refine K18 FU F40 z18_41 hz18_41 _ _ _ hW (lv_sub hl [0] rfl) (fun H locs ls e18 hW hl => ?_) (fun H locs ls e18 hW hl => ?_) (fun H locs ls e18 hW hl => ?_)
    · replace hd := if_t e18 hd
      refine lv_aload_n hx hb dX5_readsValues_55 rfl (lv_at hl 0 rfl) ?_
      refine lv_bipush (v := (-4)) hx hb dX5_readsValues_56 (by decide) ?_
      refine lv_iload_n hx hb dX5_readsValues_58 rfl (lv_at hl 1 rfl) ?_
      obtain ⟨r44, F45, h43, hd⟩ := bs_e hd
      refine cVi_ (rest := []) X (kX5_fails l Dd Y ad z18_41.2.2 (-4) z18_41.2.1 r44 F45 h43) (cwV 2 X.1.2.2.2.2 gX5_readsValues_X5_fails rfl rfl rfl (by decide +kernel) ⟨Nat.le_of_ble_eq_true rfl, Nat.le_of_ble_eq_true rfl⟩) hW 0 5 rfl rfl rfl rfl hl.1 rfl (Nat.le_of_ble_eq_true rfl) dX5_readsValues_59 ⟨Nat.zero_le _, Nat.zero_le _⟩ (fun H locs hW => ?_)
      obtain ⟨hz46, hd⟩ := rzs_e hd
      obtain ⟨rfl, rfl⟩ := Prod.mk.inj hd
      exact hQ _ _ _ _ (nz_b hz46) hW dX5_readsValues_62
    · replace hd := if_t e18 if_t e18 (if_f (by rw [e18]; decide) hd)
      refine lv_aload_n hx hb dX5_readsValues_72 rfl (lv_at hl 0 rfl) ?_
      refine lv_bipush (v := (-4)) hx hb dX5_readsValues_73 (by decide) ?_
      refine lv_iload_n hx hb dX5_readsValues_75 rfl (lv_at hl 1 rfl) ?_
      obtain ⟨r48, F49, h47, hd⟩ := bs_e hd
      refine cVi_ (rest := []) X (kX5_fails l Dd Y ad z18_41.2.2 (-4) z18_41.2.1 r48 F49 h47) (cwV 2 X.1.2.2.2.2 gX5_readsValues_X5_fails rfl rfl rfl (by decide +kernel) ⟨Nat.le_of_ble_eq_true rfl, Nat.le_of_ble_eq_true rfl⟩) hW 0 5 rfl rfl rfl rfl hl.1 rfl (Nat.le_of_ble_eq_true rfl) dX5_readsValues_76 ⟨Nat.zero_le _, Nat.zero_le _⟩ (fun H locs hW => ?_)
      obtain ⟨hz50, hd⟩ := rzs_e hd
      obtain ⟨rfl, rfl⟩ := Prod.mk.inj hd
      exact hQ _ _ _ _ (nz_b hz50) hW dX5_readsValues_79
    · replace hd := if_f (by rw [e18]; decide) (if_f (by rw [e18]; decide) hd)
      refine lv_iconst (v := 1) hx hb dX5_readsValues_104 (by decide) ?_
      obtain ⟨rfl, rfl⟩ := Prod.mk.inj (Option.some.inj hd)
      exact hQ _ _ _ _ (nz_b (Or.inr rfl)) hW dX5_readsValues_105
  · replace hd := if_t c41 hd
    refine lv_aload_n hx hb dX5_readsValues_7 rfl (lv_at hl 0 rfl) ?_
    refine lv_bipush (v := (-2)) hx hb dX5_readsValues_8 (by decide) ?_
    refine lv_aload_n hx hb dX5_readsValues_10 rfl (lv_at hl 0 rfl) ?_
    refine g_ X hinX5 hW 0 rfl rfl 9 (by decide) 1 rfl rfl rfl dX5_readsValues_11 ?_
    obtain ⟨r52, F53, h51, hd⟩ := bs_e hd
    refine cVi_ (rest := []) X (kX5_fails l Dd Y ad F40 (-2) (F40 0 9) r52 F53 h51) (cwV 2 X.1.2.2.2.2 gX5_readsValues_X5_fails rfl rfl rfl (by decide +kernel) ⟨Nat.le_of_ble_eq_true rfl, Nat.le_of_ble_eq_true rfl⟩) hW 0 5 rfl rfl rfl rfl hl.1 rfl (Nat.le_of_ble_eq_true rfl) dX5_readsValues_14 ⟨Nat.zero_le _, Nat.zero_le _⟩ (fun H locs hW => ?_)
    obtain ⟨hz54, hd⟩ := rzs_e hd
    obtain ⟨rfl, rfl⟩ := Prod.mk.inj hd
    exact hQ _ _ _ _ (nz_b hz54) hW dX5_readsValues_17
abbrev rmX5_readsPlace : Room := { frames := 2, cells := 0, slots := 0, locals := 44 }
set_option maxRecDepth 100000 in
set_option maxHeartbeats 4000000 in
theorem kX5_readsPlace (l : Launch) (Dd : va_G) (Y : yT) (ad : Nat → Nat) (F : gF) (x1 : Int32) (r : Int32) (F' : gF) (hd : dnX5_readsPlace F x1 = some (r, F')) : MG l yX5_readsPlace wsX5_readsPlace rmX5_readsPlace Dd Y [.ref (ad 0), .int x1] (WM Y ad F) (WM Y ad F') (some (.int r)) := by
  refine MGi (cc := cX5_readsPlace) (maxL := 2) (ty := .boolean) (by decide) rfl (Nat.le_of_ble_eq_true rfl) (fun {p e s m args below meth c A} ls Q X hW hl hQ => ?_)
  have hx := X.x
  have hb := X.b
  have hl : lv_has ls 2 [(0, .ref (ad 0)), (1, .int x1)] := hl
  unfold dnX5_readsPlace at hd
  refine lv_aload_n hx hb dX5_readsPlace_0 rfl (lv_at hl 0 rfl) ?_
  refine lv_iload_n hx hb dX5_readsPlace_1 rfl (lv_at hl 1 rfl) ?_
  refine lv_aload_n hx hb dX5_readsPlace_2 rfl (lv_at hl 0 rfl) ?_
  obtain ⟨r2, h1, hd⟩ := bp_e hd
  refine cVi_ (rest := [.int x1, .ref (ad 0)]) X (kX5_size l Dd Y ad F r2 h1) (cwV 0 X.1.2.2.2.2 gX5_readsPlace_X5_size rfl rfl rfl (by decide +kernel) ⟨Nat.le_of_ble_eq_true rfl, Nat.le_of_ble_eq_true rfl⟩) hW 0 5 rfl rfl rfl rfl hl.1 rfl (Nat.le_of_ble_eq_true rfl) dX5_readsPlace_3 ⟨Nat.zero_le _, Nat.zero_le _⟩ (fun H locs hW => ?_)
  refine lv_iconst (v := 1) hx hb dX5_readsPlace_6 (by decide) ?_
  refine lv_isub hx hb dX5_readsPlace_7 ?_
  obtain ⟨r4, F5, h3, hd⟩ := bs_e hd
  refine cVi_ (rest := []) X (kX5_reads l Dd Y ad F x1 (r2 - 1) r4 F5 h3) (cwV 2 X.1.2.2.2.2 gX5_readsPlace_X5_reads rfl rfl rfl (by decide +kernel) ⟨Nat.le_of_ble_eq_true rfl, Nat.le_of_ble_eq_true rfl⟩) hW 0 5 rfl rfl rfl rfl hl.1 rfl (Nat.le_of_ble_eq_true rfl) dX5_readsPlace_8 ⟨Nat.zero_le _, Nat.zero_le _⟩ (fun H locs hW => ?_)
  obtain ⟨hz6, hd⟩ := rzs_e hd
  obtain ⟨rfl, rfl⟩ := Prod.mk.inj hd
  exact hQ _ _ _ _ (nz_b hz6) hW dX5_readsPlace_11
abbrev rmX5_readsSet : Room := { frames := 6, cells := 0, slots := 0, locals := 135 }
set_option maxRecDepth 100000 in
set_option maxHeartbeats 4000000 in
theorem kX5_readsSet (l : Launch) (Dd : va_G) (Y : yT) (ad : Nat → Nat) (F : gF) (r : Int32) (F' : gF) (hd : dnX5_readsSet F = some (r, F')) : MG l yX5_readsSet wsX5_readsSet rmX5_readsSet Dd Y [.ref (ad 0)] (WM Y ad F) (WM Y ad F') (some (.int r)) := by
  refine MGi (cc := cX5_readsSet) (maxL := 2) (ty := .boolean) (by decide) rfl (Nat.le_of_ble_eq_true rfl) (fun {p e s m args below meth c A} ls Q X hW hl hQ => ?_)
  have hx := X.x
  have hb := X.b
  have hl : lv_has ls 2 [(0, .ref (ad 0))] := hl
  have hinX5 : ∀ w ∈ wsX50, w ∈ wsX5_readsSet := fun w h => List.mem_cons_of_mem _ (List.mem_append_right _ h)
  unfold dnX5_readsSet at hd
  refine lv_aload_n hx hb dX5_readsSet_0 rfl (lv_at hl 0 rfl) ?_
  refine lv_iconst (v := 0) hx hb dX5_readsSet_1 (by decide) ?_
  obtain ⟨r2, F3, h1, hd⟩ := bs_e hd
  refine cVi_ (rest := []) X (kX5_readsPlace l Dd Y ad F 0 r2 F3 h1) (cwV 1 X.1.2.2.2.2 gX5_readsSet_X5_readsPlace rfl rfl rfl (by decide +kernel) ⟨Nat.le_of_ble_eq_true rfl, Nat.le_of_ble_eq_true rfl⟩) hW 0 5 rfl rfl rfl rfl hl.1 rfl (Nat.le_of_ble_eq_true rfl) dX5_readsSet_2 ⟨Nat.zero_le _, Nat.zero_le _⟩ (fun H locs hW => ?_)
  refine lv_if_ne (tgt := 10) hx hb dX5_readsSet_5 (by decide) (fun c4 => ?_) (fun c4 => ?_)
  · replace hd := if_f c4 hd
    refine lv_aload_n hx hb dX5_readsSet_10 rfl (lv_at hl 0 rfl) ?_
    refine g_ X hinX5 hW 0 rfl rfl 12 (by decide) 1 rfl rfl rfl dX5_readsSet_11 ?_
    refine lv_istore_n (lv' := [(1, .int (F3 0 12)), (0, .ref (ad 0))]) hx hb dX5_readsSet_14 rfl hl (by decide) rfl (fun ls hl => ?_)
    refine lv_aload_n hx hb dX5_readsSet_15 rfl (lv_at hl 1 rfl) ?_
    obtain ⟨r6, F7, h5, hd⟩ := bs_e hd
    refine cVi_ (rest := []) X (kX5_readsValue l Dd Y ad F3 r6 F7 h5) (cwV 0 X.1.2.2.2.2 gX5_readsSet_X5_readsValue rfl rfl rfl (by decide +kernel) ⟨Nat.le_of_ble_eq_true rfl, Nat.le_of_ble_eq_true rfl⟩) hW 0 5 rfl rfl rfl rfl hl.1 rfl (Nat.le_of_ble_eq_true rfl) dX5_readsSet_16 ⟨Nat.zero_le _, Nat.zero_le _⟩ (fun H locs hW => ?_)
    refine lv_if_eq (tgt := 41) hx hb dX5_readsSet_19 (by decide) (fun c8 => ?_) (fun c8 => ?_)
    · replace hd := if_t c8 hd
      refine lv_iconst (v := 0) hx hb dX5_readsSet_41 (by decide) ?_
      obtain ⟨rfl, rfl⟩ := Prod.mk.inj (Option.some.inj hd)
      exact hQ _ _ _ _ (nz_b (Or.inl rfl)) hW dX5_readsSet_42
    · replace hd := if_f c8 hd
      refine lv_aload_n hx hb dX5_readsSet_22 rfl (lv_at hl 1 rfl) ?_
      refine lv_iload_n hx hb dX5_readsSet_23 rfl (lv_at hl 0 rfl) ?_
      refine lv_aload_n hx hb dX5_readsSet_24 rfl (lv_at hl 1 rfl) ?_
      refine g_ X hinX5 hW 0 rfl rfl 12 (by decide) 1 rfl rfl rfl dX5_readsSet_25 ?_
      obtain ⟨r10, F11, h9, hd⟩ := bs_e hd
      refine cVi_ (rest := []) X (kX5_sets l Dd Y ad F7 (F3 0 12) (F7 0 12) r10 F11 h9) (cwV 2 X.1.2.2.2.2 gX5_readsSet_X5_sets rfl rfl rfl (by decide +kernel) ⟨Nat.le_of_ble_eq_true rfl, Nat.le_of_ble_eq_true rfl⟩) hW 0 5 rfl rfl rfl rfl hl.1 rfl (Nat.le_of_ble_eq_true rfl) dX5_readsSet_28 ⟨Nat.zero_le _, Nat.zero_le _⟩ (fun H locs hW => ?_)
      refine lv_sipush (v := 999) hx hb dX5_readsSet_31 (by decide) ?_
      refine lv_icmp_gt (tgt := 41) hx hb dX5_readsSet_34 (by decide) (fun c12 => ?_) (fun c12 => ?_)
      · replace hd := if_t c12 hd
        refine lv_iconst (v := 0) hx hb dX5_readsSet_41 (by decide) ?_
        obtain ⟨rfl, rfl⟩ := Prod.mk.inj (Option.some.inj hd)
        exact hQ _ _ _ _ (nz_b (Or.inl rfl)) hW dX5_readsSet_42
      · replace hd := if_f c12 hd
        refine lv_iconst (v := 1) hx hb dX5_readsSet_37 (by decide) ?_
        refine lv_goto (tgt := 42) hx hb dX5_readsSet_38 (by decide) ?_
        obtain ⟨rfl, rfl⟩ := Prod.mk.inj (Option.some.inj hd)
        exact hQ _ _ _ _ (nz_b (Or.inr rfl)) hW dX5_readsSet_42
  · replace hd := if_t c4 hd
    refine lv_iconst (v := 0) hx hb dX5_readsSet_8 (by decide) ?_
    obtain ⟨rfl, rfl⟩ := Prod.mk.inj (Option.some.inj hd)
    exact hQ _ _ _ _ (nz_b (Or.inl rfl)) hW dX5_readsSet_9
abbrev rmX5_readsAsk : Room := { frames := 6, cells := 0, slots := 0, locals := 136 }
set_option maxRecDepth 100000 in
set_option maxHeartbeats 4000000 in
theorem kX5_readsAsk (l : Launch) (Dd : va_G) (Y : yT) (ad : Nat → Nat) (F : gF) (r : Int32) (F' : gF) (hd : dnX5_readsAsk F = some (r, F')) : MG l yX5_readsAsk wsX5_readsAsk rmX5_readsAsk Dd Y [.ref (ad 0)] (WM Y ad F) (WM Y ad F') (some (.int r)) := by
  refine MGi (cc := cX5_readsAsk) (maxL := 2) (ty := .boolean) (by decide) rfl (Nat.le_of_ble_eq_true rfl) (fun {p e s m args below meth c A} ls Q X hW hl hQ => ?_)
  have hx := X.x
  have hb := X.b
  have hl : lv_has ls 2 [(0, .ref (ad 0))] := hl
  have hinX5 : ∀ w ∈ wsX50, w ∈ wsX5_readsAsk := fun w h => List.mem_cons_of_mem _ (List.mem_append_right _ h)
  unfold dnX5_readsAsk at hd
  refine lv_aload_n hx hb dX5_readsAsk_0 rfl (lv_at hl 0 rfl) ?_
  refine lv_iconst (v := 0) hx hb dX5_readsAsk_1 (by decide) ?_
  obtain ⟨r2, F3, h1, hd⟩ := bs_e hd
  refine cVi_ (rest := []) X (kX5_readsPlace l Dd Y ad F 0 r2 F3 h1) (cwV 1 X.1.2.2.2.2 gX5_readsAsk_X5_readsPlace rfl rfl rfl (by decide +kernel) ⟨Nat.le_of_ble_eq_true rfl, Nat.le_of_ble_eq_true rfl⟩) hW 0 5 rfl rfl rfl rfl hl.1 rfl (Nat.le_of_ble_eq_true rfl) dX5_readsAsk_2 ⟨Nat.zero_le _, Nat.zero_le _⟩ (fun H locs hW => ?_)
  refine lv_if_ne (tgt := 10) hx hb dX5_readsAsk_5 (by decide) (fun c4 => ?_) (fun c4 => ?_)
  · replace hd := if_f c4 hd
    refine lv_aload_n hx hb dX5_readsAsk_10 rfl (lv_at hl 0 rfl) ?_
    refine g_ X hinX5 hW 0 rfl rfl 12 (by decide) 1 rfl rfl rfl dX5_readsAsk_11 ?_
    refine lv_istore_n (lv' := [(1, .int (F3 0 12)), (0, .ref (ad 0))]) hx hb dX5_readsAsk_14 rfl hl (by decide) rfl (fun ls hl => ?_)
    refine lv_aload_n hx hb dX5_readsAsk_15 rfl (lv_at hl 1 rfl) ?_
    refine lv_iload_n hx hb dX5_readsAsk_16 rfl (lv_at hl 0 rfl) ?_
    obtain ⟨r6, F7, h5, hd⟩ := bs_e hd
    refine cVi_ (rest := []) X (kX5_readsPlace l Dd Y ad F3 (F3 0 12) r6 F7 h5) (cwV 1 X.1.2.2.2.2 gX5_readsAsk_X5_readsPlace rfl rfl rfl (by decide +kernel) ⟨Nat.le_of_ble_eq_true rfl, Nat.le_of_ble_eq_true rfl⟩) hW 0 5 rfl rfl rfl rfl hl.1 rfl (Nat.le_of_ble_eq_true rfl) dX5_readsAsk_17 ⟨Nat.zero_le _, Nat.zero_le _⟩ (fun H locs hW => ?_)
    refine lv_if_eq (tgt := 39) hx hb dX5_readsAsk_20 (by decide) (fun c8 => ?_) (fun c8 => ?_)
    · replace hd := if_t c8 hd
      refine lv_iconst (v := 0) hx hb dX5_readsAsk_39 (by decide) ?_
      obtain ⟨rfl, rfl⟩ := Prod.mk.inj (Option.some.inj hd)
      exact hQ _ _ _ _ (nz_b (Or.inl rfl)) hW dX5_readsAsk_40
    · replace hd := if_f c8 hd
      refine lv_aload_n hx hb dX5_readsAsk_23 rfl (lv_at hl 1 rfl) ?_
      refine lv_iload_n hx hb dX5_readsAsk_24 rfl (lv_at hl 0 rfl) ?_
      refine lv_aload_n hx hb dX5_readsAsk_25 rfl (lv_at hl 1 rfl) ?_
      refine g_ X hinX5 hW 0 rfl rfl 12 (by decide) 1 rfl rfl rfl dX5_readsAsk_26 ?_
      obtain ⟨r10, F11, h9, hd⟩ := bs_e hd
      refine cVi_ (rest := []) X (kX5_asks l Dd Y ad F7 (F3 0 12) (F7 0 12) r10 F11 h9) (cwV 2 X.1.2.2.2.2 gX5_readsAsk_X5_asks rfl rfl rfl (by decide +kernel) ⟨Nat.le_of_ble_eq_true rfl, Nat.le_of_ble_eq_true rfl⟩) hW 0 5 rfl rfl rfl rfl hl.1 rfl (Nat.le_of_ble_eq_true rfl) dX5_readsAsk_29 ⟨Nat.zero_le _, Nat.zero_le _⟩ (fun H locs hW => ?_)
      refine lv_if_lt (tgt := 39) hx hb dX5_readsAsk_32 (by decide) (fun c12 => ?_) (fun c12 => ?_)
      · replace hd := if_t c12 hd
        refine lv_iconst (v := 0) hx hb dX5_readsAsk_39 (by decide) ?_
        obtain ⟨rfl, rfl⟩ := Prod.mk.inj (Option.some.inj hd)
        exact hQ _ _ _ _ (nz_b (Or.inl rfl)) hW dX5_readsAsk_40
      · replace hd := if_f c12 hd
        refine lv_iconst (v := 1) hx hb dX5_readsAsk_35 (by decide) ?_
        refine lv_goto (tgt := 40) hx hb dX5_readsAsk_36 (by decide) ?_
        obtain ⟨rfl, rfl⟩ := Prod.mk.inj (Option.some.inj hd)
        exact hQ _ _ _ _ (nz_b (Or.inr rfl)) hW dX5_readsAsk_40
  · replace hd := if_t c4 hd
    refine lv_iconst (v := 0) hx hb dX5_readsAsk_8 (by decide) ?_
    obtain ⟨rfl, rfl⟩ := Prod.mk.inj (Option.some.inj hd)
    exact hQ _ _ _ _ (nz_b (Or.inl rfl)) hW dX5_readsAsk_9
abbrev rmX5_readsKeep : Room := { frames := 3, cells := 0, slots := 0, locals := 67 }
set_option maxRecDepth 100000 in
set_option maxHeartbeats 4000000 in
theorem kX5_readsKeep (l : Launch) (Dd : va_G) (Y : yT) (ad : Nat → Nat) (F : gF) (r : Int32) (F' : gF) (hd : dnX5_readsKeep F = some (r, F')) : MG l yX5_readsKeep wsX5_readsKeep rmX5_readsKeep Dd Y [.ref (ad 0)] (WM Y ad F) (WM Y ad F') (some (.int r)) := by
  refine MGi (cc := cX5_readsKeep) (maxL := 2) (ty := .boolean) (by decide) rfl (Nat.le_of_ble_eq_true rfl) (fun {p e s m args below meth c A} ls Q X hW hl hQ => ?_)
  have hx := X.x
  have hb := X.b
  have hl : lv_has ls 2 [(0, .ref (ad 0))] := hl
  have hinX5 : ∀ w ∈ wsX50, w ∈ wsX5_readsKeep := fun w h => List.mem_cons_of_mem _ (List.mem_append_right _ h)
  unfold dnX5_readsKeep at hd
  refine lv_aload_n hx hb dX5_readsKeep_0 rfl (lv_at hl 0 rfl) ?_
  refine lv_iconst (v := 0) hx hb dX5_readsKeep_1 (by decide) ?_
  obtain ⟨r2, F3, h1, hd⟩ := bs_e hd
  refine cVi_ (rest := []) X (kX5_readsPlace l Dd Y ad F 0 r2 F3 h1) (cwV 1 X.1.2.2.2.2 gX5_readsKeep_X5_readsPlace rfl rfl rfl (by decide +kernel) ⟨Nat.le_of_ble_eq_true rfl, Nat.le_of_ble_eq_true rfl⟩) hW 0 5 rfl rfl rfl rfl hl.1 rfl (Nat.le_of_ble_eq_true rfl) dX5_readsKeep_2 ⟨Nat.zero_le _, Nat.zero_le _⟩ (fun H locs hW => ?_)
  refine lv_if_ne (tgt := 10) hx hb dX5_readsKeep_5 (by decide) (fun c4 => ?_) (fun c4 => ?_)
  · replace hd := if_f c4 hd
    refine lv_aload_n hx hb dX5_readsKeep_10 rfl (lv_at hl 0 rfl) ?_
    refine lv_bipush (v := 6) hx hb dX5_readsKeep_11 (by decide) ?_
    obtain ⟨r6, h5, hd⟩ := bp_e hd
    refine cVi_ (rest := []) X (kX5_get l Dd Y ad F3 6 r6 h5) (cwV 1 X.1.2.2.2.2 gX5_readsKeep_X5_get rfl rfl rfl (by decide +kernel) ⟨Nat.le_of_ble_eq_true rfl, Nat.le_of_ble_eq_true rfl⟩) hW 0 5 rfl rfl rfl rfl hl.1 rfl (Nat.le_of_ble_eq_true rfl) dX5_readsKeep_13 ⟨Nat.zero_le _, Nat.zero_le _⟩ (fun H locs hW => ?_)
    refine lv_bipush (v := 8) hx hb dX5_readsKeep_16 (by decide) ?_
    refine lv_icmp_ne (tgt := 32) hx hb dX5_readsKeep_18 (by decide) (fun c7 => ?_) (fun c7 => ?_)
    · replace hd := if_f c7 hd
      refine lv_aload_n hx hb dX5_readsKeep_32 rfl (lv_at hl 0 rfl) ?_
      refine g_ X hinX5 hW 0 rfl rfl 12 (by decide) 2 rfl rfl rfl dX5_readsKeep_33 ?_
      refine lv_istore_n (lv' := [(1, .int (F3 0 12)), (0, .ref (ad 0))]) hx hb dX5_readsKeep_36 rfl hl (by decide) rfl (fun ls hl => ?_)
      refine lv_aload_n hx hb dX5_readsKeep_37 rfl (lv_at hl 1 rfl) ?_
      refine lv_iload_n hx hb dX5_readsKeep_38 rfl (lv_at hl 0 rfl) ?_
      obtain ⟨r9, F10, h8, hd⟩ := bs_e hd
      refine cVi_ (rest := []) X (kX5_readsPlace l Dd Y ad F3 (F3 0 12) r9 F10 h8) (cwV 1 X.1.2.2.2.2 gX5_readsKeep_X5_readsPlace rfl rfl rfl (by decide +kernel) ⟨Nat.le_of_ble_eq_true rfl, Nat.le_of_ble_eq_true rfl⟩) hW 0 5 rfl rfl rfl rfl hl.1 rfl (Nat.le_of_ble_eq_true rfl) dX5_readsKeep_39 ⟨Nat.zero_le _, Nat.zero_le _⟩ (fun H locs hW => ?_)
      refine lv_if_eq (tgt := 61) hx hb dX5_readsKeep_42 (by decide) (fun c11 => ?_) (fun c11 => ?_)
      · replace hd := if_t c11 hd
        refine lv_iconst (v := 0) hx hb dX5_readsKeep_61 (by decide) ?_
        obtain ⟨rfl, rfl⟩ := Prod.mk.inj (Option.some.inj hd)
        exact hQ _ _ _ _ (nz_b (Or.inl rfl)) hW dX5_readsKeep_62
      · replace hd := if_f c11 hd
        refine lv_aload_n hx hb dX5_readsKeep_45 rfl (lv_at hl 1 rfl) ?_
        refine lv_iload_n hx hb dX5_readsKeep_46 rfl (lv_at hl 0 rfl) ?_
        refine lv_aload_n hx hb dX5_readsKeep_47 rfl (lv_at hl 1 rfl) ?_
        refine g_ X hinX5 hW 0 rfl rfl 12 (by decide) 2 rfl rfl rfl dX5_readsKeep_48 ?_
        obtain ⟨r13, F14, h12, hd⟩ := bs_e hd
        refine cVi_ (rest := []) X (kX5_keeps l Dd Y ad F10 (F3 0 12) (F10 0 12) r13 F14 h12) (cwV 2 X.1.2.2.2.2 gX5_readsKeep_X5_keeps rfl rfl rfl (by decide +kernel) ⟨Nat.le_of_ble_eq_true rfl, Nat.le_of_ble_eq_true rfl⟩) hW 0 5 rfl rfl rfl rfl hl.1 rfl (Nat.le_of_ble_eq_true rfl) dX5_readsKeep_51 ⟨Nat.zero_le _, Nat.zero_le _⟩ (fun H locs hW => ?_)
        refine lv_if_le (tgt := 61) hx hb dX5_readsKeep_54 (by decide) (fun c15 => ?_) (fun c15 => ?_)
        · replace hd := if_t c15 hd
          refine lv_iconst (v := 0) hx hb dX5_readsKeep_61 (by decide) ?_
          obtain ⟨rfl, rfl⟩ := Prod.mk.inj (Option.some.inj hd)
          exact hQ _ _ _ _ (nz_b (Or.inl rfl)) hW dX5_readsKeep_62
        · replace hd := if_f c15 hd
          refine lv_iconst (v := 1) hx hb dX5_readsKeep_57 (by decide) ?_
          refine lv_goto (tgt := 62) hx hb dX5_readsKeep_58 (by decide) ?_
          obtain ⟨rfl, rfl⟩ := Prod.mk.inj (Option.some.inj hd)
          exact hQ _ _ _ _ (nz_b (Or.inr rfl)) hW dX5_readsKeep_62
    · replace hd := if_t c7 hd
      refine lv_aload_n hx hb dX5_readsKeep_21 rfl (lv_at hl 0 rfl) ?_
      refine lv_bipush (v := (-4)) hx hb dX5_readsKeep_22 (by decide) ?_
      refine lv_aload_n hx hb dX5_readsKeep_24 rfl (lv_at hl 0 rfl) ?_
      refine g_ X hinX5 hW 0 rfl rfl 13 (by decide) 1 rfl rfl rfl dX5_readsKeep_25 ?_
      obtain ⟨r17, F18, h16, hd⟩ := bs_e hd
      refine cVi_ (rest := []) X (kX5_fails l Dd Y ad F3 (-4) (F3 0 13) r17 F18 h16) (cwV 2 X.1.2.2.2.2 gX5_readsKeep_X5_fails rfl rfl rfl (by decide +kernel) ⟨Nat.le_of_ble_eq_true rfl, Nat.le_of_ble_eq_true rfl⟩) hW 0 5 rfl rfl rfl rfl hl.1 rfl (Nat.le_of_ble_eq_true rfl) dX5_readsKeep_28 ⟨Nat.zero_le _, Nat.zero_le _⟩ (fun H locs hW => ?_)
      obtain ⟨hz19, hd⟩ := rzs_e hd
      obtain ⟨rfl, rfl⟩ := Prod.mk.inj hd
      exact hQ _ _ _ _ (nz_b hz19) hW dX5_readsKeep_31
  · replace hd := if_t c4 hd
    refine lv_iconst (v := 0) hx hb dX5_readsKeep_8 (by decide) ?_
    obtain ⟨rfl, rfl⟩ := Prod.mk.inj (Option.some.inj hd)
    exact hQ _ _ _ _ (nz_b (Or.inl rfl)) hW dX5_readsKeep_9
abbrev rmX5_readsPut : Room := { frames := 6, cells := 0, slots := 0, locals := 133 }
set_option maxRecDepth 100000 in
set_option maxHeartbeats 4000000 in
theorem kX5_readsPut (l : Launch) (Dd : va_G) (Y : yT) (ad : Nat → Nat) (F : gF) (r : Int32) (F' : gF) (hd : dnX5_readsPut F = some (r, F')) : MG l yX5_readsPut wsX5_readsPut rmX5_readsPut Dd Y [.ref (ad 0)] (WM Y ad F) (WM Y ad F') (some (.int r)) := by
  refine MGi (cc := cX5_readsPut) (maxL := 2) (ty := .boolean) (by decide) rfl (Nat.le_of_ble_eq_true rfl) (fun {p e s m args below meth c A} ls Q X hW hl hQ => ?_)
  have hx := X.x
  have hb := X.b
  have hl : lv_has ls 2 [(0, .ref (ad 0))] := hl
  have hinX5 : ∀ w ∈ wsX50, w ∈ wsX5_readsPut := fun w h => List.mem_cons_of_mem _ (List.mem_append_right _ h)
  unfold dnX5_readsPut at hd
  refine lv_aload_n hx hb dX5_readsPut_0 rfl (lv_at hl 0 rfl) ?_
  refine lv_iconst (v := 0) hx hb dX5_readsPut_1 (by decide) ?_
  refine lv_aload_n hx hb dX5_readsPut_2 rfl (lv_at hl 0 rfl) ?_
  obtain ⟨r2, h1, hd⟩ := bp_e hd
  refine cVi_ (rest := [.int 0, .ref (ad 0)]) X (kX5_size l Dd Y ad F r2 h1) (cwV 0 X.1.2.2.2.2 gX5_readsPut_X5_size rfl rfl rfl (by decide +kernel) ⟨Nat.le_of_ble_eq_true rfl, Nat.le_of_ble_eq_true rfl⟩) hW 0 5 rfl rfl rfl rfl hl.1 rfl (Nat.le_of_ble_eq_true rfl) dX5_readsPut_3 ⟨Nat.zero_le _, Nat.zero_le _⟩ (fun H locs hW => ?_)
  obtain ⟨r4, F5, h3, hd⟩ := bs_e hd
  refine cVi_ (rest := []) X (kX5_reads l Dd Y ad F 0 r2 r4 F5 h3) (cwV 2 X.1.2.2.2.2 gX5_readsPut_X5_reads rfl rfl rfl (by decide +kernel) ⟨Nat.le_of_ble_eq_true rfl, Nat.le_of_ble_eq_true rfl⟩) hW 0 5 rfl rfl rfl rfl hl.1 rfl (Nat.le_of_ble_eq_true rfl) dX5_readsPut_6 ⟨Nat.zero_le _, Nat.zero_le _⟩ (fun H locs hW => ?_)
  refine lv_if_ne (tgt := 14) hx hb dX5_readsPut_9 (by decide) (fun c6 => ?_) (fun c6 => ?_)
  · replace hd := if_f c6 hd
    refine lv_aload_n hx hb dX5_readsPut_14 rfl (lv_at hl 0 rfl) ?_
    obtain ⟨r8, h7, hd⟩ := bp_e hd
    refine cVi_ (rest := []) X (kX5_size l Dd Y ad F5 r8 h7) (cwV 0 X.1.2.2.2.2 gX5_readsPut_X5_size rfl rfl rfl (by decide +kernel) ⟨Nat.le_of_ble_eq_true rfl, Nat.le_of_ble_eq_true rfl⟩) hW 0 5 rfl rfl rfl rfl hl.1 rfl (Nat.le_of_ble_eq_true rfl) dX5_readsPut_15 ⟨Nat.zero_le _, Nat.zero_le _⟩ (fun H locs hW => ?_)
    refine lv_bipush (v := 40) hx hb dX5_readsPut_18 (by decide) ?_
    refine lv_icmp_ne (tgt := 34) hx hb dX5_readsPut_20 (by decide) (fun c9 => ?_) (fun c9 => ?_)
    · replace hd := if_f c9 hd
      refine lv_aload_n hx hb dX5_readsPut_34 rfl (lv_at hl 0 rfl) ?_
      refine g_ X hinX5 hW 0 rfl rfl 12 (by decide) 2 rfl rfl rfl dX5_readsPut_35 ?_
      refine lv_istore_n (lv' := [(1, .int (F5 0 12)), (0, .ref (ad 0))]) hx hb dX5_readsPut_38 rfl hl (by decide) rfl (fun ls hl => ?_)
      refine lv_aload_n hx hb dX5_readsPut_39 rfl (lv_at hl 1 rfl) ?_
      obtain ⟨r11, F12, h10, hd⟩ := bs_e hd
      refine cVi_ (rest := []) X (kX5_readsValue l Dd Y ad F5 r11 F12 h10) (cwV 0 X.1.2.2.2.2 gX5_readsPut_X5_readsValue rfl rfl rfl (by decide +kernel) ⟨Nat.le_of_ble_eq_true rfl, Nat.le_of_ble_eq_true rfl⟩) hW 0 5 rfl rfl rfl rfl hl.1 rfl (Nat.le_of_ble_eq_true rfl) dX5_readsPut_40 ⟨Nat.zero_le _, Nat.zero_le _⟩ (fun H locs hW => ?_)
      refine lv_if_eq (tgt := 62) hx hb dX5_readsPut_43 (by decide) (fun c13 => ?_) (fun c13 => ?_)
      · replace hd := if_t c13 hd
        refine lv_iconst (v := 0) hx hb dX5_readsPut_62 (by decide) ?_
        obtain ⟨rfl, rfl⟩ := Prod.mk.inj (Option.some.inj hd)
        exact hQ _ _ _ _ (nz_b (Or.inl rfl)) hW dX5_readsPut_63
      · replace hd := if_f c13 hd
        refine lv_aload_n hx hb dX5_readsPut_46 rfl (lv_at hl 1 rfl) ?_
        refine lv_iload_n hx hb dX5_readsPut_47 rfl (lv_at hl 0 rfl) ?_
        refine lv_aload_n hx hb dX5_readsPut_48 rfl (lv_at hl 1 rfl) ?_
        refine g_ X hinX5 hW 0 rfl rfl 12 (by decide) 2 rfl rfl rfl dX5_readsPut_49 ?_
        obtain ⟨r15, F16, h14, hd⟩ := bs_e hd
        refine cVi_ (rest := []) X (kX5_putsIn l Dd Y ad F12 (F5 0 12) (F12 0 12) r15 F16 h14) (cwV 2 X.1.2.2.2.2 gX5_readsPut_X5_putsIn rfl rfl rfl (by decide +kernel) ⟨Nat.le_of_ble_eq_true rfl, Nat.le_of_ble_eq_true rfl⟩) hW 0 5 rfl rfl rfl rfl hl.1 rfl (Nat.le_of_ble_eq_true rfl) dX5_readsPut_52 ⟨Nat.zero_le _, Nat.zero_le _⟩ (fun H locs hW => ?_)
        refine lv_if_le (tgt := 62) hx hb dX5_readsPut_55 (by decide) (fun c17 => ?_) (fun c17 => ?_)
        · replace hd := if_t c17 hd
          refine lv_iconst (v := 0) hx hb dX5_readsPut_62 (by decide) ?_
          obtain ⟨rfl, rfl⟩ := Prod.mk.inj (Option.some.inj hd)
          exact hQ _ _ _ _ (nz_b (Or.inl rfl)) hW dX5_readsPut_63
        · replace hd := if_f c17 hd
          refine lv_iconst (v := 1) hx hb dX5_readsPut_58 (by decide) ?_
          refine lv_goto (tgt := 63) hx hb dX5_readsPut_59 (by decide) ?_
          obtain ⟨rfl, rfl⟩ := Prod.mk.inj (Option.some.inj hd)
          exact hQ _ _ _ _ (nz_b (Or.inr rfl)) hW dX5_readsPut_63
    · replace hd := if_t c9 hd
      refine lv_aload_n hx hb dX5_readsPut_23 rfl (lv_at hl 0 rfl) ?_
      refine lv_bipush (v := (-4)) hx hb dX5_readsPut_24 (by decide) ?_
      refine lv_aload_n hx hb dX5_readsPut_26 rfl (lv_at hl 0 rfl) ?_
      refine g_ X hinX5 hW 0 rfl rfl 13 (by decide) 1 rfl rfl rfl dX5_readsPut_27 ?_
      obtain ⟨r19, F20, h18, hd⟩ := bs_e hd
      refine cVi_ (rest := []) X (kX5_fails l Dd Y ad F5 (-4) (F5 0 13) r19 F20 h18) (cwV 2 X.1.2.2.2.2 gX5_readsPut_X5_fails rfl rfl rfl (by decide +kernel) ⟨Nat.le_of_ble_eq_true rfl, Nat.le_of_ble_eq_true rfl⟩) hW 0 5 rfl rfl rfl rfl hl.1 rfl (Nat.le_of_ble_eq_true rfl) dX5_readsPut_30 ⟨Nat.zero_le _, Nat.zero_le _⟩ (fun H locs hW => ?_)
      obtain ⟨hz21, hd⟩ := rzs_e hd
      obtain ⟨rfl, rfl⟩ := Prod.mk.inj hd
      exact hQ _ _ _ _ (nz_b hz21) hW dX5_readsPut_33
  · replace hd := if_t c6 hd
    refine lv_iconst (v := 0) hx hb dX5_readsPut_12 (by decide) ?_
    obtain ⟨rfl, rfl⟩ := Prod.mk.inj (Option.some.inj hd)
    exact hQ _ _ _ _ (nz_b (Or.inl rfl)) hW dX5_readsPut_13
abbrev rmX5_readsTake : Room := { frames := 6, cells := 0, slots := 0, locals := 133 }
set_option maxRecDepth 100000 in
set_option maxHeartbeats 4000000 in
theorem kX5_readsTake (l : Launch) (Dd : va_G) (Y : yT) (ad : Nat → Nat) (F : gF) (r : Int32) (F' : gF) (hd : dnX5_readsTake F = some (r, F')) : MG l yX5_readsTake wsX5_readsTake rmX5_readsTake Dd Y [.ref (ad 0)] (WM Y ad F) (WM Y ad F') (some (.int r)) := by
  refine MGi (cc := cX5_readsTake) (maxL := 1) (ty := .boolean) (by decide) rfl (Nat.le_of_ble_eq_true rfl) (fun {p e s m args below meth c A} ls Q X hW hl hQ => ?_)
  have hx := X.x
  have hb := X.b
  have hl : lv_has ls 1 [(0, .ref (ad 0))] := hl
  have hinX5 : ∀ w ∈ wsX50, w ∈ wsX5_readsTake := fun w h => List.mem_cons_of_mem _ (List.mem_append_right _ h)
  unfold dnX5_readsTake at hd
  refine lv_aload_n hx hb dX5_readsTake_0 rfl (lv_at hl 0 rfl) ?_
  refine lv_iconst (v := 0) hx hb dX5_readsTake_1 (by decide) ?_
  obtain ⟨r2, F3, h1, hd⟩ := bs_e hd
  refine cVi_ (rest := []) X (kX5_readsPlace l Dd Y ad F 0 r2 F3 h1) (cwV 1 X.1.2.2.2.2 gX5_readsTake_X5_readsPlace rfl rfl rfl (by decide +kernel) ⟨Nat.le_of_ble_eq_true rfl, Nat.le_of_ble_eq_true rfl⟩) hW 0 5 rfl rfl rfl rfl hl.1 rfl (Nat.le_of_ble_eq_true rfl) dX5_readsTake_2 ⟨Nat.zero_le _, Nat.zero_le _⟩ (fun H locs hW => ?_)
  refine lv_if_ne (tgt := 10) hx hb dX5_readsTake_5 (by decide) (fun c4 => ?_) (fun c4 => ?_)
  · replace hd := if_f c4 hd
    refine lv_aload_n hx hb dX5_readsTake_10 rfl (lv_at hl 0 rfl) ?_
    obtain ⟨r6, h5, hd⟩ := bp_e hd
    refine cVi_ (rest := []) X (kX5_size l Dd Y ad F3 r6 h5) (cwV 0 X.1.2.2.2.2 gX5_readsTake_X5_size rfl rfl rfl (by decide +kernel) ⟨Nat.le_of_ble_eq_true rfl, Nat.le_of_ble_eq_true rfl⟩) hW 0 5 rfl rfl rfl rfl hl.1 rfl (Nat.le_of_ble_eq_true rfl) dX5_readsTake_11 ⟨Nat.zero_le _, Nat.zero_le _⟩ (fun H locs hW => ?_)
    refine lv_iconst (v := 1) hx hb dX5_readsTake_14 (by decide) ?_
    refine lv_icmp_ne (tgt := 29) hx hb dX5_readsTake_15 (by decide) (fun c7 => ?_) (fun c7 => ?_)
    · replace hd := if_f c7 hd
      refine lv_aload_n hx hb dX5_readsTake_29 rfl (lv_at hl 0 rfl) ?_
      refine lv_aload_n hx hb dX5_readsTake_30 rfl (lv_at hl 0 rfl) ?_
      refine g_ X hinX5 hW 0 rfl rfl 12 (by decide) 2 rfl rfl rfl dX5_readsTake_31 ?_
      obtain ⟨r9, F10, h8, hd⟩ := bs_e hd
      refine cVi_ (rest := []) X (kX5_takesOut l Dd Y ad F3 (F3 0 12) r9 F10 h8) (cwV 1 X.1.2.2.2.2 gX5_readsTake_X5_takesOut rfl rfl rfl (by decide +kernel) ⟨Nat.le_of_ble_eq_true rfl, Nat.le_of_ble_eq_true rfl⟩) hW 0 5 rfl rfl rfl rfl hl.1 rfl (Nat.le_of_ble_eq_true rfl) dX5_readsTake_34 ⟨Nat.zero_le _, Nat.zero_le _⟩ (fun H locs hW => ?_)
      refine lv_sipush (v := 999) hx hb dX5_readsTake_37 (by decide) ?_
      refine lv_icmp_gt (tgt := 47) hx hb dX5_readsTake_40 (by decide) (fun c11 => ?_) (fun c11 => ?_)
      · replace hd := if_t c11 hd
        refine lv_iconst (v := 0) hx hb dX5_readsTake_47 (by decide) ?_
        obtain ⟨rfl, rfl⟩ := Prod.mk.inj (Option.some.inj hd)
        exact hQ _ _ _ _ (nz_b (Or.inl rfl)) hW dX5_readsTake_48
      · replace hd := if_f c11 hd
        refine lv_iconst (v := 1) hx hb dX5_readsTake_43 (by decide) ?_
        refine lv_goto (tgt := 48) hx hb dX5_readsTake_44 (by decide) ?_
        obtain ⟨rfl, rfl⟩ := Prod.mk.inj (Option.some.inj hd)
        exact hQ _ _ _ _ (nz_b (Or.inr rfl)) hW dX5_readsTake_48
    · replace hd := if_t c7 hd
      refine lv_aload_n hx hb dX5_readsTake_18 rfl (lv_at hl 0 rfl) ?_
      refine lv_bipush (v := (-5)) hx hb dX5_readsTake_19 (by decide) ?_
      refine lv_aload_n hx hb dX5_readsTake_21 rfl (lv_at hl 0 rfl) ?_
      refine g_ X hinX5 hW 0 rfl rfl 13 (by decide) 1 rfl rfl rfl dX5_readsTake_22 ?_
      obtain ⟨r13, F14, h12, hd⟩ := bs_e hd
      refine cVi_ (rest := []) X (kX5_fails l Dd Y ad F3 (-5) (F3 0 13) r13 F14 h12) (cwV 2 X.1.2.2.2.2 gX5_readsTake_X5_fails rfl rfl rfl (by decide +kernel) ⟨Nat.le_of_ble_eq_true rfl, Nat.le_of_ble_eq_true rfl⟩) hW 0 5 rfl rfl rfl rfl hl.1 rfl (Nat.le_of_ble_eq_true rfl) dX5_readsTake_25 ⟨Nat.zero_le _, Nat.zero_le _⟩ (fun H locs hW => ?_)
      obtain ⟨hz15, hd⟩ := rzs_e hd
      obtain ⟨rfl, rfl⟩ := Prod.mk.inj hd
      exact hQ _ _ _ _ (nz_b hz15) hW dX5_readsTake_28
  · replace hd := if_t c4 hd
    refine lv_iconst (v := 0) hx hb dX5_readsTake_8 (by decide) ?_
    obtain ⟨rfl, rfl⟩ := Prod.mk.inj (Option.some.inj hd)
    exact hQ _ _ _ _ (nz_b (Or.inl rfl)) hW dX5_readsTake_9
abbrev rmX5_readsStatement : Room := { frames := 7, cells := 0, slots := 0, locals := 157 }
set_option maxRecDepth 100000 in
set_option maxHeartbeats 4000000 in
theorem kX5_readsStatement (l : Launch) (Dd : va_G) (Y : yT) (ad : Nat → Nat) (F : gF) (r : Int32) (F' : gF) (hd : dnX5_readsStatement F = some (r, F')) : MG l yX5_readsStatement wsX5_readsStatement rmX5_readsStatement Dd Y [.ref (ad 0)] (WM Y ad F) (WM Y ad F') (some (.int r)) := by
  refine MGi (cc := cX5_readsStatement) (maxL := 2) (ty := .boolean) (by decide) rfl (Nat.le_of_ble_eq_true rfl) (fun {p e s m args below meth c A} ls Q X hW hl hQ => ?_)
  have hx := X.x
  have hb := X.b
  have hl : lv_has ls 2 [(0, .ref (ad 0))] := hl
  have hinX5 : ∀ w ∈ wsX50, w ∈ wsX5_readsStatement := fun w h => List.mem_cons_of_mem _ (List.mem_append_right _ h)
  unfold dnX5_readsStatement at hd
  refine lv_aload_n hx hb dX5_readsStatement_0 rfl (lv_at hl 0 rfl) ?_
  obtain ⟨r2, F3, h1, hd⟩ := bs_e hd
  refine cVi_ (rest := []) X (kX5_here l Dd Y ad F r2 F3 h1) (cwV 0 X.1.2.2.2.2 gX5_readsStatement_X5_here rfl rfl rfl (by decide +kernel) ⟨Nat.le_of_ble_eq_true rfl, Nat.le_of_ble_eq_true rfl⟩) hW 0 5 rfl rfl rfl rfl hl.1 rfl (Nat.le_of_ble_eq_true rfl) dX5_readsStatement_1 ⟨Nat.zero_le _, Nat.zero_le _⟩ (fun H locs hW => ?_)
  refine lv_pop hx hb dX5_readsStatement_4 rfl ?_
  refine lv_aload_n hx hb dX5_readsStatement_5 rfl (lv_at hl 0 rfl) ?_
  refine g_ X hinX5 hW 0 rfl rfl 9 (by decide) 1 rfl rfl rfl dX5_readsStatement_6 ?_
  refine lv_istore_n (lv' := [(1, .int (F3 0 9)), (0, .ref (ad 0))]) hx hb dX5_readsStatement_9 rfl hl (by decide) rfl (fun ls hl => ?_)
  refine lv_aload_n hx hb dX5_readsStatement_10 rfl (lv_at hl 1 rfl) ?_
  refine va_ldcS hx hb X.1.2.2.2.1 (X.2.2.2.1.2.1 _ (List.mem_of_getElem? (i := 7) rfl)) dX5_readsStatement_11 ?_
  obtain ⟨r5, F6, h4, hd⟩ := bs_e hd
  refine cVi_ (rest := []) X (kX5_passes l Dd Y ad F3 1 (by decide) r5 F6 h4) (cwV 1 X.1.2.2.2.2 gX5_readsStatement_X5_passes rfl rfl rfl (by decide +kernel) ⟨Nat.le_of_ble_eq_true rfl, Nat.le_of_ble_eq_true rfl⟩) hW 0 5 rfl rfl rfl rfl hl.1 rfl (Nat.le_of_ble_eq_true rfl) dX5_readsStatement_13 ⟨Nat.zero_le _, Nat.zero_le _⟩ (fun H locs hW => ?_)
  refine lv_if_eq (tgt := 24) hx hb dX5_readsStatement_16 (by decide) (fun c7 => ?_) (fun c7 => ?_)
  · replace hd := if_t c7 hd
    refine lv_aload_n hx hb dX5_readsStatement_24 rfl (lv_at hl 1 rfl) ?_
    refine va_ldcS hx hb X.1.2.2.2.1 (X.2.2.2.1.2.1 _ (List.mem_of_getElem? (i := 8) rfl)) dX5_readsStatement_25 ?_
    obtain ⟨r9, F10, h8, hd⟩ := bs_e hd
    refine cVi_ (rest := []) X (kX5_passes l Dd Y ad F6 2 (by decide) r9 F10 h8) (cwV 1 X.1.2.2.2.2 gX5_readsStatement_X5_passes rfl rfl rfl (by decide +kernel) ⟨Nat.le_of_ble_eq_true rfl, Nat.le_of_ble_eq_true rfl⟩) hW 0 5 rfl rfl rfl rfl hl.1 rfl (Nat.le_of_ble_eq_true rfl) dX5_readsStatement_27 ⟨Nat.zero_le _, Nat.zero_le _⟩ (fun H locs hW => ?_)
    refine lv_if_eq (tgt := 38) hx hb dX5_readsStatement_30 (by decide) (fun c11 => ?_) (fun c11 => ?_)
    · replace hd := if_t c11 hd
      refine lv_aload_n hx hb dX5_readsStatement_38 rfl (lv_at hl 1 rfl) ?_
      refine va_ldcS hx hb X.1.2.2.2.1 (X.2.2.2.1.2.1 _ (List.mem_of_getElem? (i := 9) rfl)) dX5_readsStatement_39 ?_
      obtain ⟨r13, F14, h12, hd⟩ := bs_e hd
      refine cVi_ (rest := []) X (kX5_passes l Dd Y ad F10 3 (by decide) r13 F14 h12) (cwV 1 X.1.2.2.2.2 gX5_readsStatement_X5_passes rfl rfl rfl (by decide +kernel) ⟨Nat.le_of_ble_eq_true rfl, Nat.le_of_ble_eq_true rfl⟩) hW 0 5 rfl rfl rfl rfl hl.1 rfl (Nat.le_of_ble_eq_true rfl) dX5_readsStatement_41 ⟨Nat.zero_le _, Nat.zero_le _⟩ (fun H locs hW => ?_)
      refine lv_if_eq (tgt := 52) hx hb dX5_readsStatement_44 (by decide) (fun c15 => ?_) (fun c15 => ?_)
      · replace hd := if_t c15 hd
        refine lv_aload_n hx hb dX5_readsStatement_52 rfl (lv_at hl 1 rfl) ?_
        refine va_ldcS hx hb X.1.2.2.2.1 (X.2.2.2.1.2.1 _ (List.mem_of_getElem? (i := 10) rfl)) dX5_readsStatement_53 ?_
        obtain ⟨r17, F18, h16, hd⟩ := bs_e hd
        refine cVi_ (rest := []) X (kX5_passes l Dd Y ad F14 4 (by decide) r17 F18 h16) (cwV 1 X.1.2.2.2.2 gX5_readsStatement_X5_passes rfl rfl rfl (by decide +kernel) ⟨Nat.le_of_ble_eq_true rfl, Nat.le_of_ble_eq_true rfl⟩) hW 0 5 rfl rfl rfl rfl hl.1 rfl (Nat.le_of_ble_eq_true rfl) dX5_readsStatement_55 ⟨Nat.zero_le _, Nat.zero_le _⟩ (fun H locs hW => ?_)
        refine lv_if_eq (tgt := 66) hx hb dX5_readsStatement_58 (by decide) (fun c19 => ?_) (fun c19 => ?_)
        · replace hd := if_t c19 hd
          refine lv_aload_n hx hb dX5_readsStatement_66 rfl (lv_at hl 1 rfl) ?_
          refine va_ldcS hx hb X.1.2.2.2.1 (X.2.2.2.1.2.1 _ (List.mem_of_getElem? (i := 11) rfl)) dX5_readsStatement_67 ?_
          obtain ⟨r21, F22, h20, hd⟩ := bs_e hd
          refine cVi_ (rest := []) X (kX5_passes l Dd Y ad F18 5 (by decide) r21 F22 h20) (cwV 1 X.1.2.2.2.2 gX5_readsStatement_X5_passes rfl rfl rfl (by decide +kernel) ⟨Nat.le_of_ble_eq_true rfl, Nat.le_of_ble_eq_true rfl⟩) hW 0 5 rfl rfl rfl rfl hl.1 rfl (Nat.le_of_ble_eq_true rfl) dX5_readsStatement_69 ⟨Nat.zero_le _, Nat.zero_le _⟩ (fun H locs hW => ?_)
          refine lv_if_eq (tgt := 82) hx hb dX5_readsStatement_72 (by decide) (fun c23 => ?_) (fun c23 => ?_)
          · replace hd := if_t c23 hd
            refine lv_aload_n hx hb dX5_readsStatement_82 rfl (lv_at hl 1 rfl) ?_
            refine lv_bipush (v := (-2)) hx hb dX5_readsStatement_83 (by decide) ?_
            refine lv_iload_n hx hb dX5_readsStatement_85 rfl (lv_at hl 0 rfl) ?_
            obtain ⟨r25, F26, h24, hd⟩ := bs_e hd
            refine cVi_ (rest := []) X (kX5_fails l Dd Y ad F22 (-2) (F3 0 9) r25 F26 h24) (cwV 2 X.1.2.2.2.2 gX5_readsStatement_X5_fails rfl rfl rfl (by decide +kernel) ⟨Nat.le_of_ble_eq_true rfl, Nat.le_of_ble_eq_true rfl⟩) hW 0 5 rfl rfl rfl rfl hl.1 rfl (Nat.le_of_ble_eq_true rfl) dX5_readsStatement_86 ⟨Nat.zero_le _, Nat.zero_le _⟩ (fun H locs hW => ?_)
            obtain ⟨hz27, hd⟩ := rzs_e hd
            obtain ⟨rfl, rfl⟩ := Prod.mk.inj hd
            exact hQ _ _ _ _ (nz_b hz27) hW dX5_readsStatement_89
          · replace hd := if_f c23 hd
            refine lv_aload_n hx hb dX5_readsStatement_75 rfl (lv_at hl 1 rfl) ?_
            obtain ⟨r29, F30, h28, hd⟩ := bs_e hd
            refine cVi_ (rest := []) X (kX5_readsTake l Dd Y ad F22 r29 F30 h28) (cwV 0 X.1.2.2.2.2 gX5_readsStatement_X5_readsTake rfl rfl rfl (by decide +kernel) ⟨Nat.le_of_ble_eq_true rfl, Nat.le_of_ble_eq_true rfl⟩) hW 0 5 rfl rfl rfl rfl hl.1 rfl (Nat.le_of_ble_eq_true rfl) dX5_readsStatement_76 ⟨Nat.zero_le _, Nat.zero_le _⟩ (fun H locs hW => ?_)
            refine lv_goto (tgt := 89) hx hb dX5_readsStatement_79 (by decide) ?_
            obtain ⟨hz31, hd⟩ := rzs_e hd
            obtain ⟨rfl, rfl⟩ := Prod.mk.inj hd
            exact hQ _ _ _ _ (nz_b hz31) hW dX5_readsStatement_89
        · replace hd := if_f c19 hd
          refine lv_aload_n hx hb dX5_readsStatement_61 rfl (lv_at hl 1 rfl) ?_
          obtain ⟨r33, F34, h32, hd⟩ := bs_e hd
          refine cVi_ (rest := []) X (kX5_readsPut l Dd Y ad F18 r33 F34 h32) (cwV 0 X.1.2.2.2.2 gX5_readsStatement_X5_readsPut rfl rfl rfl (by decide +kernel) ⟨Nat.le_of_ble_eq_true rfl, Nat.le_of_ble_eq_true rfl⟩) hW 0 5 rfl rfl rfl rfl hl.1 rfl (Nat.le_of_ble_eq_true rfl) dX5_readsStatement_62 ⟨Nat.zero_le _, Nat.zero_le _⟩ (fun H locs hW => ?_)
          obtain ⟨hz35, hd⟩ := rzs_e hd
          obtain ⟨rfl, rfl⟩ := Prod.mk.inj hd
          exact hQ _ _ _ _ (nz_b hz35) hW dX5_readsStatement_65
      · replace hd := if_f c15 hd
        refine lv_aload_n hx hb dX5_readsStatement_47 rfl (lv_at hl 1 rfl) ?_
        obtain ⟨r37, F38, h36, hd⟩ := bs_e hd
        refine cVi_ (rest := []) X (kX5_readsKeep l Dd Y ad F14 r37 F38 h36) (cwV 0 X.1.2.2.2.2 gX5_readsStatement_X5_readsKeep rfl rfl rfl (by decide +kernel) ⟨Nat.le_of_ble_eq_true rfl, Nat.le_of_ble_eq_true rfl⟩) hW 0 5 rfl rfl rfl rfl hl.1 rfl (Nat.le_of_ble_eq_true rfl) dX5_readsStatement_48 ⟨Nat.zero_le _, Nat.zero_le _⟩ (fun H locs hW => ?_)
        obtain ⟨hz39, hd⟩ := rzs_e hd
        obtain ⟨rfl, rfl⟩ := Prod.mk.inj hd
        exact hQ _ _ _ _ (nz_b hz39) hW dX5_readsStatement_51
    · replace hd := if_f c11 hd
      refine lv_aload_n hx hb dX5_readsStatement_33 rfl (lv_at hl 1 rfl) ?_
      obtain ⟨r41, F42, h40, hd⟩ := bs_e hd
      refine cVi_ (rest := []) X (kX5_readsAsk l Dd Y ad F10 r41 F42 h40) (cwV 0 X.1.2.2.2.2 gX5_readsStatement_X5_readsAsk rfl rfl rfl (by decide +kernel) ⟨Nat.le_of_ble_eq_true rfl, Nat.le_of_ble_eq_true rfl⟩) hW 0 5 rfl rfl rfl rfl hl.1 rfl (Nat.le_of_ble_eq_true rfl) dX5_readsStatement_34 ⟨Nat.zero_le _, Nat.zero_le _⟩ (fun H locs hW => ?_)
      obtain ⟨hz43, hd⟩ := rzs_e hd
      obtain ⟨rfl, rfl⟩ := Prod.mk.inj hd
      exact hQ _ _ _ _ (nz_b hz43) hW dX5_readsStatement_37
  · replace hd := if_f c7 hd
    refine lv_aload_n hx hb dX5_readsStatement_19 rfl (lv_at hl 1 rfl) ?_
    obtain ⟨r45, F46, h44, hd⟩ := bs_e hd
    refine cVi_ (rest := []) X (kX5_readsSet l Dd Y ad F6 r45 F46 h44) (cwV 0 X.1.2.2.2.2 gX5_readsStatement_X5_readsSet rfl rfl rfl (by decide +kernel) ⟨Nat.le_of_ble_eq_true rfl, Nat.le_of_ble_eq_true rfl⟩) hW 0 5 rfl rfl rfl rfl hl.1 rfl (Nat.le_of_ble_eq_true rfl) dX5_readsStatement_20 ⟨Nat.zero_le _, Nat.zero_le _⟩ (fun H locs hW => ?_)
    obtain ⟨hz47, hd⟩ := rzs_e hd
    obtain ⟨rfl, rfl⟩ := Prod.mk.inj hd
    exact hQ _ _ _ _ (nz_b hz47) hW dX5_readsStatement_23
abbrev rmX5_readsText : Room := { frames := 8, cells := 0, slots := 0, locals := 178 }
set_option maxRecDepth 100000 in
set_option maxHeartbeats 4000000 in
theorem kX5_readsText (l : Launch) (Dd : va_G) (Y : yT) (ad : Nat → Nat) (F : gF) (r : Int32) (F' : gF) (hd : dnX5_readsText F = some (r, F')) : MG l yX5_readsText wsX5_readsText rmX5_readsText Dd Y [.ref (ad 0)] (WM Y ad F) (WM Y ad F') (some (.int r)) := by
  refine MGi (cc := cX5_readsText) (maxL := 2) (ty := .boolean) (by decide) rfl (Nat.le_of_ble_eq_true rfl) (fun {p e s m args below meth c A} ls Q X hW hl hQ => ?_)
  have hx := X.x
  have hb := X.b
  have hl : lv_has ls 2 [(0, .ref (ad 0))] := hl
  have hinX5 : ∀ w ∈ wsX50, w ∈ wsX5_readsText := fun w h => List.mem_cons_of_mem _ (List.mem_append_right _ h)
  unfold dnX5_readsText at hd
  have K22 : ∀ (n : Nat) (x1 : Int32) (F : gF) (z : Nat × gF), lpX5_readsText_22 n x1 F = some z → ∀ (H : Heap) (locs : List Loc) (ls : Array Slot), Wd Dd A s.heap (WM Y ad F) H locs → lv_has ls 2 [(0, .ref (ad 0)), (1, .int x1)] → (∀ (H : Heap) (locs : List Loc) (ls : Array Slot), z.1 = 0 → Wd Dd A s.heap (WM Y ad z.2) H locs → lv_has ls 2 [(0, .ref (ad 0))] → W p l e rmX5_readsText s m args below meth c H locs 0 0 Q (F0 m 41 ls [])) → W p l e rmX5_readsText s m args below meth c H locs 0 0 Q (F0 m 22 ls []) := by
    intro n
    induction n with
    | zero => intro x1 F z hd; cases hd
    | succ n ih =>
      intro x1 F z hd H locs ls hW hl kx0
      unfold lpX5_readsText_22 at hd
      refine lv_iload_n hx hb dX5_readsText_22 rfl (lv_at hl 1 rfl) ?_
      refine lv_sipush (v := 310) hx hb dX5_readsText_23 (by decide) ?_
      refine lv_icmp_ge (tgt := 41) hx hb dX5_readsText_26 (by decide) (fun c1 => ?_) (fun c1 => ?_)
      · replace hd := if_t c1 hd
        cases hd
        exact kx0 _ _ _ rfl hW (lv_sub hl [0] rfl)
      · replace hd := if_f c1 hd
        refine lv_aload_n hx hb dX5_readsText_29 rfl (lv_at hl 0 rfl) ?_
        refine lv_iload_n hx hb dX5_readsText_30 rfl (lv_at hl 1 rfl) ?_
        refine lv_iconst (v := 0) hx hb dX5_readsText_31 (by decide) ?_
        obtain ⟨F3, h2, hd⟩ := bp_e hd
        refine cVv_ (rest := []) X (kX5_put0 l Dd Y ad F x1 0 F3 h2) (cwV 2 X.1.2.2.2.2 gX5_readsText_X5_put0 rfl rfl rfl (by decide +kernel) ⟨Nat.le_of_ble_eq_true rfl, Nat.le_of_ble_eq_true rfl⟩) hW 0 5 rfl rfl rfl rfl hl.1 rfl (Nat.le_of_ble_eq_true rfl) dX5_readsText_32 ⟨Nat.zero_le _, Nat.zero_le _⟩ (fun H locs hW => ?_)
        refine lv_iinc (v := x1 + 1) (lv' := [(1, .int (x1 + 1)), (0, .ref (ad 0))]) hx hb dX5_readsText_35 hl (k := 1) rfl rfl (by decide) rfl (fun ls hl => ?_)
        refine lv_goto (tgt := 22) hx hb dX5_readsText_38 (by decide) ?_
        exact ih (x1 + 1) F3 z hd _ _ _ hW (lv_sub hl [1, 0] rfl) kx0
  have K113 : ∀ (n : Nat) (F : gF) (z : Nat × gF), lpX5_readsText_113 n F = some z → ∀ (H : Heap) (locs : List Loc) (ls : Array Slot), Wd Dd A s.heap (WM Y ad F) H locs → lv_has ls 2 [(0, .ref (ad 0))] → (∀ (H : Heap) (locs : List Loc) (ls : Array Slot), z.1 = 0 → Wd Dd A s.heap (WM Y ad z.2) H locs → lv_has ls 2 [] → W p l e rmX5_readsText s m args below meth c H locs 0 0 Q (F0 m 137 ls [])) → (∀ (H : Heap) (locs : List Loc) (ls : Array Slot), z.1 = 1 → Wd Dd A s.heap (WM Y ad z.2) H locs → lv_has ls 2 [] → W p l e rmX5_readsText s m args below meth c H locs 0 0 Q (F0 m 139 ls [])) → W p l e rmX5_readsText s m args below meth c H locs 0 0 Q (F0 m 113 ls []) := by
    intro n
    induction n with
    | zero => intro F z hd; cases hd
    | succ n ih =>
      intro F z hd H locs ls hW hl kx0 kx1
      unfold lpX5_readsText_113 at hd
      refine lv_aload_n hx hb dX5_readsText_113 rfl (lv_at hl 0 rfl) ?_
      obtain ⟨r5, F6, h4, hd⟩ := bs_e hd
      refine cVi_ (rest := []) X (kX5_here l Dd Y ad F r5 F6 h4) (cwV 0 X.1.2.2.2.2 gX5_readsText_X5_here rfl rfl rfl (by decide +kernel) ⟨Nat.le_of_ble_eq_true rfl, Nat.le_of_ble_eq_true rfl⟩) hW 0 5 rfl rfl rfl rfl hl.1 rfl (Nat.le_of_ble_eq_true rfl) dX5_readsText_114 ⟨Nat.zero_le _, Nat.zero_le _⟩ (fun H locs hW => ?_)
      refine lv_iconst (v := (-1)) hx hb dX5_readsText_117 (by decide) ?_
      refine lv_icmp_eq (tgt := 139) hx hb dX5_readsText_118 (by decide) (fun c7 => ?_) (fun c7 => ?_)
      · replace hd := if_t c7 hd
        cases hd
        exact kx1 _ _ _ rfl hW (lv_sub hl [] rfl)
      · replace hd := if_f c7 hd
        refine lv_aload_n hx hb dX5_readsText_121 rfl (lv_at hl 0 rfl) ?_
        obtain ⟨r9, F10, h8, hd⟩ := bs_e hd
        refine cVi_ (rest := []) X (kX5_readsStatement l Dd Y ad F6 r9 F10 h8) (cwV 0 X.1.2.2.2.2 gX5_readsText_X5_readsStatement rfl rfl rfl (by decide +kernel) ⟨Nat.le_of_ble_eq_true rfl, Nat.le_of_ble_eq_true rfl⟩) hW 0 5 rfl rfl rfl rfl hl.1 rfl (Nat.le_of_ble_eq_true rfl) dX5_readsText_122 ⟨Nat.zero_le _, Nat.zero_le _⟩ (fun H locs hW => ?_)
        refine lv_if_eq (tgt := 137) hx hb dX5_readsText_125 (by decide) (fun c11 => ?_) (fun c11 => ?_)
        · replace hd := if_t c11 hd
          cases hd
          exact kx0 _ _ _ rfl hW (lv_sub hl [] rfl)
        · replace hd := if_f c11 hd
          refine lv_aload_n hx hb dX5_readsText_128 rfl (lv_at hl 0 rfl) ?_
          refine lv_bipush (v := 59) hx hb dX5_readsText_129 (by decide) ?_
          obtain ⟨r13, F14, h12, hd⟩ := bs_e hd
          refine cVi_ (rest := []) X (kX5_sign l Dd Y ad F10 59 r13 F14 h12) (cwV 1 X.1.2.2.2.2 gX5_readsText_X5_sign rfl rfl rfl (by decide +kernel) ⟨Nat.le_of_ble_eq_true rfl, Nat.le_of_ble_eq_true rfl⟩) hW 0 5 rfl rfl rfl rfl hl.1 rfl (Nat.le_of_ble_eq_true rfl) dX5_readsText_131 ⟨Nat.zero_le _, Nat.zero_le _⟩ (fun H locs hW => ?_)
          refine lv_if_ne (tgt := 113) hx hb dX5_readsText_134 (by decide) (fun c15 => ?_) (fun c15 => ?_)
          · replace hd := if_f c15 hd
            exact ih  F14 z hd _ _ _ hW (lv_sub hl [0] rfl) kx0 kx1
          · replace hd := if_t c15 hd
            cases hd
            exact kx0 _ _ _ rfl hW (lv_sub hl [] rfl)
  refine lv_aload_n hx hb dX5_readsText_0 rfl (lv_at hl 0 rfl) ?_
  refine va_ldcS hx hb X.1.2.2.2.1 (X.2.2.2.1.2.1 _ (List.mem_of_getElem? (i := 6) rfl)) dX5_readsText_1 ?_
  obtain ⟨r17, F18, h16, hd⟩ := bs_e hd
  refine cVi_ (rest := []) X (kX5_passes l Dd Y ad F 0 (by decide) r17 F18 h16) (cwV 1 X.1.2.2.2.2 gX5_readsText_X5_passes rfl rfl rfl (by decide +kernel) ⟨Nat.le_of_ble_eq_true rfl, Nat.le_of_ble_eq_true rfl⟩) hW 0 5 rfl rfl rfl rfl hl.1 rfl (Nat.le_of_ble_eq_true rfl) dX5_readsText_3 ⟨Nat.zero_le _, Nat.zero_le _⟩ (fun H locs hW => ?_)
  refine lv_if_ne (tgt := 20) hx hb dX5_readsText_6 (by decide) (fun c19 => ?_) (fun c19 => ?_)
  · replace hd := if_f c19 hd
    refine lv_iconst (v := 0) hx hb dX5_readsText_20 (by decide) ?_
    refine lv_istore_n (lv' := [(1, .int 0), (0, .ref (ad 0))]) hx hb dX5_readsText_21 rfl hl (by decide) rfl (fun ls hl => ?_)
    obtain ⟨z22_19, hz22_19, hd⟩ := bp_e hd
    refine K22 FU 0 F18 z22_19 hz22_19 _ _ _ hW (lv_sub hl [1, 0] rfl) (fun H locs ls e22 hW hl => ?_)
    refine lv_aload_n hx hb dX5_readsText_41 rfl (lv_at hl 0 rfl) ?_
    refine lv_iconst (v := 0) hx hb dX5_readsText_42 (by decide) ?_
    refine lv_iconst (v := 2) hx hb dX5_readsText_43 (by decide) ?_
    obtain ⟨r22, F23, h21, hd⟩ := bs_e hd
    refine cVi_ (rest := []) X (kX5_reads l Dd Y ad z22_19.2 0 2 r22 F23 h21) (cwV 2 X.1.2.2.2.2 gX5_readsText_X5_reads rfl rfl rfl (by decide +kernel) ⟨Nat.le_of_ble_eq_true rfl, Nat.le_of_ble_eq_true rfl⟩) hW 0 5 rfl rfl rfl rfl hl.1 rfl (Nat.le_of_ble_eq_true rfl) dX5_readsText_44 ⟨Nat.zero_le _, Nat.zero_le _⟩ (fun H locs hW => ?_)
    refine lv_if_ne (tgt := 52) hx hb dX5_readsText_47 (by decide) (fun c24 => ?_) (fun c24 => ?_)
    · replace hd := if_f c24 hd
      refine lv_aload_n hx hb dX5_readsText_52 rfl (lv_at hl 0 rfl) ?_
      refine lv_iconst (v := 1) hx hb dX5_readsText_53 (by decide) ?_
      refine lv_aload_n hx hb dX5_readsText_54 rfl (lv_at hl 0 rfl) ?_
      refine g_ X hinX5 hW 0 rfl rfl 12 (by decide) 2 rfl rfl rfl dX5_readsText_55 ?_
      obtain ⟨F26, h25, hd⟩ := bp_e hd
      refine cVv_ (rest := []) X (kX5_put0 l Dd Y ad F23 1 (F23 0 12) F26 h25) (cwV 2 X.1.2.2.2.2 gX5_readsText_X5_put0 rfl rfl rfl (by decide +kernel) ⟨Nat.le_of_ble_eq_true rfl, Nat.le_of_ble_eq_true rfl⟩) hW 0 5 rfl rfl rfl rfl hl.1 rfl (Nat.le_of_ble_eq_true rfl) dX5_readsText_58 ⟨Nat.zero_le _, Nat.zero_le _⟩ (fun H locs hW => ?_)
      refine lv_aload_n hx hb dX5_readsText_61 rfl (lv_at hl 0 rfl) ?_
      refine lv_iconst (v := 1) hx hb dX5_readsText_62 (by decide) ?_
      refine lv_bipush (v := 8) hx hb dX5_readsText_63 (by decide) ?_
      obtain ⟨r28, F29, h27, hd⟩ := bs_e hd
      refine cVi_ (rest := []) X (kX5_reads l Dd Y ad F26 1 8 r28 F29 h27) (cwV 2 X.1.2.2.2.2 gX5_readsText_X5_reads rfl rfl rfl (by decide +kernel) ⟨Nat.le_of_ble_eq_true rfl, Nat.le_of_ble_eq_true rfl⟩) hW 0 5 rfl rfl rfl rfl hl.1 rfl (Nat.le_of_ble_eq_true rfl) dX5_readsText_65 ⟨Nat.zero_le _, Nat.zero_le _⟩ (fun H locs hW => ?_)
      refine lv_if_ne (tgt := 73) hx hb dX5_readsText_68 (by decide) (fun c30 => ?_) (fun c30 => ?_)
      · replace hd := if_f c30 hd
        refine lv_aload_n hx hb dX5_readsText_73 rfl (lv_at hl 0 rfl) ?_
        refine lv_iconst (v := 2) hx hb dX5_readsText_74 (by decide) ?_
        refine lv_aload_n hx hb dX5_readsText_75 rfl (lv_at hl 0 rfl) ?_
        refine g_ X hinX5 hW 0 rfl rfl 12 (by decide) 2 rfl rfl rfl dX5_readsText_76 ?_
        obtain ⟨F32, h31, hd⟩ := bp_e hd
        refine cVv_ (rest := []) X (kX5_put0 l Dd Y ad F29 2 (F29 0 12) F32 h31) (cwV 2 X.1.2.2.2.2 gX5_readsText_X5_put0 rfl rfl rfl (by decide +kernel) ⟨Nat.le_of_ble_eq_true rfl, Nat.le_of_ble_eq_true rfl⟩) hW 0 5 rfl rfl rfl rfl hl.1 rfl (Nat.le_of_ble_eq_true rfl) dX5_readsText_79 ⟨Nat.zero_le _, Nat.zero_le _⟩ (fun H locs hW => ?_)
        refine lv_aload_n hx hb dX5_readsText_82 rfl (lv_at hl 0 rfl) ?_
        refine lv_bipush (v := 58) hx hb dX5_readsText_83 (by decide) ?_
        obtain ⟨r34, F35, h33, hd⟩ := bs_e hd
        refine cVi_ (rest := []) X (kX5_sign l Dd Y ad F32 58 r34 F35 h33) (cwV 1 X.1.2.2.2.2 gX5_readsText_X5_sign rfl rfl rfl (by decide +kernel) ⟨Nat.le_of_ble_eq_true rfl, Nat.le_of_ble_eq_true rfl⟩) hW 0 5 rfl rfl rfl rfl hl.1 rfl (Nat.le_of_ble_eq_true rfl) dX5_readsText_85 ⟨Nat.zero_le _, Nat.zero_le _⟩ (fun H locs hW => ?_)
        refine lv_if_eq (tgt := 107) hx hb dX5_readsText_88 (by decide) (fun c36 => ?_) (fun c36 => ?_)
        · replace hd := if_t c36 hd
          refine lv_iconst (v := 0) hx hb dX5_readsText_107 (by decide) ?_
          obtain ⟨rfl, rfl⟩ := Prod.mk.inj (Option.some.inj hd)
          exact hQ _ _ _ _ (nz_b (Or.inl rfl)) hW dX5_readsText_108
        · replace hd := if_f c36 hd
          refine lv_aload_n hx hb dX5_readsText_91 rfl (lv_at hl 0 rfl) ?_
          obtain ⟨r38, F39, h37, hd⟩ := bs_e hd
          refine cVi_ (rest := []) X (kX5_readsValues l Dd Y ad F35 r38 F39 h37) (cwV 0 X.1.2.2.2.2 gX5_readsText_X5_readsValues rfl rfl rfl (by decide +kernel) ⟨Nat.le_of_ble_eq_true rfl, Nat.le_of_ble_eq_true rfl⟩) hW 0 5 rfl rfl rfl rfl hl.1 rfl (Nat.le_of_ble_eq_true rfl) dX5_readsText_92 ⟨Nat.zero_le _, Nat.zero_le _⟩ (fun H locs hW => ?_)
          refine lv_if_eq (tgt := 107) hx hb dX5_readsText_95 (by decide) (fun c40 => ?_) (fun c40 => ?_)
          · replace hd := if_t c40 hd
            refine lv_iconst (v := 0) hx hb dX5_readsText_107 (by decide) ?_
            obtain ⟨rfl, rfl⟩ := Prod.mk.inj (Option.some.inj hd)
            exact hQ _ _ _ _ (nz_b (Or.inl rfl)) hW dX5_readsText_108
          · replace hd := if_f c40 hd
            refine lv_aload_n hx hb dX5_readsText_98 rfl (lv_at hl 0 rfl) ?_
            refine lv_bipush (v := 59) hx hb dX5_readsText_99 (by decide) ?_
            obtain ⟨r42, F43, h41, hd⟩ := bs_e hd
            refine cVi_ (rest := []) X (kX5_sign l Dd Y ad F39 59 r42 F43 h41) (cwV 1 X.1.2.2.2.2 gX5_readsText_X5_sign rfl rfl rfl (by decide +kernel) ⟨Nat.le_of_ble_eq_true rfl, Nat.le_of_ble_eq_true rfl⟩) hW 0 5 rfl rfl rfl rfl hl.1 rfl (Nat.le_of_ble_eq_true rfl) dX5_readsText_101 ⟨Nat.zero_le _, Nat.zero_le _⟩ (fun H locs hW => ?_)
            refine lv_if_ne (tgt := 109) hx hb dX5_readsText_104 (by decide) (fun c44 => ?_) (fun c44 => ?_)
            · replace hd := if_f c44 hd
              refine lv_aload_n hx hb dX5_readsText_109 rfl (lv_at hl 0 rfl) ?_
              obtain ⟨F46, h45, hd⟩ := bp_e hd
              refine cVv_ (rest := []) X (kX5_builds l Dd Y ad F43 F46 h45) (cwV 0 X.1.2.2.2.2 gX5_readsText_X5_builds rfl rfl rfl (by decide +kernel) ⟨Nat.le_of_ble_eq_true rfl, Nat.le_of_ble_eq_true rfl⟩) hW 0 5 rfl rfl rfl rfl hl.1 rfl (Nat.le_of_ble_eq_true rfl) dX5_readsText_110 ⟨Nat.zero_le _, Nat.zero_le _⟩ (fun H locs hW => ?_)
              obtain ⟨z113_46, hz113_46, hd⟩ := bp_e hd
              refine K113 FU F46 z113_46 hz113_46 _ _ _ hW (lv_sub hl [0] rfl) (fun H locs ls e113 hW hl => ?_) (fun H locs ls e113 hW hl => ?_)
              · replace hd := if_t e113 hd
                refine lv_iconst (v := 0) hx hb dX5_readsText_137 (by decide) ?_
                obtain ⟨rfl, rfl⟩ := Prod.mk.inj (Option.some.inj hd)
                exact hQ _ _ _ _ (nz_b (Or.inl rfl)) hW dX5_readsText_138
              · replace hd := if_f (by rw [e113]; decide) hd
                refine lv_iconst (v := 1) hx hb dX5_readsText_139 (by decide) ?_
                obtain ⟨rfl, rfl⟩ := Prod.mk.inj (Option.some.inj hd)
                exact hQ _ _ _ _ (nz_b (Or.inr rfl)) hW dX5_readsText_140
            · replace hd := if_t c44 hd
              refine lv_iconst (v := 0) hx hb dX5_readsText_107 (by decide) ?_
              obtain ⟨rfl, rfl⟩ := Prod.mk.inj (Option.some.inj hd)
              exact hQ _ _ _ _ (nz_b (Or.inl rfl)) hW dX5_readsText_108
      · replace hd := if_t c30 hd
        refine lv_iconst (v := 0) hx hb dX5_readsText_71 (by decide) ?_
        obtain ⟨rfl, rfl⟩ := Prod.mk.inj (Option.some.inj hd)
        exact hQ _ _ _ _ (nz_b (Or.inl rfl)) hW dX5_readsText_72
    · replace hd := if_t c24 hd
      refine lv_iconst (v := 0) hx hb dX5_readsText_50 (by decide) ?_
      obtain ⟨rfl, rfl⟩ := Prod.mk.inj (Option.some.inj hd)
      exact hQ _ _ _ _ (nz_b (Or.inl rfl)) hW dX5_readsText_51
  · replace hd := if_t c19 hd
    refine lv_aload_n hx hb dX5_readsText_9 rfl (lv_at hl 0 rfl) ?_
    refine lv_bipush (v := (-2)) hx hb dX5_readsText_10 (by decide) ?_
    refine lv_aload_n hx hb dX5_readsText_12 rfl (lv_at hl 0 rfl) ?_
    refine g_ X hinX5 hW 0 rfl rfl 9 (by decide) 1 rfl rfl rfl dX5_readsText_13 ?_
    obtain ⟨r49, F50, h48, hd⟩ := bs_e hd
    refine cVi_ (rest := []) X (kX5_fails l Dd Y ad F18 (-2) (F18 0 9) r49 F50 h48) (cwV 2 X.1.2.2.2.2 gX5_readsText_X5_fails rfl rfl rfl (by decide +kernel) ⟨Nat.le_of_ble_eq_true rfl, Nat.le_of_ble_eq_true rfl⟩) hW 0 5 rfl rfl rfl rfl hl.1 rfl (Nat.le_of_ble_eq_true rfl) dX5_readsText_16 ⟨Nat.zero_le _, Nat.zero_le _⟩ (fun H locs hW => ?_)
    obtain ⟨hz51, hd⟩ := rzs_e hd
    obtain ⟨rfl, rfl⟩ := Prod.mk.inj hd
    exact hQ _ _ _ _ (nz_b hz51) hW dX5_readsText_19
abbrev rmX5_load : Room := { frames := 9, cells := 0, slots := 0, locals := 199 }
set_option maxRecDepth 100000 in
set_option maxHeartbeats 4000000 in
theorem kX5_load (l : Launch) (Dd : va_G) (Y : yT) (ad : Nat → Nat) (F : gF) (x1 : Int32) (r : Int32) (F' : gF) (hd : dnX5_load F x1 = some (r, F')) : MG l yX5_load wsX5_load rmX5_load Dd Y [.ref (ad 0), .int x1] (WM Y ad F) (WM Y ad F') (some (.int r)) := by
  refine MGi (cc := cX5_load) (maxL := 5) (ty := .int) (by decide) rfl (Nat.le_of_ble_eq_true rfl) (fun {p e s m args below meth c A} ls Q X hW hl hQ => ?_)
  have hx := X.x
  have hb := X.b
  have hl : lv_has ls 5 [(0, .ref (ad 0)), (1, .int x1)] := hl
  have hinX5 : ∀ w ∈ wsX50, w ∈ wsX5_load := fun w h => List.mem_cons_of_mem _ (List.mem_append_right _ h)
  unfold dnX5_load at hd
  have K51 : ∀ (n : Nat) (x2 : Int32) (F : gF) (z : Nat × gF), lpX5_load_51 n x2 F = some z → ∀ (H : Heap) (locs : List Loc) (ls : Array Slot), Wd Dd A s.heap (WM Y ad F) H locs → lv_has ls 5 [(0, .ref (ad 0)), (2, .int x2)] → (∀ (H : Heap) (locs : List Loc) (ls : Array Slot), z.1 = 0 → Wd Dd A s.heap (WM Y ad z.2) H locs → lv_has ls 5 [(0, .ref (ad 0))] → W p l e rmX5_load s m args below meth c H locs 0 0 Q (F0 m 75 ls [])) → W p l e rmX5_load s m args below meth c H locs 0 0 Q (F0 m 51 ls []) := by
    intro n
    induction n with
    | zero => intro x2 F z hd; cases hd
    | succ n ih =>
      intro x2 F z hd H locs ls hW hl kx0
      unfold lpX5_load_51 at hd
      refine lv_iload_n hx hb dX5_load_51 rfl (lv_at hl 1 rfl) ?_
      refine lv_sipush (v := 310) hx hb dX5_load_52 (by decide) ?_
      refine lv_icmp_ge (tgt := 75) hx hb dX5_load_55 (by decide) (fun c1 => ?_) (fun c1 => ?_)
      · replace hd := if_t c1 hd
        cases hd
        exact kx0 _ _ _ rfl hW (lv_sub hl [0] rfl)
      · replace hd := if_f c1 hd
        refine lv_aload_n hx hb dX5_load_58 rfl (lv_at hl 0 rfl) ?_
        refine g_ X hinX5 hW 0 rfl rfl 2 (by decide) 7 rfl rfl rfl dX5_load_59 ?_
        refine lv_iload_n hx hb dX5_load_62 rfl (lv_at hl 1 rfl) ?_
        refine lv_aload_n hx hb dX5_load_63 rfl (lv_at hl 0 rfl) ?_
        refine lv_iload_n hx hb dX5_load_64 rfl (lv_at hl 1 rfl) ?_
        obtain ⟨r3, h2, hd⟩ := bp_e hd
        refine cVi_ (rest := [.int x2, .ref (ad 2)]) X (kX5_get l Dd Y ad F x2 r3 h2) (cwV 1 X.1.2.2.2.2 gX5_load_X5_get rfl rfl rfl (by decide +kernel) ⟨Nat.le_of_ble_eq_true rfl, Nat.le_of_ble_eq_true rfl⟩) hW 0 5 rfl rfl rfl rfl hl.1 rfl (Nat.le_of_ble_eq_true rfl) dX5_load_65 ⟨Nat.zero_le _, Nat.zero_le _⟩ (fun H locs hW => ?_)
        obtain ⟨hi4, hd⟩ := wi_e hd
        obtain ⟨F5, eF5, hd⟩ := bw_e hd
        refine s_ X hW 2 rfl rfl hi4 dX5_load_68 (ws' := (WM Y ad F5)) (by rw [eF5]; rfl) (fun H locs hW => ?_)
        refine lv_iinc (v := x2 + 1) (lv' := [(2, .int (x2 + 1)), (0, .ref (ad 0))]) hx hb dX5_load_69 hl (k := 1) rfl rfl (by decide) rfl (fun ls hl => ?_)
        refine lv_goto (tgt := 51) hx hb dX5_load_72 (by decide) ?_
        exact ih (x2 + 1) F5 z hd _ _ _ hW (lv_sub hl [1, 0] rfl) kx0
  have K93 : ∀ (x2 : Int32) (x3 : Int32) (n : Nat) (x4 : Int32) (F : gF) (z : Nat × gF), lpX5_load_93 x2 x3 n x4 F = some z → ∀ (H : Heap) (locs : List Loc) (ls : Array Slot), Wd Dd A s.heap (WM Y ad F) H locs → lv_has ls 5 [(0, .ref (ad 0)), (2, .int x2), (3, .int x3), (4, .int x4)] → (∀ (H : Heap) (locs : List Loc) (ls : Array Slot), z.1 = 0 → Wd Dd A s.heap (WM Y ad z.2) H locs → lv_has ls 5 [(0, .ref (ad 0)), (2, .int x2), (3, .int x3)] → W p l e rmX5_load s m args below meth c H locs 0 0 Q (F0 m 143 ls [])) → W p l e rmX5_load s m args below meth c H locs 0 0 Q (F0 m 93 ls []) := by
    intro x2 x3 n
    induction n with
    | zero => intro x4 F z hd; cases hd
    | succ n ih =>
      intro x4 F z hd H locs ls hW hl kx0
      unfold lpX5_load_93 at hd
      refine lv_iload hx hb dX5_load_93 (lv_at hl 3 rfl) ?_
      refine lv_sipush (v := 310) hx hb dX5_load_95 (by decide) ?_
      refine lv_icmp_ge (tgt := 143) hx hb dX5_load_98 (by decide) (fun c7 => ?_) (fun c7 => ?_)
      · replace hd := if_t c7 hd
        cases hd
        exact kx0 _ _ _ rfl hW (lv_sub hl [0, 1, 2] rfl)
      · replace hd := if_f c7 hd
        refine lv_iload_n hx hb dX5_load_101 rfl (lv_at hl 1 rfl) ?_
        refine lv_if_eq (tgt := 124) hx hb dX5_load_102 (by decide) (fun c8 => ?_) (fun c8 => ?_)
        · replace hd := if_t c8 hd
          refine lv_aload_n hx hb dX5_load_124 rfl (lv_at hl 0 rfl) ?_
          refine lv_iload hx hb dX5_load_125 (lv_at hl 3 rfl) ?_
          refine lv_aload_n hx hb dX5_load_127 rfl (lv_at hl 0 rfl) ?_
          refine g_ X hinX5 hW 0 rfl rfl 2 (by decide) 7 rfl rfl rfl dX5_load_128 ?_
          refine lv_iload hx hb dX5_load_131 (lv_at hl 3 rfl) ?_
          obtain ⟨hi9, hd⟩ := ra_e hd
          refine a_ X hW 2 rfl rfl hi9 dX5_load_133 ?_
          generalize (F 2) x4.toNatClampNeg = v10 at hd ⊢
          obtain ⟨F12, h11, hd⟩ := bp_e hd
          refine cVv_ (rest := []) X (kX5_put0 l Dd Y ad F x4 v10 F12 h11) (cwV 2 X.1.2.2.2.2 gX5_load_X5_put0 rfl rfl rfl (by decide +kernel) ⟨Nat.le_of_ble_eq_true rfl, Nat.le_of_ble_eq_true rfl⟩) hW 0 5 rfl rfl rfl rfl hl.1 rfl (Nat.le_of_ble_eq_true rfl) dX5_load_134 ⟨Nat.zero_le _, Nat.zero_le _⟩ (fun H locs hW => ?_)
          refine lv_iinc (v := x4 + 1) (lv' := [(4, .int (x4 + 1)), (0, .ref (ad 0)), (2, .int x2), (3, .int x3)]) hx hb dX5_load_137 hl (k := 3) rfl rfl (by decide) rfl (fun ls hl => ?_)
          refine lv_goto (tgt := 93) hx hb dX5_load_140 (by decide) ?_
          exact ih (x4 + 1) F12 z hd _ _ _ hW (lv_sub hl [1, 2, 3, 0] rfl) kx0
        · replace hd := if_f c8 hd
          refine lv_aload_n hx hb dX5_load_105 rfl (lv_at hl 0 rfl) ?_
          refine g_ X hinX5 hW 0 rfl rfl 1 (by decide) 9 rfl rfl rfl dX5_load_106 ?_
          refine lv_sipush (v := 310) hx hb dX5_load_109 (by decide) ?_
          refine lv_iload_n hx hb dX5_load_112 rfl (lv_at hl 2 rfl) ?_
          refine lv_imul hx hb dX5_load_113 ?_
          refine lv_iload hx hb dX5_load_114 (lv_at hl 3 rfl) ?_
          refine lv_iadd hx hb dX5_load_116 ?_
          refine lv_aload_n hx hb dX5_load_117 rfl (lv_at hl 0 rfl) ?_
          refine lv_iload hx hb dX5_load_118 (lv_at hl 3 rfl) ?_
          obtain ⟨r14, h13, hd⟩ := bp_e hd
          refine cVi_ (rest := [.int ((310 * x3) + x4), .ref (ad 1)]) X (kX5_get l Dd Y ad F x4 r14 h13) (cwV 1 X.1.2.2.2.2 gX5_load_X5_get rfl rfl rfl (by decide +kernel) ⟨Nat.le_of_ble_eq_true rfl, Nat.le_of_ble_eq_true rfl⟩) hW 0 5 rfl rfl rfl rfl hl.1 rfl (Nat.le_of_ble_eq_true rfl) dX5_load_120 ⟨Nat.zero_le _, Nat.zero_le _⟩ (fun H locs hW => ?_)
          obtain ⟨hi15, hd⟩ := wi_e hd
          obtain ⟨F16, eF16, hd⟩ := bw_e hd
          refine s_ X hW 1 rfl rfl hi15 dX5_load_123 (ws' := (WM Y ad F16)) (by rw [eF16]; rfl) (fun H locs hW => ?_)
          refine lv_aload_n hx hb dX5_load_124 rfl (lv_at hl 0 rfl) ?_
          refine lv_iload hx hb dX5_load_125 (lv_at hl 3 rfl) ?_
          refine lv_aload_n hx hb dX5_load_127 rfl (lv_at hl 0 rfl) ?_
          refine g_ X hinX5 hW 0 rfl rfl 2 (by decide) 7 rfl rfl rfl dX5_load_128 ?_
          refine lv_iload hx hb dX5_load_131 (lv_at hl 3 rfl) ?_
          obtain ⟨hi18, hd⟩ := ra_e hd
          refine a_ X hW 2 rfl rfl hi18 dX5_load_133 ?_
          generalize (F16 2) x4.toNatClampNeg = v19 at hd ⊢
          obtain ⟨F21, h20, hd⟩ := bp_e hd
          refine cVv_ (rest := []) X (kX5_put0 l Dd Y ad F16 x4 v19 F21 h20) (cwV 2 X.1.2.2.2.2 gX5_load_X5_put0 rfl rfl rfl (by decide +kernel) ⟨Nat.le_of_ble_eq_true rfl, Nat.le_of_ble_eq_true rfl⟩) hW 0 5 rfl rfl rfl rfl hl.1 rfl (Nat.le_of_ble_eq_true rfl) dX5_load_134 ⟨Nat.zero_le _, Nat.zero_le _⟩ (fun H locs hW => ?_)
          refine lv_iinc (v := x4 + 1) (lv' := [(4, .int (x4 + 1)), (0, .ref (ad 0)), (2, .int x2), (3, .int x3)]) hx hb dX5_load_137 hl (k := 3) rfl rfl (by decide) rfl (fun ls hl => ?_)
          refine lv_goto (tgt := 93) hx hb dX5_load_140 (by decide) ?_
          exact ih (x4 + 1) F21 z hd _ _ _ hW (lv_sub hl [1, 2, 3, 0] rfl) kx0
  refine lv_aload_n hx hb dX5_load_0 rfl (lv_at hl 0 rfl) ?_
  refine lv_iconst (v := 0) hx hb dX5_load_1 (by decide) ?_
  obtain ⟨F22, eF22, hd⟩ := bw_e hd
  refine p_ (ty := .int) X hinX5 tyX5 tyX5_ok nmX5 hW 0 rfl rfl 0 (by decide) 1 rfl rfl rfl (by decide +kernel) rfl rfl (Nat.le_of_ble_eq_true rfl) dX5_load_2 (ws' := (WM Y ad F22)) (by rw [eF22]; rfl) (fun H locs hW => ?_)
  refine lv_aload_n hx hb dX5_load_5 rfl (lv_at hl 0 rfl) ?_
  refine lv_iload_n hx hb dX5_load_6 rfl (lv_at hl 1 rfl) ?_
  refine lv_iconst (v := 0) hx hb dX5_load_7 (by decide) ?_
  refine lv_aload_n hx hb dX5_load_8 rfl (lv_at hl 0 rfl) ?_
  refine g_ X hinX5 hW 0 rfl rfl 7 (by decide) 2 rfl rfl rfl dX5_load_9 ?_
  obtain ⟨r24, h23, hd⟩ := bp_e hd
  refine cSi_ (rest := [.ref (ad 0)]) X (kX5_isIn l Dd Y x1 0 (F22 0 7) r24 h23) (va_cwS 3 X.1.2.2.2.2 gX5_load_X5_isIn rfl rfl rfl (by decide +kernel) ⟨Nat.le_of_ble_eq_true rfl, Nat.le_of_ble_eq_true rfl⟩) hW rfl hl.1 rfl (Nat.le_of_ble_eq_true rfl) dX5_load_12 ⟨Nat.zero_le _, Nat.zero_le _⟩ (fun H locs hW => ?_)
  refine lv_iconst (v := 1) hx hb dX5_load_15 (by decide) ?_
  obtain ⟨r26, F27, h25, hd⟩ := bs_e hd
  refine cVi_ (rest := []) X (kX5_right l Dd Y ad F22 r24 1 r26 F27 h25) (cwV 2 X.1.2.2.2.2 gX5_load_X5_right rfl rfl rfl (by decide +kernel) ⟨Nat.le_of_ble_eq_true rfl, Nat.le_of_ble_eq_true rfl⟩) hW 0 5 rfl rfl rfl rfl hl.1 rfl (Nat.le_of_ble_eq_true rfl) dX5_load_16 ⟨Nat.zero_le _, Nat.zero_le _⟩ (fun H locs hW => ?_)
  refine lv_if_ne (tgt := 24) hx hb dX5_load_19 (by decide) (fun c28 => ?_) (fun c28 => ?_)
  · replace hd := if_f c28 hd
    refine lv_aload_n hx hb dX5_load_24 rfl (lv_at hl 0 rfl) ?_
    refine lv_iload_n hx hb dX5_load_25 rfl (lv_at hl 1 rfl) ?_
    obtain ⟨F29, eF29, hd⟩ := bw_e hd
    refine p_ (ty := .int) X hinX5 tyX5 tyX5_ok nmX5 hW 0 rfl rfl 8 (by decide) 3 rfl rfl rfl (by decide +kernel) rfl rfl (Nat.le_of_ble_eq_true rfl) dX5_load_26 (ws' := (WM Y ad F29)) (by rw [eF29]; rfl) (fun H locs hW => ?_)
    refine lv_aload_n hx hb dX5_load_29 rfl (lv_at hl 0 rfl) ?_
    refine lv_iconst (v := 0) hx hb dX5_load_30 (by decide) ?_
    obtain ⟨F30, eF30, hd⟩ := bw_e hd
    refine p_ (ty := .int) X hinX5 tyX5 tyX5_ok nmX5 hW 0 rfl rfl 9 (by decide) 4 rfl rfl rfl (by decide +kernel) rfl rfl (Nat.le_of_ble_eq_true rfl) dX5_load_31 (ws' := (WM Y ad F30)) (by rw [eF30]; rfl) (fun H locs hW => ?_)
    refine lv_aload_n hx hb dX5_load_34 rfl (lv_at hl 0 rfl) ?_
    refine lv_iconst (v := 0) hx hb dX5_load_35 (by decide) ?_
    obtain ⟨F31, eF31, hd⟩ := bw_e hd
    refine p_ (ty := .int) X hinX5 tyX5 tyX5_ok nmX5 hW 0 rfl rfl 7 (by decide) 2 rfl rfl rfl (by decide +kernel) rfl rfl (Nat.le_of_ble_eq_true rfl) dX5_load_36 (ws' := (WM Y ad F31)) (by rw [eF31]; rfl) (fun H locs hW => ?_)
    refine lv_aload_n hx hb dX5_load_39 rfl (lv_at hl 0 rfl) ?_
    refine lv_iconst (v := 0) hx hb dX5_load_40 (by decide) ?_
    obtain ⟨F32, eF32, hd⟩ := bw_e hd
    refine p_ (ty := .int) X hinX5 tyX5 tyX5_ok nmX5 hW 0 rfl rfl 10 (by decide) 5 rfl rfl rfl (by decide +kernel) rfl rfl (Nat.le_of_ble_eq_true rfl) dX5_load_41 (ws' := (WM Y ad F32)) (by rw [eF32]; rfl) (fun H locs hW => ?_)
    refine lv_aload_n hx hb dX5_load_44 rfl (lv_at hl 0 rfl) ?_
    refine lv_iconst (v := (-1)) hx hb dX5_load_45 (by decide) ?_
    obtain ⟨F33, eF33, hd⟩ := bw_e hd
    refine p_ (ty := .int) X hinX5 tyX5 tyX5_ok nmX5 hW 0 rfl rfl 11 (by decide) 6 rfl rfl rfl (by decide +kernel) rfl rfl (Nat.le_of_ble_eq_true rfl) dX5_load_46 (ws' := (WM Y ad F33)) (by rw [eF33]; rfl) (fun H locs hW => ?_)
    refine lv_iconst (v := 0) hx hb dX5_load_49 (by decide) ?_
    refine lv_istore_n (lv' := [(2, .int 0), (0, .ref (ad 0)), (1, .int x1)]) hx hb dX5_load_50 rfl hl (by decide) rfl (fun ls hl => ?_)
    obtain ⟨z51_33, hz51_33, hd⟩ := bp_e hd
    refine K51 FU 0 F33 z51_33 hz51_33 _ _ _ hW (lv_sub hl [1, 0] rfl) (fun H locs ls e51 hW hl => ?_)
    refine lv_aload_n hx hb dX5_load_75 rfl (lv_at hl 0 rfl) ?_
    obtain ⟨r36, F37, h35, hd⟩ := bs_e hd
    refine cVi_ (rest := []) X (kX5_readsText l Dd Y ad z51_33.2 r36 F37 h35) (cwV 0 X.1.2.2.2.2 gX5_load_X5_readsText rfl rfl rfl (by decide +kernel) ⟨Nat.le_of_ble_eq_true rfl, Nat.le_of_ble_eq_true rfl⟩) hW 0 5 rfl rfl rfl rfl hl.1 rfl (Nat.le_of_ble_eq_true rfl) dX5_load_76 ⟨Nat.zero_le _, Nat.zero_le _⟩ (fun H locs hW => ?_)
    refine lv_istore_n (lv' := [(2, .int r36), (0, .ref (ad 0))]) hx hb dX5_load_79 rfl hl (by decide) rfl (fun ls hl => ?_)
    refine lv_aload_n hx hb dX5_load_80 rfl (lv_at hl 1 rfl) ?_
    refine g_ X hinX5 hW 0 rfl rfl 4 (by decide) 8 rfl rfl rfl dX5_load_81 ?_
    refine lv_iconst (v := 1) hx hb dX5_load_84 (by decide) ?_
    refine lv_iadd hx hb dX5_load_85 ?_
    refine lv_bipush (v := 9) hx hb dX5_load_86 (by decide) ?_
    refine lv_irem hx hb dX5_load_88 (by decide) ?_
    refine lv_istore_n (lv' := [(3, .int (((F37 0 4) + 1) - ((F37 0 4) + 1) / 9 * 9)), (2, .int r36), (0, .ref (ad 0))]) hx hb dX5_load_89 rfl hl (by decide) rfl (fun ls hl => ?_)
    refine lv_iconst (v := 0) hx hb dX5_load_90 (by decide) ?_
    refine lv_istore (lv' := [(4, .int 0), (3, .int (((F37 0 4) + 1) - ((F37 0 4) + 1) / 9 * 9)), (2, .int r36), (0, .ref (ad 0))]) hx hb dX5_load_91 hl (by decide) rfl (fun ls hl => ?_)
    obtain ⟨z93_37, hz93_37, hd⟩ := bp_e hd
    refine K93 r36 (((F37 0 4) + 1) - ((F37 0 4) + 1) / 9 * 9) FU 0 F37 z93_37 hz93_37 _ _ _ hW (lv_sub hl [3, 2, 1, 0] rfl) (fun H locs ls e93 hW hl => ?_)
    refine lv_iload_n hx hb dX5_load_143 rfl (lv_at hl 1 rfl) ?_
    refine lv_if_ne (tgt := 152) hx hb dX5_load_144 (by decide) (fun c39 => ?_) (fun c39 => ?_)
    · replace hd := if_f c39 hd
      refine lv_aload_n hx hb dX5_load_152 rfl (lv_at hl 0 rfl) ?_
      refine lv_iload_n hx hb dX5_load_153 rfl (lv_at hl 2 rfl) ?_
      obtain ⟨F40, eF40, hd⟩ := bw_e hd
      refine p_ (ty := .int) X hinX5 tyX5 tyX5_ok nmX5 hW 0 rfl rfl 4 (by decide) 8 rfl rfl rfl (by decide +kernel) rfl rfl (Nat.le_of_ble_eq_true rfl) dX5_load_154 (ws' := (WM Y ad F40)) (by rw [eF40]; rfl) (fun H locs hW => ?_)
      refine lv_aload_n hx hb dX5_load_157 rfl (lv_at hl 0 rfl) ?_
      refine lv_aload_n hx hb dX5_load_158 rfl (lv_at hl 0 rfl) ?_
      refine g_ X hinX5 hW 0 rfl rfl 5 (by decide) 10 rfl rfl rfl dX5_load_159 ?_
      refine lv_bipush (v := 8) hx hb dX5_load_162 (by decide) ?_
      refine lv_icmp_ge (tgt := 176) hx hb dX5_load_164 (by decide) (fun c41 => ?_) (fun c41 => ?_)
      · replace hd := if_t c41 hd
        refine lv_aload_n hx hb dX5_load_176 rfl (lv_at hl 0 rfl) ?_
        refine g_ X hinX5 hW 0 rfl rfl 5 (by decide) 10 rfl rfl rfl dX5_load_177 ?_
        obtain ⟨F42, eF42, hd⟩ := bw_e hd
        refine p_ (ty := .int) X hinX5 tyX5 tyX5_ok nmX5 hW 0 rfl rfl 5 (by decide) 10 rfl rfl rfl (by decide +kernel) rfl rfl (Nat.le_of_ble_eq_true rfl) dX5_load_180 (ws' := (WM Y ad F42)) (by rw [eF42]; rfl) (fun H locs hW => ?_)
        refine lv_aload_n hx hb dX5_load_183 rfl (lv_at hl 0 rfl) ?_
        obtain ⟨r44, h43, hd⟩ := bp_e hd
        refine cVi_ (rest := []) X (kX5_size l Dd Y ad F42 r44 h43) (cwV 0 X.1.2.2.2.2 gX5_load_X5_size rfl rfl rfl (by decide +kernel) ⟨Nat.le_of_ble_eq_true rfl, Nat.le_of_ble_eq_true rfl⟩) hW 0 5 rfl rfl rfl rfl hl.1 rfl (Nat.le_of_ble_eq_true rfl) dX5_load_184 ⟨Nat.zero_le _, Nat.zero_le _⟩ (fun H locs hW => ?_)
        obtain ⟨rfl, rfl⟩ := Prod.mk.inj (Option.some.inj hd)
        exact hQ _ _ _ _ rfl hW dX5_load_187
      · replace hd := if_f c41 hd
        refine lv_aload_n hx hb dX5_load_167 rfl (lv_at hl 0 rfl) ?_
        refine g_ X hinX5 hW 0 rfl rfl 5 (by decide) 10 rfl rfl rfl dX5_load_168 ?_
        refine lv_iconst (v := 1) hx hb dX5_load_171 (by decide) ?_
        refine lv_iadd hx hb dX5_load_172 ?_
        refine lv_goto (tgt := 180) hx hb dX5_load_173 (by decide) ?_
        obtain ⟨F45, eF45, hd⟩ := bw_e hd
        refine p_ (ty := .int) X hinX5 tyX5 tyX5_ok nmX5 hW 0 rfl rfl 5 (by decide) 10 rfl rfl rfl (by decide +kernel) rfl rfl (Nat.le_of_ble_eq_true rfl) dX5_load_180 (ws' := (WM Y ad F45)) (by rw [eF45]; rfl) (fun H locs hW => ?_)
        refine lv_aload_n hx hb dX5_load_183 rfl (lv_at hl 0 rfl) ?_
        obtain ⟨r47, h46, hd⟩ := bp_e hd
        refine cVi_ (rest := []) X (kX5_size l Dd Y ad F45 r47 h46) (cwV 0 X.1.2.2.2.2 gX5_load_X5_size rfl rfl rfl (by decide +kernel) ⟨Nat.le_of_ble_eq_true rfl, Nat.le_of_ble_eq_true rfl⟩) hW 0 5 rfl rfl rfl rfl hl.1 rfl (Nat.le_of_ble_eq_true rfl) dX5_load_184 ⟨Nat.zero_le _, Nat.zero_le _⟩ (fun H locs hW => ?_)
        obtain ⟨rfl, rfl⟩ := Prod.mk.inj (Option.some.inj hd)
        exact hQ _ _ _ _ rfl hW dX5_load_187
    · replace hd := if_t c39 hd
      refine lv_aload_n hx hb dX5_load_147 rfl (lv_at hl 0 rfl) ?_
      refine g_ X hinX5 hW 0 rfl rfl 10 (by decide) 5 rfl rfl rfl dX5_load_148 ?_
      obtain ⟨rfl, rfl⟩ := Prod.mk.inj (Option.some.inj hd)
      exact hQ _ _ _ _ rfl hW dX5_load_151
  · replace hd := if_t c28 hd
    refine lv_iconst (v := 0) hx hb dX5_load_22 (by decide) ?_
    obtain ⟨rfl, rfl⟩ := Prod.mk.inj (Option.some.inj hd)
    exact hQ _ _ _ _ rfl hW dX5_load_23
abbrev rmX5_levels : Room := { frames := 3, cells := 0, slots := 0, locals := 62 }
set_option maxRecDepth 100000 in
set_option maxHeartbeats 4000000 in
theorem kX5_levels (l : Launch) (Dd : va_G) (Y : yT) (ad : Nat → Nat) (F : gF) (r : Int32) (hd : dnX5_levels F = some r) : MG l yX5_levels wsX5_levels rmX5_levels Dd Y [.ref (ad 0)] (WM Y ad F) (WM Y ad F) (some (.int r)) := by
  refine MGi (cc := cX5_levels) (maxL := 2) (ty := .int) (by decide) rfl (Nat.le_of_ble_eq_true rfl) (fun {p e s m args below meth c A} ls Q X hW hl hQ => ?_)
  have hx := X.x
  have hb := X.b
  have hl : lv_has ls 2 [(0, .ref (ad 0))] := hl
  unfold dnX5_levels at hd
  have K2 : ∀ (F : gF) (n : Nat) (x1 : Int32) (z : Nat × Int32), lpX5_levels_2 F n x1 = some z → ∀ (H : Heap) (locs : List Loc) (ls : Array Slot), Wd Dd A s.heap (WM Y ad F) H locs → lv_has ls 2 [(0, .ref (ad 0)), (1, .int x1)] → (∀ (H : Heap) (locs : List Loc) (ls : Array Slot), z.1 = 0 → Wd Dd A s.heap (WM Y ad F) H locs → lv_has ls 2 [(1, .int z.2)] → W p l e rmX5_levels s m args below meth c H locs 0 0 Q (F0 m 21 ls [])) → W p l e rmX5_levels s m args below meth c H locs 0 0 Q (F0 m 2 ls []) := by
    intro F n
    induction n with
    | zero => intro x1 z hd; cases hd
    | succ n ih =>
      intro x1 z hd H locs ls hW hl kx0
      unfold lpX5_levels_2 at hd
      refine lv_iload_n hx hb dX5_levels_2 rfl (lv_at hl 1 rfl) ?_
      refine lv_iconst (v := 5) hx hb dX5_levels_3 (by decide) ?_
      refine lv_icmp_gt (tgt := 21) hx hb dX5_levels_4 (by decide) (fun c1 => ?_) (fun c1 => ?_)
      · replace hd := if_t c1 hd
        cases hd
        exact kx0 _ _ _ rfl hW (lv_sub hl [1] rfl)
      · replace hd := if_f c1 hd
        refine lv_aload_n hx hb dX5_levels_7 rfl (lv_at hl 0 rfl) ?_
        refine lv_iload_n hx hb dX5_levels_8 rfl (lv_at hl 1 rfl) ?_
        obtain ⟨r3, h2, hd⟩ := bp_e hd
        refine cVi_ (rest := []) X (kX5_cellsOn l Dd Y ad F x1 r3 h2) (cwV 1 X.1.2.2.2.2 gX5_levels_X5_cellsOn rfl rfl rfl (by decide +kernel) ⟨Nat.le_of_ble_eq_true rfl, Nat.le_of_ble_eq_true rfl⟩) hW 0 5 rfl rfl rfl rfl hl.1 rfl (Nat.le_of_ble_eq_true rfl) dX5_levels_9 ⟨Nat.zero_le _, Nat.zero_le _⟩ (fun H locs hW => ?_)
        refine lv_if_le (tgt := 21) hx hb dX5_levels_12 (by decide) (fun c4 => ?_) (fun c4 => ?_)
        · replace hd := if_t c4 hd
          cases hd
          exact kx0 _ _ _ rfl hW (lv_sub hl [1] rfl)
        · replace hd := if_f c4 hd
          refine lv_iinc (v := x1 + 1) (lv' := [(1, .int (x1 + 1)), (0, .ref (ad 0))]) hx hb dX5_levels_15 hl (k := 1) rfl rfl (by decide) rfl (fun ls hl => ?_)
          refine lv_goto (tgt := 2) hx hb dX5_levels_18 (by decide) ?_
          exact ih (x1 + 1) z hd _ _ _ hW (lv_sub hl [1, 0] rfl) kx0
  refine lv_iconst (v := 1) hx hb dX5_levels_0 (by decide) ?_
  refine lv_istore_n (lv' := [(1, .int 1), (0, .ref (ad 0))]) hx hb dX5_levels_1 rfl hl (by decide) rfl (fun ls hl => ?_)
  obtain ⟨z2_4, hz2_4, hd⟩ := bp_e hd
  refine K2 F FU 1 z2_4 hz2_4 _ _ _ hW (lv_sub hl [1, 0] rfl) (fun H locs ls e2 hW hl => ?_)
  refine lv_iload_n hx hb dX5_levels_21 rfl (lv_at hl 0 rfl) ?_
  have hd := Option.some.inj hd
  subst hd
  exact hQ _ _ _ _ rfl hW dX5_levels_22
abbrev rmX5_toldOf : Room := { frames := 4, cells := 0, slots := 0, locals := 84 }
set_option maxRecDepth 100000 in
set_option maxHeartbeats 4000000 in
theorem kX5_toldOf (l : Launch) (Dd : va_G) (Y : yT) (ad : Nat → Nat) (F : gF) (x1 : Int32) (r : Int32) (hd : dnX5_toldOf F x1 = some r) : MG l yX5_toldOf wsX5_toldOf rmX5_toldOf Dd Y [.ref (ad 0), .int x1] (WM Y ad F) (WM Y ad F) (some (.int r)) := by
  refine MGi (cc := cX5_toldOf) (maxL := 2) (ty := .int) (by decide) rfl (Nat.le_of_ble_eq_true rfl) (fun {p e s m args below meth c A} ls Q X hW hl hQ => ?_)
  have hx := X.x
  have hb := X.b
  have hl : lv_has ls 2 [(0, .ref (ad 0)), (1, .int x1)] := hl
  unfold dnX5_toldOf at hd
  refine lv_iload_n hx hb dX5_toldOf_0 rfl (lv_at hl 1 rfl) ?_
  by_cases t1 : x1 = 3
  · replace hd := if_t t1 hd
    refine lv_tableIn (off := 27) (tgt := 28) hx hb dX5_toldOf_1 (by rw [t1]; decide) (by rw [t1]; decide) (by rw [t1]; rfl) (by decide) ?_
    refine lv_aload_n hx hb dX5_toldOf_28 rfl (lv_at hl 0 rfl) ?_
    obtain ⟨r3, h2, hd⟩ := bp_e hd
    refine cVi_ (rest := []) X (kX5_levels l Dd Y ad F r3 h2) (cwV 0 X.1.2.2.2.2 gX5_toldOf_X5_levels rfl rfl rfl (by decide +kernel) ⟨Nat.le_of_ble_eq_true rfl, Nat.le_of_ble_eq_true rfl⟩) hW 0 5 rfl rfl rfl rfl hl.1 rfl (Nat.le_of_ble_eq_true rfl) dX5_toldOf_29 ⟨Nat.zero_le _, Nat.zero_le _⟩ (fun H locs hW => ?_)
    have hd := Option.some.inj hd
    subst hd
    exact hQ _ _ _ _ rfl hW dX5_toldOf_32
  replace hd := if_f t1 hd
  have ot1 : ¬ x1.toInt = 3 := fun h => t1 (Int32.toInt_inj.mp (h.trans (by decide)))
  by_cases t4 : x1 = 4
  · replace hd := if_t t4 hd
    refine lv_tableIn (off := 32) (tgt := 33) hx hb dX5_toldOf_1 (by rw [t4]; decide) (by rw [t4]; decide) (by rw [t4]; rfl) (by decide) ?_
    refine lv_aload_n hx hb dX5_toldOf_33 rfl (lv_at hl 0 rfl) ?_
    obtain ⟨r6, h5, hd⟩ := bp_e hd
    refine cVi_ (rest := []) X (kX5_allCells l Dd Y ad F r6 h5) (cwV 0 X.1.2.2.2.2 gX5_toldOf_X5_allCells rfl rfl rfl (by decide +kernel) ⟨Nat.le_of_ble_eq_true rfl, Nat.le_of_ble_eq_true rfl⟩) hW 0 5 rfl rfl rfl rfl hl.1 rfl (Nat.le_of_ble_eq_true rfl) dX5_toldOf_34 ⟨Nat.zero_le _, Nat.zero_le _⟩ (fun H locs hW => ?_)
    have hd := Option.some.inj hd
    subst hd
    exact hQ _ _ _ _ rfl hW dX5_toldOf_37
  replace hd := if_f t4 hd
  have ot4 : ¬ x1.toInt = 4 := fun h => t4 (Int32.toInt_inj.mp (h.trans (by decide)))
  by_cases t7 : x1 = 5
  · replace hd := if_t t7 hd
    refine lv_tableIn (off := 37) (tgt := 38) hx hb dX5_toldOf_1 (by rw [t7]; decide) (by rw [t7]; decide) (by rw [t7]; rfl) (by decide) ?_
    refine lv_aload_n hx hb dX5_toldOf_38 rfl (lv_at hl 0 rfl) ?_
    obtain ⟨r9, h8, hd⟩ := bp_e hd
    refine cVi_ (rest := []) X (kX5_waiting l Dd Y ad F r9 h8) (cwV 0 X.1.2.2.2.2 gX5_toldOf_X5_waiting rfl rfl rfl (by decide +kernel) ⟨Nat.le_of_ble_eq_true rfl, Nat.le_of_ble_eq_true rfl⟩) hW 0 5 rfl rfl rfl rfl hl.1 rfl (Nat.le_of_ble_eq_true rfl) dX5_toldOf_39 ⟨Nat.zero_le _, Nat.zero_le _⟩ (fun H locs hW => ?_)
    have hd := Option.some.inj hd
    subst hd
    exact hQ _ _ _ _ rfl hW dX5_toldOf_42
  replace hd := if_f t7 hd
  have ot7 : ¬ x1.toInt = 5 := fun h => t7 (Int32.toInt_inj.mp (h.trans (by decide)))
  refine lv_tableOut (tgt := 43) hx hb dX5_toldOf_1 (by omega) (by decide) ?_
  refine lv_aload_n hx hb dX5_toldOf_43 rfl (lv_at hl 0 rfl) ?_
  refine lv_iload_n hx hb dX5_toldOf_44 rfl (lv_at hl 1 rfl) ?_
  obtain ⟨r11, h10, hd⟩ := bp_e hd
  refine cVi_ (rest := []) X (kX5_get l Dd Y ad F x1 r11 h10) (cwV 1 X.1.2.2.2.2 gX5_toldOf_X5_get rfl rfl rfl (by decide +kernel) ⟨Nat.le_of_ble_eq_true rfl, Nat.le_of_ble_eq_true rfl⟩) hW 0 5 rfl rfl rfl rfl hl.1 rfl (Nat.le_of_ble_eq_true rfl) dX5_toldOf_45 ⟨Nat.zero_le _, Nat.zero_le _⟩ (fun H locs hW => ?_)
  have hd := Option.some.inj hd
  subst hd
  exact hQ _ _ _ _ rfl hW dX5_toldOf_48
abbrev rmX5_state : Room := { frames := 5, cells := 0, slots := 0, locals := 105 }
set_option maxRecDepth 100000 in
set_option maxHeartbeats 4000000 in
theorem kX5_state (l : Launch) (Dd : va_G) (Y : yT) (ad : Nat → Nat) (F : gF) (x1 : Int32) (r : Int32) (F' : gF) (hd : dnX5_state F x1 = some (r, F')) : MG l yX5_state wsX5_state rmX5_state Dd Y [.ref (ad 0), .int x1] (WM Y ad F) (WM Y ad F') (some (.int r)) := by
  refine MGi (cc := cX5_state) (maxL := 2) (ty := .int) (by decide) rfl (Nat.le_of_ble_eq_true rfl) (fun {p e s m args below meth c A} ls Q X hW hl hQ => ?_)
  have hx := X.x
  have hb := X.b
  have hl : lv_has ls 2 [(0, .ref (ad 0)), (1, .int x1)] := hl
  have hinX5 : ∀ w ∈ wsX50, w ∈ wsX5_state := fun w h => List.mem_cons_of_mem _ (List.mem_append_right _ h)
  unfold dnX5_state at hd
  refine lv_aload_n hx hb dX5_state_0 rfl (lv_at hl 0 rfl) ?_
  refine lv_iconst (v := 0) hx hb dX5_state_1 (by decide) ?_
  obtain ⟨F1, eF1, hd⟩ := bw_e hd
  refine p_ (ty := .int) X hinX5 tyX5 tyX5_ok nmX5 hW 0 rfl rfl 0 (by decide) 1 rfl rfl rfl (by decide +kernel) rfl rfl (Nat.le_of_ble_eq_true rfl) dX5_state_2 (ws' := (WM Y ad F1)) (by rw [eF1]; rfl) (fun H locs hW => ?_)
  refine lv_aload_n hx hb dX5_state_5 rfl (lv_at hl 0 rfl) ?_
  refine lv_iload_n hx hb dX5_state_6 rfl (lv_at hl 1 rfl) ?_
  refine lv_iconst (v := 0) hx hb dX5_state_7 (by decide) ?_
  refine lv_bipush (v := 10) hx hb dX5_state_8 (by decide) ?_
  obtain ⟨r3, h2, hd⟩ := bp_e hd
  refine cSi_ (rest := [.ref (ad 0)]) X (kX5_isIn l Dd Y x1 0 10 r3 h2) (va_cwS 3 X.1.2.2.2.2 gX5_state_X5_isIn rfl rfl rfl (by decide +kernel) ⟨Nat.le_of_ble_eq_true rfl, Nat.le_of_ble_eq_true rfl⟩) hW rfl hl.1 rfl (Nat.le_of_ble_eq_true rfl) dX5_state_10 ⟨Nat.zero_le _, Nat.zero_le _⟩ (fun H locs hW => ?_)
  refine lv_iconst (v := 1) hx hb dX5_state_13 (by decide) ?_
  obtain ⟨r5, F6, h4, hd⟩ := bs_e hd
  refine cVi_ (rest := []) X (kX5_right l Dd Y ad F1 r3 1 r5 F6 h4) (cwV 2 X.1.2.2.2.2 gX5_state_X5_right rfl rfl rfl (by decide +kernel) ⟨Nat.le_of_ble_eq_true rfl, Nat.le_of_ble_eq_true rfl⟩) hW 0 5 rfl rfl rfl rfl hl.1 rfl (Nat.le_of_ble_eq_true rfl) dX5_state_14 ⟨Nat.zero_le _, Nat.zero_le _⟩ (fun H locs hW => ?_)
  refine lv_if_eq (tgt := 28) hx hb dX5_state_17 (by decide) (fun c7 => ?_) (fun c7 => ?_)
  · replace hd := if_t c7 hd
    refine lv_iconst (v := 0) hx hb dX5_state_28 (by decide) ?_
    obtain ⟨rfl, rfl⟩ := Prod.mk.inj (Option.some.inj hd)
    exact hQ _ _ _ _ rfl hW dX5_state_29
  · replace hd := if_f c7 hd
    refine lv_aload_n hx hb dX5_state_20 rfl (lv_at hl 0 rfl) ?_
    refine lv_iload_n hx hb dX5_state_21 rfl (lv_at hl 1 rfl) ?_
    obtain ⟨r9, h8, hd⟩ := bp_e hd
    refine cVi_ (rest := []) X (kX5_toldOf l Dd Y ad F6 x1 r9 h8) (cwV 1 X.1.2.2.2.2 gX5_state_X5_toldOf rfl rfl rfl (by decide +kernel) ⟨Nat.le_of_ble_eq_true rfl, Nat.le_of_ble_eq_true rfl⟩) hW 0 5 rfl rfl rfl rfl hl.1 rfl (Nat.le_of_ble_eq_true rfl) dX5_state_22 ⟨Nat.zero_le _, Nat.zero_le _⟩ (fun H locs hW => ?_)
    refine lv_goto (tgt := 29) hx hb dX5_state_25 (by decide) ?_
    obtain ⟨rfl, rfl⟩ := Prod.mk.inj (Option.some.inj hd)
    exact hQ _ _ _ _ rfl hW dX5_state_29
