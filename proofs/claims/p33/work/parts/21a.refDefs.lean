def dnX5_get (F : gF) (x1 : Int32) : Option Int32 := ra 2790 (F 1) ((310 * (F 0 4)) + x1) (fun v2 => some v2)
def dnX5_put0 (F : gF) (x1 : Int32) (x2 : Int32) : Option gF := wi 2790 ((310 * (F 0 4)) + x1) (fun j3 => bw (wr F 1 j3 x2) (fun F2 => some F2))
def dnX5_adds (F : gF) (x1 : Int32) (x2 : Int32) : Option gF := bp (dnX5_get F x1) (fun r2 => bp (dnX5_put0 F x1 (r2 + x2)) (fun F4 => some F4))
def dnX5_size (F : gF) : Option Int32 := bp (dnX5_get F 0) (fun r2 => some r2)
def dnX5_cellsOn (F : gF) (x1 : Int32) : Option Int32 := bp (dnX5_size F) (fun r2 => some (if 0 < ((r2 - ((1 : Int32) <<< (x1 &&& 31))) + 1) then ((r2 - ((1 : Int32) <<< (x1 &&& 31))) + 1) else 0))
def dnX5_cellAt (x0 : Int32) (x1 : Int32) : Option Int32 := some ((92 + (40 * (x0 - 1))) + x1)
def dnX5_valueAt (F : gF) (x1 : Int32) : Option Int32 := bp (dnX5_get F (12 + x1)) (fun r2 => some r2)
def lpX5_leastIn_7 (F : gF) (x2 : Int32) : Nat → Int32 → Int32 → Option (Nat × Int32)
  | 0, _, _ => none
  | n + 1, x3, x4 => if x2 < x4 then some (0, x3) else bp (dnX5_valueAt F x4) (fun r3 => bp (dnX5_valueAt F x3) (fun r5 => if r5 ≤ r3 then lpX5_leastIn_7 F x2 n x3 (x4 + 1) else lpX5_leastIn_7 F x2 n x4 (x4 + 1)))
def dnX5_leastIn (F : gF) (x1 : Int32) (x2 : Int32) : Option Int32 := bp (lpX5_leastIn_7 F x2 FU x1 (x1 + 1)) (fun z7_6 => some z7_6.2)
def dnX5_writes0 (F : gF) (x1 : Int32) (x2 : Int32) : Option gF := bp (dnX5_cellAt x1 x2) (fun r2 => bp (dnX5_leastIn F x2 ((x2 + ((1 : Int32) <<< (x1 &&& 31))) - 1)) (fun r4 => bp (dnX5_put0 F r2 r4) (fun F6 => bp (dnX5_adds F6 8 1) (fun F8 => some F8))))
def lpX5_builds_9 (x1 : Int32) : Nat → Int32 → gF → Option (Nat × gF)
  | 0, _, _ => none
  | n + 1, x2, F => bp (dnX5_cellsOn F x1) (fun r2 => if r2 ≤ x2 then some (0, F) else bp (dnX5_writes0 F x1 x2) (fun F5 => lpX5_builds_9 x1 n (x2 + 1) F5))
def lpX5_builds_38 : Nat → Int32 → gF → Option (Nat × gF)
  | 0, _, _ => none
  | n + 1, x1, F => if 40 ≤ x1 then some (0, F) else bp (dnX5_put0 F (52 + x1) 0) (fun F8 => lpX5_builds_38 n (x1 + 1) F8)
def lpX5_builds_2 : Nat → Int32 → gF → Option (Nat × gF)
  | 0, _, _ => none
  | n + 1, x1, F => if 5 < x1 then some (0, F) else bp (lpX5_builds_9 x1 FU 0 F) (fun z9_9 => lpX5_builds_2 n (x1 + 1) z9_9.2)
def dnX5_builds (F : gF) : Option gF := bp (lpX5_builds_2 FU 1 F) (fun z2_10 => bp (lpX5_builds_38 FU 0 z2_10.2) (fun z38_11 => bp (dnX5_adds z38_11.2 10 1) (fun F14 => some F14)))
def dnX5_thrown (F : gF) : Option Int32 := some (F 0 0)
def dnX5_isIn (x0 : Int32) (x1 : Int32) (x2 : Int32) : Option Int32 := if x0 < x1 then some 0 else if x2 < x0 then some 0 else some 1
def lpX5_change_12 (x1 : Int32) : Nat → Int32 → gF → Option (Nat × gF)
  | 0, _, _ => none
  | n + 1, x2, F => if 310 ≤ x2 then some (0, F) else bp (dnX5_get F x2) (fun r3 => wi 2790 ((310 * x1) + x2) (fun j6 => bw (wr F 1 j6 r3) (fun F5 => lpX5_change_12 x1 n (x2 + 1) F5)))
def dnX5_change (F : gF) : Option gF := bp (lpX5_change_12 (((F 0 4) + 1) - ((F 0 4) + 1) / 9 * 9) FU 0 F) (fun z12_6 => bw (wr z12_6.2 0 4 (((F 0 4) + 1) - ((F 0 4) + 1) / 9 * 9)) (fun F8 => if 8 ≤ (F8 0 5) then bw (wr F8 0 5 (F8 0 5)) (fun F10 => some F10) else bw (wr F8 0 5 ((F8 0 5) + 1)) (fun F11 => some F11)))
def dnX5_right (F : gF) (x1 : Int32) (x2 : Int32) : Option (Int32 × gF) := if (F 0 0) = 0 then if x1 = 0 then bw (wr F 0 0 x2) (fun F3 => if (F3 0 0) = 0 then some (1, F3) else some (0, F3)) else some (1, F) else some (0, F)
def dnX5_isWaiting (F : gF) (x1 : Int32) : Option Int32 := bp (dnX5_get F (52 + x1)) (fun r2 => if r2 = 1 then some 1 else some 0)
def lpX5_waiting_4 (F : gF) : Nat → Int32 → Int32 → Option (Nat × Int32)
  | 0, _, _ => none
  | n + 1, x1, x2 => bp (dnX5_size F) (fun r2 => if r2 ≤ x2 then some (0, x1) else bp (dnX5_get F (52 + x2)) (fun r5 => lpX5_waiting_4 F n (x1 + r5) (x2 + 1)))
def dnX5_waiting (F : gF) : Option Int32 := bp (lpX5_waiting_4 F FU 0 0) (fun z4_5 => some z4_5.2)
def lpX5_allCells_4 (F : gF) : Nat → Int32 → Int32 → Option (Nat × Int32)
  | 0, _, _ => none
  | n + 1, x1, x2 => if 5 < x2 then some (0, x1) else bp (dnX5_cellsOn F x2) (fun r3 => lpX5_allCells_4 F n (x1 + r3) (x2 + 1))
def dnX5_allCells (F : gF) : Option Int32 := bp (lpX5_allCells_4 F FU 0 1) (fun z4_3 => some z4_3.2)
def dnX5_tellsOf (F : gF) (x1 : Int32) (x2 : Int32) (x3 : Int32) : Option Int32 := if x3 < x2 then some 0 else if (x2 + ((1 : Int32) <<< (x1 &&& 31))) ≤ x3 then some 0 else some 1
def lpX5_cellsOf_12 (F : gF) (x1 : Int32) (x3 : Int32) : Nat → Int32 → Int32 → Option (Nat × Int32)
  | 0, _, _ => none
  | n + 1, x2, x4 => bp (dnX5_cellsOn F x3) (fun r2 => if r2 ≤ x4 then some (0, x2) else bp (dnX5_tellsOf F x3 x4 x1) (fun r5 => if r5 = 0 then lpX5_cellsOf_12 F x1 x3 n (x2 + 0) (x4 + 1) else lpX5_cellsOf_12 F x1 x3 n (x2 + 1) (x4 + 1)))
def lpX5_cellsOf_4 (F : gF) (x1 : Int32) : Nat → Int32 → Int32 → Option (Nat × Int32)
  | 0, _, _ => none
  | n + 1, x2, x3 => if 5 < x3 then some (0, x2) else bp (lpX5_cellsOf_12 F x1 x3 FU x2 0) (fun z12_7 => lpX5_cellsOf_4 F x1 n z12_7.2 (x3 + 1))
def dnX5_cellsOf (F : gF) (x1 : Int32) : Option Int32 := bp (lpX5_cellsOf_4 F x1 FU 0 1) (fun z4_8 => some z4_8.2)
def lpX5_sets_36 (x1 : Int32) (x3 : Int32) (x4 : Int32) : Nat → Int32 → gF → Option (Nat × gF)
  | 0, _, _ => none
  | n + 1, x5, F => bp (dnX5_cellsOn F x4) (fun r2 => if r2 ≤ x5 then some (0, F) else bp (dnX5_tellsOf F x4 x5 x1) (fun r5 => if r5 = 0 then lpX5_sets_36 x1 x3 x4 n (x5 + 1) F else bp (dnX5_writes0 F x4 x5) (fun F8 => lpX5_sets_36 x1 x3 x4 n (x5 + 1) F8)))
def lpX5_sets_27 (x1 : Int32) (x3 : Int32) : Nat → Int32 → gF → Option (Nat × gF)
  | 0, _, _ => none
  | n + 1, x4, F => if 5 < x4 then some (0, F) else bp (lpX5_sets_36 x1 x3 x4 FU 0 F) (fun z36_9 => lpX5_sets_27 x1 x3 n (x4 + 1) z36_9.2)
def dnX5_sets (F : gF) (x1 : Int32) (x2 : Int32) : Option (Int32 × gF) := bp (dnX5_valueAt F x1) (fun r12 => bp (dnX5_put0 F (12 + x1) x2) (fun F14 => bp (dnX5_get F14 1) (fun r16 => if r16 = 1 then bp (lpX5_sets_27 x1 r12 FU 1 F14) (fun z27_29 => some (r12, z27_29.2)) else bp (dnX5_put0 F14 (52 + x1) 1) (fun F19 => bp (dnX5_get F19 1) (fun r21 => if r21 = 2 then bp (dnX5_waiting F19) (fun r24 => bp (dnX5_get F19 2) (fun r26 => if r24 ≤ r26 then some (r12, F19) else bp (dnX5_builds F19) (fun F29 => some (r12, F29)))) else some (r12, F19))))))
def lpX5_levelOf_2 (F : gF) (x1 : Int32) : Nat → Int32 → Option (Nat × Int32)
  | 0, _ => none
  | n + 1, x2 => if x1 < ((2 : Int32) <<< (x2 &&& 31)) then some (0, x2) else lpX5_levelOf_2 F x1 n (x2 + 1)
def dnX5_levelOf (F : gF) (x1 : Int32) : Option Int32 := bp (lpX5_levelOf_2 F x1 FU 0) (fun z2_1 => some z2_1.2)
def lpX5_runEnd_2 (F : gF) (x2 : Int32) : Nat → Int32 → Option (Nat × Int32)
  | 0, _ => none
  | n + 1, x3 => if x2 ≤ x3 then some (0, x3) else bp (dnX5_isWaiting F (x3 + 1)) (fun r3 => if r3 = 0 then lpX5_runEnd_2 F x2 n (x3 + 1) else some (0, x3))
def dnX5_runEnd (F : gF) (x1 : Int32) (x2 : Int32) : Option Int32 := bp (lpX5_runEnd_2 F x2 FU x1) (fun z2_4 => some z2_4.2)
def lpX5_looksIn_5 (F : gF) (x2 : Int32) : Nat → Int32 → Int32 → Option (Nat × Int32)
  | 0, _, _ => none
  | n + 1, x3, x4 => if x2 < x4 then some (0, x3) else bp (dnX5_isWaiting F x4) (fun r3 => if r3 = 0 then bp (dnX5_runEnd F x4 x2) (fun r6 => bp (dnX5_levelOf F ((r6 - x4) + 1)) (fun r8 => if ((1 : Int32) <<< (r8 &&& 31)) = ((r6 - x4) + 1) then lpX5_looksIn_5 F x2 n (x3 + 1) (r6 + 1) else lpX5_looksIn_5 F x2 n (x3 + 2) (r6 + 1))) else bp (dnX5_levelOf F ((x4 - x4) + 1)) (fun r11 => if ((1 : Int32) <<< (r11 &&& 31)) = ((x4 - x4) + 1) then lpX5_looksIn_5 F x2 n (x3 + 1) (x4 + 1) else lpX5_looksIn_5 F x2 n (x3 + 2) (x4 + 1)))
def dnX5_looksIn (F : gF) (x1 : Int32) (x2 : Int32) : Option Int32 := bp (lpX5_looksIn_5 F x2 FU 0 x1) (fun z5_12 => some z5_12.2)
def dnX5_toldBy (F : gF) (x1 : Int32) (x2 : Int32) : Option Int32 := if x1 = 0 then some x2 else bp (dnX5_cellAt x1 x2) (fun r3 => bp (dnX5_get F r3) (fun r5 => some r5))
def dnX5_lesser (F : gF) (x1 : Int32) (x2 : Int32) : Option Int32 := if x1 = (-1) then some x2 else bp (dnX5_valueAt F x2) (fun r3 => bp (dnX5_valueAt F x1) (fun r5 => if r5 ≤ r3 then some x1 else some x2))
def lpX5_asks_43 (F : gF) (x2 : Int32) : Nat → Int32 → Int32 → Option (Nat × Int32)
  | 0, _, _ => none
  | n + 1, x3, x4 => if x2 < x4 then some (0, x3) else bp (dnX5_isWaiting F x4) (fun r3 => if r3 = 0 then bp (dnX5_runEnd F x4 x2) (fun r6 => bp (dnX5_levelOf F ((r6 - x4) + 1)) (fun r8 => bp (dnX5_toldBy F r8 x4) (fun r10 => bp (dnX5_lesser F x3 r10) (fun r12 => bp (dnX5_toldBy F r8 ((r6 - ((1 : Int32) <<< (r8 &&& 31))) + 1)) (fun r14 => bp (dnX5_lesser F r12 r14) (fun r16 => lpX5_asks_43 F x2 n r16 (r6 + 1))))))) else bp (dnX5_levelOf F ((x4 - x4) + 1)) (fun r18 => bp (dnX5_toldBy F r18 x4) (fun r20 => bp (dnX5_lesser F x3 r20) (fun r22 => bp (dnX5_toldBy F r18 ((x4 - ((1 : Int32) <<< (r18 &&& 31))) + 1)) (fun r24 => bp (dnX5_lesser F r22 r24) (fun r26 => lpX5_asks_43 F x2 n r26 (x4 + 1)))))))
def dnX5_asks (F : gF) (x1 : Int32) (x2 : Int32) : Option (Int32 × gF) := bp (dnX5_get F 1) (fun r28 => if r28 = 0 then bp (dnX5_waiting F) (fun r38 => if r38 ≤ 0 then bp (dnX5_adds F 9 1) (fun F41 => bp (dnX5_looksIn F41 x1 x2) (fun r43 => bp (dnX5_adds F41 7 r43) (fun F45 => bp (lpX5_asks_43 F45 x2 FU (-1) x1) (fun z43_45 => some (z43_45.2, F45))))) else bp (dnX5_builds F) (fun F48 => bp (dnX5_adds F48 9 1) (fun F50 => bp (dnX5_looksIn F50 x1 x2) (fun r52 => bp (dnX5_adds F50 7 r52) (fun F54 => bp (lpX5_asks_43 F54 x2 FU (-1) x1) (fun z43_54 => some (z43_54.2, F54))))))) else bp (dnX5_adds F 9 1) (fun F31 => bp (dnX5_looksIn F31 x1 x2) (fun r33 => bp (dnX5_adds F31 7 r33) (fun F35 => bp (lpX5_asks_43 F35 x2 FU (-1) x1) (fun z43_35 => some (z43_35.2, F35))))))
def dnX5_keptFrom (F : gF) (x1 : Int32) : Option Int32 := bp (dnX5_get F (292 + (2 * x1))) (fun r2 => some r2)
def dnX5_keptTo (F : gF) (x1 : Int32) : Option Int32 := bp (dnX5_get F ((292 + (2 * x1)) + 1)) (fun r2 => some r2)
def dnX5_keeps (F : gF) (x1 : Int32) (x2 : Int32) : Option (Int32 × gF) := bp (dnX5_get F 6) (fun r2 => bp (dnX5_put0 F (292 + (2 * r2)) x1) (fun F4 => bp (dnX5_put0 F4 ((292 + (2 * r2)) + 1) x2) (fun F6 => bp (dnX5_adds F6 6 1) (fun F8 => bp (dnX5_get F8 6) (fun r10 => some (r10, F8))))))
def lpX5_forgets_8 : Nat → Int32 → gF → Option (Nat × gF)
  | 0, _, _ => none
  | n + 1, x2, F => bp (dnX5_get F 6) (fun r2 => if ((292 + (2 * r2)) - 2) ≤ x2 then some (0, F) else bp (dnX5_get F (x2 + 2)) (fun r5 => bp (dnX5_put0 F x2 r5) (fun F7 => lpX5_forgets_8 n (x2 + 1) F7)))
def dnX5_forgets (F : gF) (x1 : Int32) : Option (Int32 × gF) := bp (lpX5_forgets_8 FU (292 + (2 * x1)) F) (fun z8_7 => bp (dnX5_adds z8_7.2 6 (-1)) (fun F10 => bp (dnX5_get F10 6) (fun r12 => some (r12, F10))))
def lpX5_putsIn_5 (x1 : Int32) (x2 : Int32) : Nat → Int32 → gF → Option (Nat × gF)
  | 0, _, _ => none
  | n + 1, x3, F => if x3 ≤ x1 then some (0, F) else bp (dnX5_valueAt F (x3 - 1)) (fun r3 => bp (dnX5_put0 F (12 + x3) r3) (fun F5 => lpX5_putsIn_5 x1 x2 n (x3 + (-1)) F5))
def lpX5_putsIn_48 (x1 : Int32) : Nat → Int32 → gF → Option (Nat × gF)
  | 0, _, _ => none
  | n + 1, x3, F => bp (dnX5_get F 6) (fun r7 => if r7 ≤ x3 then some (0, F) else bp (dnX5_keptTo F x3) (fun r10 => if x1 ≤ r10 then bp (dnX5_keptFrom F x3) (fun r13 => if r13 < x1 then bp (dnX5_adds F ((292 + (2 * x3)) + 1) 1) (fun F16 => lpX5_putsIn_48 x1 n (x3 + 1) F16) else bp (dnX5_adds F (292 + (2 * x3)) 1) (fun F18 => bp (dnX5_adds F18 ((292 + (2 * x3)) + 1) 1) (fun F20 => lpX5_putsIn_48 x1 n (x3 + 1) F20))) else lpX5_putsIn_48 x1 n (x3 + 1) F))
def dnX5_putsIn (F : gF) (x1 : Int32) (x2 : Int32) : Option (Int32 × gF) := bp (dnX5_size F) (fun r22 => bp (lpX5_putsIn_5 x1 x2 FU r22 F) (fun z5_22 => bp (dnX5_put0 z5_22.2 (12 + x1) x2) (fun F25 => bp (dnX5_adds F25 0 1) (fun F27 => bp (lpX5_putsIn_48 x1 FU 0 F27) (fun z48_27 => bp (dnX5_builds z48_27.2) (fun F30 => bp (dnX5_size F30) (fun r32 => some (r32, F30))))))))
def lpX5_takesOut_8 (x1 : Int32) (x2 : Int32) : Nat → Int32 → gF → Option (Nat × gF)
  | 0, _, _ => none
  | n + 1, x3, F => bp (dnX5_size F) (fun r2 => if (r2 - 1) ≤ x3 then some (0, F) else bp (dnX5_valueAt F (x3 + 1)) (fun r5 => bp (dnX5_put0 F (12 + x3) r5) (fun F7 => lpX5_takesOut_8 x1 x2 n (x3 + 1) F7)))
def lpX5_takesOut_54 (x1 : Int32) (x2 : Int32) : Nat → Int32 → gF → Option (Nat × gF)
  | 0, _, _ => none
  | n + 1, x3, F => if x3 < 0 then some (1, F) else bp (dnX5_keptTo F x3) (fun r10 => if x1 ≤ r10 then bp (dnX5_keptFrom F x3) (fun r13 => if r13 ≤ x1 then bp (dnX5_adds F ((292 + (2 * x3)) + 1) (-1)) (fun F16 => bp (dnX5_keptTo F16 x3) (fun r18 => bp (dnX5_keptFrom F16 x3) (fun r20 => if r20 ≤ r18 then lpX5_takesOut_54 x1 x2 n (x3 + (-1)) F16 else bs (dnX5_forgets F16 x3) (fun r23 F24 => if 0 ≤ r23 then lpX5_takesOut_54 x1 x2 n (x3 + (-1)) F24 else some (0, F24))))) else bp (dnX5_adds F (292 + (2 * x3)) (-1)) (fun F27 => bp (dnX5_adds F27 ((292 + (2 * x3)) + 1) (-1)) (fun F29 => bp (dnX5_keptTo F29 x3) (fun r31 => bp (dnX5_keptFrom F29 x3) (fun r33 => if r33 ≤ r31 then lpX5_takesOut_54 x1 x2 n (x3 + (-1)) F29 else bs (dnX5_forgets F29 x3) (fun r36 F37 => if 0 ≤ r36 then lpX5_takesOut_54 x1 x2 n (x3 + (-1)) F37 else some (0, F37))))))) else lpX5_takesOut_54 x1 x2 n (x3 + (-1)) F)
def dnX5_takesOut (F : gF) (x1 : Int32) : Option (Int32 × gF) := bp (dnX5_valueAt F x1) (fun r40 => bp (lpX5_takesOut_8 x1 r40 FU x1 F) (fun z8_40 => bp (dnX5_adds z8_40.2 0 (-1)) (fun F43 => bp (dnX5_get F43 6) (fun r45 => bp (lpX5_takesOut_54 x1 r40 FU (r45 - 1) F43) (fun z54_45 => if z54_45.1 = 0 then some (r40, z54_45.2) else bp (dnX5_builds z54_45.2) (fun F48 => some (r40, F48)))))))
def lpX5_four_3 (x1 : Int32) : Nat → Int32 → gF → Option (Nat × gF)
  | 0, _, _ => none
  | n + 1, x2, F => if x2 < 0 then some (0, F) else wi 500 (F 0 7) (fun j4 => bw (wr F 4 j4 ((x1 >>> (x2 &&& 31)) &&& 255)) (fun F3 => bw (wr F3 0 7 ((F3 0 7) + 1)) (fun F5 => lpX5_four_3 x1 n (x2 + (-8)) F5)))
def dnX5_four (F : gF) (x1 : Int32) : Option gF := bp (lpX5_four_3 x1 FU 24 F) (fun z3_5 => some z3_5.2)
def dnX5_append (F : gF) (x1 : Int32) (x2 : Int32) (x3 : Int32) (x4 : Int32) (x5 : Int32) : Option (Int32 × gF) := bw (wr F 0 0 0) (fun F1 => if ((F1 0 7) + 20) ≤ 500 then bp (dnX5_four F1 x1) (fun F4 => bp (dnX5_four F4 x2) (fun F6 => bp (dnX5_four F6 x3) (fun F8 => bp (dnX5_four F8 x4) (fun F10 => bp (dnX5_four F10 x5) (fun F12 => some (F12 0 7, F12)))))) else some ((-1), F1))
def dnX5_errorOffset (F : gF) : Option (Int32 × gF) := bw (wr F 0 0 0) (fun F1 => some (F1 0 11, F1))
def dnX5_fails (F : gF) (x1 : Int32) (x2 : Int32) : Option (Int32 × gF) := if (F 0 10) = 0 then bw (wr F 0 10 x1) (fun F2 => bw (wr F2 0 11 x2) (fun F3 => some (0, F3))) else some (0, F)
def lpX5_here_0 : Nat → gF → Option (Nat × gF)
  | 0, _ => none
  | n + 1, F => if (F 0 8) ≤ (F 0 9) then some (0, F) else ra 500 (F 4) (F 0 9) (fun v3 => if v3 = 32 then bw (wr F 0 9 ((F 0 9) + 1)) (fun F5 => lpX5_here_0 n F5) else some (0, F))
def dnX5_here (F : gF) : Option (Int32 × gF) := bp (lpX5_here_0 FU F) (fun z0_5 => if (z0_5.2 0 8) ≤ (z0_5.2 0 9) then some ((-1), z0_5.2) else ra 500 (z0_5.2 4) (z0_5.2 0 9) (fun v9 => some (v9, z0_5.2)))
def dnX5_isSmall (x0 : Int32) : Option Int32 := if x0 < 97 then some 0 else if 122 < x0 then some 0 else some 1
def dnX5_isDigit (x0 : Int32) : Option Int32 := if x0 < 48 then some 0 else if 57 < x0 then some 0 else some 1
def lpX5_passes_55 (F : gF) (x1 : Nat) (x2 : Int32) : Nat → Int32 → Option (Nat)
  | 0, _ => none
  | n + 1, x3 => if x2 ≤ x3 then some (1) else ra 500 (F 4) ((F 0 9) + x3) (fun v3 => sc x1 x3 (fun v5 => if v3 = v5 then lpX5_passes_55 F x1 x2 n (x3 + 1) else some (0)))
def lpX5_passes_7 (F : gF) (x1 : Nat) : Nat → Int32 → Option (Nat × Int32)
  | 0, _ => none
  | n + 1, x2 => if (F 0 8) ≤ ((F 0 9) + x2) then some (0, x2) else ra 500 (F 4) ((F 0 9) + x2) (fun v9 => bp (dnX5_isSmall v9) (fun r11 => if r11 = 0 then some (0, x2) else lpX5_passes_7 F x1 n (x2 + 1)))
def dnX5_passes (F : gF) (x1 : Nat) : Option (Int32 × gF) := bs (dnX5_here F) (fun r14 F15 => bp (lpX5_passes_7 F15 x1 FU 0) (fun z7_15 => if z7_15.2 = (nI (sLen.getD x1 0)) then bp (lpX5_passes_55 F15 x1 z7_15.2 FU 0) (fun z55_17 => if z55_17 = 0 then some (0, F15) else bw (wr F15 0 9 ((F15 0 9) + z7_15.2)) (fun F19 => some (1, F19))) else some (0, F15)))
def dnX5_sign (F : gF) (x1 : Int32) : Option (Int32 × gF) := bs (dnX5_here F) (fun r2 F3 => if r2 = x1 then bw (wr F3 0 9 ((F3 0 9) + 1)) (fun F5 => some (1, F5)) else bs (dnX5_fails F3 (-2) (F3 0 9)) (fun r7 F8 => rzs r7 F8))
def lpX5_reads_34 (x1 : Int32) (x2 : Int32) : Nat → gF → Option (Nat × gF)
  | 0, _ => none
  | n + 1, F => if (F 0 8) ≤ (F 0 9) then some (0, F) else ra 500 (F 4) (F 0 9) (fun v3 => bp (dnX5_isDigit v3) (fun r5 => if r5 = 0 then some (0, F) else if (F 0 12) ≤ 100000 then ra 500 (F 4) (F 0 9) (fun v9 => bw (wr F 0 12 (((10 * (F 0 12)) + v9) - 48)) (fun F10 => bw (wr F10 0 9 ((F10 0 9) + 1)) (fun F11 => lpX5_reads_34 x1 x2 n F11))) else bw (wr F 0 12 (F 0 12)) (fun F12 => bw (wr F12 0 9 ((F12 0 9) + 1)) (fun F13 => lpX5_reads_34 x1 x2 n F13))))
def dnX5_reads (F : gF) (x1 : Int32) (x2 : Int32) : Option (Int32 × gF) := bs (dnX5_here F) (fun r15 F16 => bp (dnX5_isDigit r15) (fun r18 => if r18 = 0 then bs (dnX5_fails F16 (-2) (F16 0 9)) (fun r31 F32 => rzs r31 F32) else bw (wr F16 0 13 (F16 0 9)) (fun F20 => bw (wr F20 0 12 0) (fun F21 => bp (lpX5_reads_34 x1 x2 FU F21) (fun z34_21 => bp (dnX5_isIn (z34_21.2 0 12) x1 x2) (fun r24 => if r24 = 0 then bs (dnX5_fails z34_21.2 (-3) (z34_21.2 0 13)) (fun r27 F28 => if r27 = 0 then some (0, F28) else some (1, F28)) else some (1, z34_21.2)))))))
def dnX5_readsValue (F : gF) : Option (Int32 × gF) := bs (dnX5_here F) (fun r2 F3 => if r2 = 45 then bw (wr F3 0 9 ((F3 0 9) + 1)) (fun F11 => bs (dnX5_reads F11 0 999) (fun r13 F14 => if r13 = 0 then some (0, F14) else bw (wr F14 0 12 (-(F14 0 12))) (fun F16 => some (1, F16)))) else bw (wr F3 0 9 ((F3 0 9) + 0)) (fun F5 => bs (dnX5_reads F5 0 999) (fun r7 F8 => if r7 = 0 then some (0, F8) else bw (wr F8 0 12 (F8 0 12)) (fun F10 => some (1, F10)))))
def dnX5_isValueHere (F : gF) : Option (Int32 × gF) := bs (dnX5_here F) (fun r2 F3 => if r2 = 45 then some (1, F3) else bs (dnX5_here F3) (fun r6 F7 => bp (dnX5_isDigit r6) (fun r9 => if r9 = 0 then some (0, F7) else some (1, F7))))
def lpX5_readsValues_18 : Nat → gF → Option (Nat × Int32 × gF)
  | 0, _ => none
  | n + 1, F => bs (dnX5_isValueHere F) (fun r2 F3 => if r2 = 0 then some (2, 0, F3) else bp (dnX5_size F3) (fun r6 => if r6 = 40 then bs (dnX5_here F3) (fun r22 F23 => if r22 = 45 then some (0, (F3 0 9), F23) else bs (dnX5_readsValue F23) (fun r26 F27 => if r26 = 0 then some (0, (F3 0 9), F27) else bp (dnX5_size F27) (fun r30 => if r30 = 40 then some (1, (F3 0 9), F27) else bp (dnX5_size F27) (fun r33 => bp (dnX5_put0 F27 (12 + r33) (F27 0 12)) (fun F35 => bp (dnX5_adds F35 0 1) (fun F37 => lpX5_readsValues_18 n F37)))))) else bs (dnX5_readsValue F3) (fun r9 F10 => if r9 = 0 then some (0, (F3 0 9), F10) else bp (dnX5_size F10) (fun r13 => if r13 = 40 then some (1, (F3 0 9), F10) else bp (dnX5_size F10) (fun r16 => bp (dnX5_put0 F10 (12 + r16) (F10 0 12)) (fun F18 => bp (dnX5_adds F18 0 1) (fun F20 => lpX5_readsValues_18 n F20)))))))
def dnX5_readsValues (F : gF) : Option (Int32 × gF) := bs (dnX5_isValueHere F) (fun r39 F40 => if r39 = 0 then bs (dnX5_fails F40 (-2) (F40 0 9)) (fun r52 F53 => rzs r52 F53) else bp (lpX5_readsValues_18 FU F40) (fun z18_41 => if z18_41.1 = 0 then bs (dnX5_fails z18_41.2.2 (-4) z18_41.2.1) (fun r44 F45 => rzs r44 F45) else if z18_41.1 = 1 then bs (dnX5_fails z18_41.2.2 (-4) z18_41.2.1) (fun r48 F49 => rzs r48 F49) else some (1, z18_41.2.2)))
def dnX5_readsPlace (F : gF) (x1 : Int32) : Option (Int32 × gF) := bp (dnX5_size F) (fun r2 => bs (dnX5_reads F x1 (r2 - 1)) (fun r4 F5 => rzs r4 F5))
def dnX5_readsSet (F : gF) : Option (Int32 × gF) := bs (dnX5_readsPlace F 0) (fun r2 F3 => if r2 = 0 then some (0, F3) else bs (dnX5_readsValue F3) (fun r6 F7 => if r6 = 0 then some (0, F7) else bs (dnX5_sets F7 (F3 0 12) (F7 0 12)) (fun r10 F11 => if 999 < r10 then some (0, F11) else some (1, F11))))
def dnX5_readsAsk (F : gF) : Option (Int32 × gF) := bs (dnX5_readsPlace F 0) (fun r2 F3 => if r2 = 0 then some (0, F3) else bs (dnX5_readsPlace F3 (F3 0 12)) (fun r6 F7 => if r6 = 0 then some (0, F7) else bs (dnX5_asks F7 (F3 0 12) (F7 0 12)) (fun r10 F11 => if r10 < 0 then some (0, F11) else some (1, F11))))
def dnX5_readsKeep (F : gF) : Option (Int32 × gF) := bs (dnX5_readsPlace F 0) (fun r2 F3 => if r2 = 0 then some (0, F3) else bp (dnX5_get F3 6) (fun r6 => if r6 = 8 then bs (dnX5_fails F3 (-4) (F3 0 13)) (fun r17 F18 => rzs r17 F18) else bs (dnX5_readsPlace F3 (F3 0 12)) (fun r9 F10 => if r9 = 0 then some (0, F10) else bs (dnX5_keeps F10 (F3 0 12) (F10 0 12)) (fun r13 F14 => if r13 ≤ 0 then some (0, F14) else some (1, F14)))))
def dnX5_readsPut (F : gF) : Option (Int32 × gF) := bp (dnX5_size F) (fun r2 => bs (dnX5_reads F 0 r2) (fun r4 F5 => if r4 = 0 then some (0, F5) else bp (dnX5_size F5) (fun r8 => if r8 = 40 then bs (dnX5_fails F5 (-4) (F5 0 13)) (fun r19 F20 => rzs r19 F20) else bs (dnX5_readsValue F5) (fun r11 F12 => if r11 = 0 then some (0, F12) else bs (dnX5_putsIn F12 (F5 0 12) (F12 0 12)) (fun r15 F16 => if r15 ≤ 0 then some (0, F16) else some (1, F16))))))
def dnX5_readsTake (F : gF) : Option (Int32 × gF) := bs (dnX5_readsPlace F 0) (fun r2 F3 => if r2 = 0 then some (0, F3) else bp (dnX5_size F3) (fun r6 => if r6 = 1 then bs (dnX5_fails F3 (-5) (F3 0 13)) (fun r13 F14 => rzs r13 F14) else bs (dnX5_takesOut F3 (F3 0 12)) (fun r9 F10 => if 999 < r9 then some (0, F10) else some (1, F10))))
def dnX5_readsStatement (F : gF) : Option (Int32 × gF) := bs (dnX5_here F) (fun r2 F3 => bs (dnX5_passes F3 1) (fun r5 F6 => if r5 = 0 then bs (dnX5_passes F6 2) (fun r9 F10 => if r9 = 0 then bs (dnX5_passes F10 3) (fun r13 F14 => if r13 = 0 then bs (dnX5_passes F14 4) (fun r17 F18 => if r17 = 0 then bs (dnX5_passes F18 5) (fun r21 F22 => if r21 = 0 then bs (dnX5_fails F22 (-2) (F3 0 9)) (fun r25 F26 => rzs r25 F26) else bs (dnX5_readsTake F22) (fun r29 F30 => rzs r29 F30)) else bs (dnX5_readsPut F18) (fun r33 F34 => rzs r33 F34)) else bs (dnX5_readsKeep F14) (fun r37 F38 => rzs r37 F38)) else bs (dnX5_readsAsk F10) (fun r41 F42 => rzs r41 F42)) else bs (dnX5_readsSet F6) (fun r45 F46 => rzs r45 F46)))
def lpX5_readsText_22 : Nat → Int32 → gF → Option (Nat × gF)
  | 0, _, _ => none
  | n + 1, x1, F => if 310 ≤ x1 then some (0, F) else bp (dnX5_put0 F x1 0) (fun F3 => lpX5_readsText_22 n (x1 + 1) F3)
def lpX5_readsText_113 : Nat → gF → Option (Nat × gF)
  | 0, _ => none
  | n + 1, F => bs (dnX5_here F) (fun r5 F6 => if r5 = (-1) then some (1, F6) else bs (dnX5_readsStatement F6) (fun r9 F10 => if r9 = 0 then some (0, F10) else bs (dnX5_sign F10 59) (fun r13 F14 => if r13 = 0 then some (0, F14) else lpX5_readsText_113 n F14)))
def dnX5_readsText (F : gF) : Option (Int32 × gF) := bs (dnX5_passes F 0) (fun r17 F18 => if r17 = 0 then bs (dnX5_fails F18 (-2) (F18 0 9)) (fun r49 F50 => rzs r49 F50) else bp (lpX5_readsText_22 FU 0 F18) (fun z22_19 => bs (dnX5_reads z22_19.2 0 2) (fun r22 F23 => if r22 = 0 then some (0, F23) else bp (dnX5_put0 F23 1 (F23 0 12)) (fun F26 => bs (dnX5_reads F26 1 8) (fun r28 F29 => if r28 = 0 then some (0, F29) else bp (dnX5_put0 F29 2 (F29 0 12)) (fun F32 => bs (dnX5_sign F32 58) (fun r34 F35 => if r34 = 0 then some (0, F35) else bs (dnX5_readsValues F35) (fun r38 F39 => if r38 = 0 then some (0, F39) else bs (dnX5_sign F39 59) (fun r42 F43 => if r42 = 0 then some (0, F43) else bp (dnX5_builds F43) (fun F46 => bp (lpX5_readsText_113 FU F46) (fun z113_46 => if z113_46.1 = 0 then some (0, z113_46.2) else some (1, z113_46.2))))))))))))
def lpX5_load_51 : Nat → Int32 → gF → Option (Nat × gF)
  | 0, _, _ => none
  | n + 1, x2, F => if 310 ≤ x2 then some (0, F) else bp (dnX5_get F x2) (fun r3 => wi 310 x2 (fun j6 => bw (wr F 2 j6 r3) (fun F5 => lpX5_load_51 n (x2 + 1) F5)))
def lpX5_load_93 (x2 : Int32) (x3 : Int32) : Nat → Int32 → gF → Option (Nat × gF)
  | 0, _, _ => none
  | n + 1, x4, F => if 310 ≤ x4 then some (0, F) else if x2 = 0 then ra 310 (F 2) x4 (fun v10 => bp (dnX5_put0 F x4 v10) (fun F12 => lpX5_load_93 x2 x3 n (x4 + 1) F12)) else bp (dnX5_get F x4) (fun r14 => wi 2790 ((310 * x3) + x4) (fun j17 => bw (wr F 1 j17 r14) (fun F16 => ra 310 (F16 2) x4 (fun v19 => bp (dnX5_put0 F16 x4 v19) (fun F21 => lpX5_load_93 x2 x3 n (x4 + 1) F21)))))
def dnX5_load (F : gF) (x1 : Int32) : Option (Int32 × gF) := bw (wr F 0 0 0) (fun F22 => bp (dnX5_isIn x1 0 (F22 0 7)) (fun r24 => bs (dnX5_right F22 r24 1) (fun r26 F27 => if r26 = 0 then some (0, F27) else bw (wr F27 0 8 x1) (fun F29 => bw (wr F29 0 9 0) (fun F30 => bw (wr F30 0 7 0) (fun F31 => bw (wr F31 0 10 0) (fun F32 => bw (wr F32 0 11 (-1)) (fun F33 => bp (lpX5_load_51 FU 0 F33) (fun z51_33 => bs (dnX5_readsText z51_33.2) (fun r36 F37 => bp (lpX5_load_93 r36 (((F37 0 4) + 1) - ((F37 0 4) + 1) / 9 * 9) FU 0 F37) (fun z93_37 => if r36 = 0 then some (z93_37.2 0 10, z93_37.2) else bw (wr z93_37.2 0 4 (((F37 0 4) + 1) - ((F37 0 4) + 1) / 9 * 9)) (fun F40 => if 8 ≤ (F40 0 5) then bw (wr F40 0 5 (F40 0 5)) (fun F42 => bp (dnX5_size F42) (fun r44 => some (r44, F42))) else bw (wr F40 0 5 ((F40 0 5) + 1)) (fun F45 => bp (dnX5_size F45) (fun r47 => some (r47, F45)))))))))))))))
def lpX5_levels_2 (F : gF) : Nat → Int32 → Option (Nat × Int32)
  | 0, _ => none
  | n + 1, x1 => if 5 < x1 then some (0, x1) else bp (dnX5_cellsOn F x1) (fun r3 => if r3 ≤ 0 then some (0, x1) else lpX5_levels_2 F n (x1 + 1))
def dnX5_levels (F : gF) : Option Int32 := bp (lpX5_levels_2 F FU 1) (fun z2_4 => some z2_4.2)
def dnX5_toldOf (F : gF) (x1 : Int32) : Option Int32 := if x1 = 3 then bp (dnX5_levels F) (fun r3 => some r3) else if x1 = 4 then bp (dnX5_allCells F) (fun r6 => some r6) else if x1 = 5 then bp (dnX5_waiting F) (fun r9 => some r9) else bp (dnX5_get F x1) (fun r11 => some r11)
def dnX5_isPlace (F : gF) (x1 : Int32) : Option Int32 := bp (dnX5_size F) (fun r2 => bp (dnX5_isIn x1 0 (r2 - 1)) (fun r4 => rz r4))
def dnX5_isStretch (F : gF) (x1 : Int32) (x2 : Int32) : Option (Int32 × gF) := bp (dnX5_isPlace F x1) (fun r2 => if r2 = 0 then bs (dnX5_right F 0 1) (fun r5 F6 => if r5 = 0 then some (0, F6) else if x2 < x1 then bs (dnX5_right F6 0 2) (fun r10 F11 => if r10 = 0 then some (0, F11) else some (1, F11)) else bs (dnX5_right F6 1 2) (fun r14 F15 => if r14 = 0 then some (0, F15) else some (1, F15))) else bp (dnX5_isPlace F x2) (fun r18 => if r18 = 0 then bs (dnX5_right F 0 1) (fun r21 F22 => if r21 = 0 then some (0, F22) else if x2 < x1 then bs (dnX5_right F22 0 2) (fun r26 F27 => if r26 = 0 then some (0, F27) else some (1, F27)) else bs (dnX5_right F22 1 2) (fun r30 F31 => if r30 = 0 then some (0, F31) else some (1, F31))) else bs (dnX5_right F 1 1) (fun r34 F35 => if r34 = 0 then some (0, F35) else if x2 < x1 then bs (dnX5_right F35 0 2) (fun r39 F40 => if r39 = 0 then some (0, F40) else some (1, F40)) else bs (dnX5_right F35 1 2) (fun r43 F44 => if r43 = 0 then some (0, F44) else some (1, F44)))))
def dnX5_state (F : gF) (x1 : Int32) : Option (Int32 × gF) := bw (wr F 0 0 0) (fun F1 => bp (dnX5_isIn x1 0 10) (fun r3 => bs (dnX5_right F1 r3 1) (fun r5 F6 => if r5 = 0 then some (0, F6) else bp (dnX5_toldOf F6 x1) (fun r9 => some (r9, F6)))))
def dnX5_value (F : gF) (x1 : Int32) : Option (Int32 × gF) := bw (wr F 0 0 0) (fun F1 => bp (dnX5_isPlace F1 x1) (fun r3 => bs (dnX5_right F1 r3 1) (fun r5 F6 => if r5 = 0 then some (0, F6) else bp (dnX5_valueAt F6 x1) (fun r9 => some (r9, F6)))))
def dnX5_cell (F : gF) (x1 : Int32) (x2 : Int32) : Option (Int32 × gF) := bw (wr F 0 0 0) (fun F1 => bp (dnX5_isPlace F1 x2) (fun r3 => bs (dnX5_right F1 r3 1) (fun r5 F6 => if r5 = 0 then some (0, F6) else bp (dnX5_isIn x1 0 5) (fun r9 => if r9 = 0 then bs (dnX5_right F6 0 2) (fun r12 F13 => if r12 = 0 then some (0, F13) else bp (dnX5_toldBy F13 x1 x2) (fun r16 => some (r16, F13))) else bp (dnX5_cellsOn F6 x1) (fun r18 => if r18 ≤ x2 then bs (dnX5_right F6 0 2) (fun r21 F22 => if r21 = 0 then some (0, F22) else bp (dnX5_toldBy F22 x1 x2) (fun r25 => some (r25, F22))) else bs (dnX5_right F6 1 2) (fun r27 F28 => if r27 = 0 then some (0, F28) else bp (dnX5_toldBy F28 x1 x2) (fun r31 => some (r31, F28))))))))
def dnX5_waits (F : gF) (x1 : Int32) : Option (Int32 × gF) := bw (wr F 0 0 0) (fun F1 => bp (dnX5_isPlace F1 x1) (fun r3 => bs (dnX5_right F1 r3 1) (fun r5 F6 => if r5 = 0 then some (0, F6) else bp (dnX5_isWaiting F6 x1) (fun r9 => if r9 = 0 then some (0, F6) else some (1, F6)))))
def dnX5_least (F : gF) (x1 : Int32) (x2 : Int32) : Option (Int32 × gF) := bw (wr F 0 0 0) (fun F1 => bs (dnX5_isStretch F1 x1 x2) (fun r3 F4 => if r3 = 0 then some (0, F4) else bp (dnX5_leastIn F4 x1 x2) (fun r7 => some (r7, F4))))
def dnX5_looksOfRun (F : gF) (x1 : Int32) : Option Int32 := bp (dnX5_levelOf F x1) (fun r2 => if ((1 : Int32) <<< (r2 &&& 31)) = x1 then some 1 else some 2)
def dnX5_looksNow (F : gF) (x1 : Int32) (x2 : Int32) : Option Int32 := bp (dnX5_get F 1) (fun r2 => if r2 = 0 then bp (dnX5_looksOfRun F ((x2 - x1) + 1)) (fun r7 => some r7) else bp (dnX5_looksIn F x1 x2) (fun r5 => some r5))
def dnX5_looks (F : gF) (x1 : Int32) (x2 : Int32) : Option (Int32 × gF) := bw (wr F 0 0 0) (fun F1 => bs (dnX5_isStretch F1 x1 x2) (fun r3 F4 => if r3 = 0 then some (0, F4) else bp (dnX5_looksNow F4 x1 x2) (fun r7 => some (r7, F4))))
def dnX5_writes (F : gF) : Option (Int32 × gF) := bw (wr F 0 0 0) (fun F1 => bp (dnX5_get F1 1) (fun r3 => if r3 = 0 then bp (dnX5_waiting F1) (fun r6 => if r6 ≤ 0 then some (0, F1) else bp (dnX5_allCells F1) (fun r9 => some (r9, F1))) else some (0, F1)))
def dnX5_above (F : gF) (x1 : Int32) : Option (Int32 × gF) := bw (wr F 0 0 0) (fun F1 => bp (dnX5_isPlace F1 x1) (fun r3 => bs (dnX5_right F1 r3 1) (fun r5 F6 => if r5 = 0 then some (0, F6) else bp (dnX5_cellsOf F6 x1) (fun r9 => some (r9, F6)))))
def lpX5_lessBehind_24 (F : gF) (x1 : Int32) : Nat → Int32 → Option (Nat × Int32)
  | 0, _ => none
  | n + 1, x2 => bp (dnX5_size F) (fun r2 => if r2 ≤ x2 then some (1, x2) else bp (dnX5_valueAt F x2) (fun r5 => bp (dnX5_valueAt F x1) (fun r7 => if r7 ≤ r5 then lpX5_lessBehind_24 F x1 n (x2 + 1) else some (0, x2))))
def dnX5_lessBehind (F : gF) (x1 : Int32) : Option (Int32 × gF) := bw (wr F 0 0 0) (fun F9 => bp (dnX5_isPlace F9 x1) (fun r11 => bs (dnX5_right F9 r11 1) (fun r13 F14 => if r13 = 0 then some (0, F14) else bp (lpX5_lessBehind_24 F14 x1 FU (x1 + 1)) (fun z24_15 => if z24_15.1 = 0 then some (z24_15.2, F14) else some ((-1), F14)))))
def lpX5_rules_24 (F : gF) (x1 : Int32) (x3 : Int32) : Nat → Int32 → Option (Nat × Int32)
  | 0, _ => none
  | n + 1, x2 => if (x1 - x2) < 0 then some (0, x2) else bp (dnX5_valueAt F (x1 - x2)) (fun r3 => bp (dnX5_valueAt F x1) (fun r5 => if r3 ≤ r5 then some (0, x2) else lpX5_rules_24 F x1 x3 n (x2 + 1)))
def lpX5_rules_51 (F : gF) (x1 : Int32) (x2 : Int32) : Nat → Int32 → Option (Nat × Int32)
  | 0, _ => none
  | n + 1, x3 => bp (dnX5_size F) (fun r8 => if r8 ≤ (x1 + x3) then some (0, x3) else bp (dnX5_valueAt F (x1 + x3)) (fun r11 => bp (dnX5_valueAt F x1) (fun r13 => if r11 < r13 then some (0, x3) else lpX5_rules_51 F x1 x2 n (x3 + 1))))
def dnX5_rules (F : gF) (x1 : Int32) : Option (Int32 × gF) := bw (wr F 0 0 0) (fun F15 => bp (dnX5_isPlace F15 x1) (fun r17 => bs (dnX5_right F15 r17 1) (fun r19 F20 => if r19 = 0 then some (0, F20) else bp (lpX5_rules_24 F20 x1 1 FU 1) (fun z24_21 => bp (lpX5_rules_51 F20 x1 z24_21.2 FU 1) (fun z51_22 => some (z24_21.2 * z51_22.2, F20))))))
def lpX5_sum_21 (F : gF) (x2 : Int32) : Nat → Int32 → Int32 → Option (Nat × Int32)
  | 0, _, _ => none
  | n + 1, x3, x4 => if x2 < x4 then some (0, x3) else bp (dnX5_valueAt F x4) (fun r3 => lpX5_sum_21 F x2 n (x3 + r3) (x4 + 1))
def dnX5_sum (F : gF) (x1 : Int32) (x2 : Int32) : Option (Int32 × gF) := bw (wr F 0 0 0) (fun F4 => bs (dnX5_isStretch F4 x1 x2) (fun r6 F7 => if r6 = 0 then some (0, F7) else bp (lpX5_sum_21 F7 x2 FU 0 x1) (fun z21_8 => some (z21_8.2, F7))))
def dnX5_isKept (F : gF) (x1 : Int32) : Option Int32 := bp (dnX5_get F 6) (fun r2 => bp (dnX5_isIn x1 0 (r2 - 1)) (fun r4 => rz r4))
def dnX5_kept (F : gF) (x1 : Int32) : Option (Int32 × gF) := bw (wr F 0 0 0) (fun F1 => bp (dnX5_isKept F1 x1) (fun r3 => bs (dnX5_right F1 r3 1) (fun r5 F6 => if r5 = 0 then some (0, F6) else bp (dnX5_keptFrom F6 x1) (fun r9 => bp (dnX5_keptTo F6 x1) (fun r11 => some ((100 * r9) + r11, F6))))))
def lpX5_keptLooks_4 (F : gF) : Nat → Int32 → Int32 → Option (Nat × Int32)
  | 0, _, _ => none
  | n + 1, x1, x2 => bp (dnX5_get F 6) (fun r2 => if r2 ≤ x2 then some (0, x1) else bp (dnX5_keptFrom F x2) (fun r5 => bp (dnX5_keptTo F x2) (fun r7 => bp (dnX5_looksNow F r5 r7) (fun r9 => lpX5_keptLooks_4 F n (x1 + r9) (x2 + 1)))))
def dnX5_keptLooks (F : gF) : Option Int32 := bp (lpX5_keptLooks_4 F FU 0 0) (fun z4_9 => some z4_9.2)
def dnX5_looksOfKept (F : gF) : Option (Int32 × gF) := bw (wr F 0 0 0) (fun F1 => bp (dnX5_keptLooks F1) (fun r3 => some (r3, F1)))
def lpX5_costBy_34 (x2 : Int32) : Nat → Int32 → gF → Option (Nat × gF)
  | 0, _, _ => none
  | n + 1, x3, F => if 40 ≤ x3 then some (0, F) else bp (dnX5_put0 F (52 + x3) 0) (fun F3 => lpX5_costBy_34 x2 n (x3 + 1) F3)
def lpX5_costBy_2 (x1 : Int32) (x2 : Int32) : Nat → Int32 → gF → Option (Nat × gF)
  | 0, _, _ => none
  | n + 1, x3, F => if 310 ≤ x3 then some (0, F) else bp (dnX5_get F x3) (fun r6 => wi 310 x3 (fun j9 => bw (wr F 3 j9 r6) (fun F8 => lpX5_costBy_2 x1 x2 n (x3 + 1) F8)))
def lpX5_costBy_152 (x5 : Int32) : Nat → Int32 → gF → Option (Nat × gF)
  | 0, _, _ => none
  | n + 1, x6, F => if 310 ≤ x6 then some (0, F) else ra 310 (F 3) x6 (fun v12 => bp (dnX5_put0 F x6 v12) (fun F14 => lpX5_costBy_152 x5 n (x6 + 1) F14))
def lpX5_costBy_84 (x3 : Int32) : Nat → Int32 → Int32 → gF → Option (Nat × gF)
  | 0, _, _, _ => none
  | n + 1, x4, x5, F => bp (dnX5_get F 6) (fun r16 => if r16 ≤ x5 then some (0, F) else if 999 < x4 then some (0, F) else bp (dnX5_keptFrom F x5) (fun r20 => bp (dnX5_keptTo F x5) (fun r22 => bs (dnX5_asks F r20 r22) (fun r24 F25 => lpX5_costBy_84 x3 n (if r24 < x4 then r24 else x4) (x5 + 1) F25))))
def dnX5_costBy (F : gF) (x1 : Int32) (x2 : Int32) : Option (Int32 × gF) := bp (lpX5_costBy_2 x1 x2 FU 0 F) (fun z2_25 => bp (dnX5_put0 z2_25.2 1 x1) (fun F28 => bp (lpX5_costBy_34 x2 FU 0 F28) (fun z34_28 => bp (dnX5_get z34_28.2 7) (fun r31 => bp (dnX5_get z34_28.2 8) (fun r33 => bp (dnX5_valueAt z34_28.2 x2) (fun r35 => bs (dnX5_sets z34_28.2 x2 r35) (fun r37 F38 => bp (lpX5_costBy_84 (r31 + r33) FU r37 0 F38) (fun z84_38 => bp (dnX5_get z84_38.2 7) (fun r41 => bp (dnX5_get z84_38.2 8) (fun r43 => bp (lpX5_costBy_152 ((r41 + r43) - (r31 + r33)) FU 0 z84_38.2) (fun z152_43 => some ((r41 + r43) - (r31 + r33), z152_43.2))))))))))))
def lpX5_bestRule_32 (x1 : Int32) : Nat → Int32 → Int32 → Int32 → gF → Option (Nat × Int32 × gF)
  | 0, _, _, _, _ => none
  | n + 1, x2, x3, x4, F => if 3 ≤ x4 then some (0, x2, F) else bs (dnX5_costBy F x4 x1) (fun r3 F4 => if r3 < x3 then lpX5_bestRule_32 x1 n x4 r3 (x4 + 1) F4 else lpX5_bestRule_32 x1 n x2 x3 (x4 + 1) F4)
def dnX5_bestRule (F : gF) (x1 : Int32) : Option (Int32 × gF) := bw (wr F 0 0 0) (fun F6 => bp (dnX5_isPlace F6 x1) (fun r8 => bs (dnX5_right F6 r8 1) (fun r10 F11 => if r10 = 0 then some (0, F11) else bs (dnX5_costBy F11 0 x1) (fun r14 F15 => bp (lpX5_bestRule_32 x1 FU 0 r14 1 F15) (fun z32_15 => some (z32_15.2.1, z32_15.2.2))))))
def lpX5_ranked_41 (F : gF) (x1 : Int32) (x2 : Int32) : Nat → Int32 → Int32 → Option (Nat × Int32)
  | 0, _, _ => none
  | n + 1, x3, x4 => bp (dnX5_size F) (fun r2 => if r2 ≤ x4 then some (0, x3) else bp (dnX5_valueAt F x4) (fun r5 => bp (dnX5_valueAt F x2) (fun r7 => if r5 < r7 then lpX5_ranked_41 F x1 x2 n (x3 + 1) (x4 + 1) else bp (dnX5_valueAt F x4) (fun r10 => bp (dnX5_valueAt F x2) (fun r12 => if r10 = r12 then if x2 ≤ x4 then lpX5_ranked_41 F x1 x2 n (x3 + 0) (x4 + 1) else lpX5_ranked_41 F x1 x2 n (x3 + 1) (x4 + 1) else lpX5_ranked_41 F x1 x2 n (x3 + 0) (x4 + 1))))))
def lpX5_ranked_28 (F : gF) (x1 : Int32) : Nat → Int32 → Option (Nat × Int32)
  | 0, _ => none
  | n + 1, x2 => bp (dnX5_size F) (fun r16 => if r16 ≤ x2 then some (1, x2) else bp (lpX5_ranked_41 F x1 x2 FU 0 0) (fun z41_17 => if z41_17.2 = x1 then some (0, x2) else lpX5_ranked_28 F x1 n (x2 + 1)))
def dnX5_ranked (F : gF) (x1 : Int32) : Option (Int32 × gF) := bw (wr F 0 0 0) (fun F20 => bp (dnX5_size F20) (fun r22 => bp (dnX5_isIn x1 0 (r22 - 1)) (fun r24 => bs (dnX5_right F20 r24 1) (fun r26 F27 => if r26 = 0 then some (0, F27) else bp (lpX5_ranked_28 F27 x1 FU 0) (fun z28_28 => if z28_28.1 = 0 then some (z28_28.2, F27) else some ((-1), F27))))))
def lpX5_hasWaiting_2 (F : gF) (x1 : Int32) (x2 : Int32) : Nat → Int32 → Option (Nat)
  | 0, _ => none
  | n + 1, x3 => if (x2 + ((1 : Int32) <<< (x1 &&& 31))) ≤ x3 then some (1) else bp (dnX5_isWaiting F x3) (fun r3 => if r3 = 0 then lpX5_hasWaiting_2 F x1 x2 n (x3 + 1) else some (0))
def dnX5_hasWaiting (F : gF) (x1 : Int32) (x2 : Int32) : Option Int32 := bp (lpX5_hasWaiting_2 F x1 x2 FU x2) (fun z2_4 => if z2_4 = 0 then some 1 else some 0)
def lpX5_gap_80 (F : gF) : Nat → Int32 → Int32 → Option (Nat × Int32)
  | 0, _, _ => none
  | n + 1, x1, x2 => bp (dnX5_get F 6) (fun r2 => if r2 ≤ x2 then some (0, x1) else bp (dnX5_keptFrom F x2) (fun r5 => if r5 < 0 then lpX5_gap_80 F n (x1 + 1) (x2 + 1) else bp (dnX5_keptTo F x2) (fun r8 => bp (dnX5_size F) (fun r10 => if r10 ≤ r8 then lpX5_gap_80 F n (x1 + 1) (x2 + 1) else bp (dnX5_keptFrom F x2) (fun r13 => bp (dnX5_keptTo F x2) (fun r15 => if r13 ≤ r15 then lpX5_gap_80 F n (x1 + 0) (x2 + 1) else lpX5_gap_80 F n (x1 + 1) (x2 + 1)))))))
def lpX5_gap_16 (F : gF) (x2 : Int32) : Nat → Int32 → Int32 → Option (Nat × Int32)
  | 0, _, _ => none
  | n + 1, x1, x3 => bp (dnX5_cellsOn F x2) (fun r18 => if r18 ≤ x3 then some (0, x1) else bp (dnX5_hasWaiting F x2 x3) (fun r21 => if r21 = 0 then bp (dnX5_cellAt x2 x3) (fun r24 => bp (dnX5_get F r24) (fun r26 => bp (dnX5_leastIn F x3 ((x3 + ((1 : Int32) <<< (x2 &&& 31))) - 1)) (fun r28 => if r26 = r28 then lpX5_gap_16 F x2 n (x1 + 0) (x3 + 1) else lpX5_gap_16 F x2 n (x1 + 1) (x3 + 1)))) else lpX5_gap_16 F x2 n (x1 + 0) (x3 + 1)))
def lpX5_gap_9 (F : gF) : Nat → Int32 → Int32 → Option (Nat × Int32)
  | 0, _, _ => none
  | n + 1, x1, x2 => if 5 < x2 then some (0, x1) else bp (lpX5_gap_16 F x2 FU x1 0) (fun z16_30 => lpX5_gap_9 F n z16_30.2 (x2 + 1))
def dnX5_gap (F : gF) : Option (Int32 × gF) := bw (wr F 0 0 0) (fun F32 => bp (lpX5_gap_9 F32 FU 0 1) (fun z9_32 => bp (lpX5_gap_80 F32 FU z9_32.2 0) (fun z80_33 => some (z80_33.2, F32))))
def dnX5_isValue (x0 : Int32) : Option Int32 := bp (dnX5_isIn x0 (-999) 999) (fun r2 => rz r2)
def dnX5_set (F : gF) (x1 : Int32) (x2 : Int32) : Option (Int32 × gF) := bw (wr F 0 0 0) (fun F1 => bp (dnX5_isPlace F1 x1) (fun r3 => bs (dnX5_right F1 r3 1) (fun r5 F6 => if r5 = 0 then some (0, F6) else bp (dnX5_isValue x2) (fun r9 => bs (dnX5_right F6 r9 2) (fun r11 F12 => if r11 = 0 then some (0, F12) else bp (dnX5_change F12) (fun F15 => bs (dnX5_sets F15 x1 x2) (fun r17 F18 => some (r17, F18))))))))
def dnX5_ask (F : gF) (x1 : Int32) (x2 : Int32) : Option (Int32 × gF) := bw (wr F 0 0 0) (fun F1 => bs (dnX5_isStretch F1 x1 x2) (fun r3 F4 => if r3 = 0 then some (0, F4) else bp (dnX5_change F4) (fun F7 => bs (dnX5_asks F7 x1 x2) (fun r9 F10 => some (r9, F10)))))
def dnX5_keep (F : gF) (x1 : Int32) (x2 : Int32) : Option (Int32 × gF) := bw (wr F 0 0 0) (fun F1 => bs (dnX5_isStretch F1 x1 x2) (fun r3 F4 => if r3 = 0 then some (0, F4) else bp (dnX5_get F4 6) (fun r7 => if 8 ≤ r7 then bs (dnX5_right F4 0 3) (fun r10 F11 => if r10 = 0 then some (0, F11) else bp (dnX5_change F11) (fun F14 => bs (dnX5_keeps F14 x1 x2) (fun r16 F17 => some (r16, F17)))) else bs (dnX5_right F4 1 3) (fun r19 F20 => if r19 = 0 then some (0, F20) else bp (dnX5_change F20) (fun F23 => bs (dnX5_keeps F23 x1 x2) (fun r25 F26 => some (r25, F26)))))))
def dnX5_forget (F : gF) (x1 : Int32) : Option (Int32 × gF) := bw (wr F 0 0 0) (fun F1 => bp (dnX5_isKept F1 x1) (fun r3 => bs (dnX5_right F1 r3 1) (fun r5 F6 => if r5 = 0 then some (0, F6) else bp (dnX5_change F6) (fun F9 => bs (dnX5_forgets F9 x1) (fun r11 F12 => some (r11, F12))))))
def lpX5_sweep_91 : Nat → Int32 → Int32 → gF → Option (Nat × Int32 × gF)
  | 0, _, _, _ => none
  | n + 1, x2, x3, F => if x3 < 0 then some (0, x2, F) else ra 8 (F 5) x3 (fun v3 => if v3 = 0 then lpX5_sweep_91 n x2 (x3 + (-1)) F else bs (dnX5_forgets F x3) (fun r6 F7 => if 0 ≤ r6 then lpX5_sweep_91 n (x2 + 1) (x3 + (-1)) F7 else lpX5_sweep_91 n x2 (x3 + (-1)) F7))
def lpX5_sweep_31 (x1 : Int32) : Nat → Int32 → gF → Option (Nat × gF)
  | 0, _, _ => none
  | n + 1, x2, F => bp (dnX5_get F 6) (fun r10 => if r10 ≤ x2 then some (0, F) else bp (dnX5_keptFrom F x2) (fun r13 => bp (dnX5_keptTo F x2) (fun r15 => bs (dnX5_asks F r13 r15) (fun r17 F18 => bp (dnX5_valueAt F18 r17) (fun r20 => if x1 ≤ r20 then wi 8 x2 (fun j24 => bw (wr F18 5 j24 (vp_nar .boolean 0)) (fun F23 => lpX5_sweep_31 x1 n (x2 + 1) F23)) else wi 8 x2 (fun j27 => bw (wr F18 5 j27 (vp_nar .boolean 1)) (fun F26 => lpX5_sweep_31 x1 n (x2 + 1) F26)))))))
def dnX5_sweep (F : gF) (x1 : Int32) : Option (Int32 × gF) := bw (wr F 0 0 0) (fun F28 => bp (dnX5_isIn x1 (-999) 1000) (fun r30 => bs (dnX5_right F28 r30 1) (fun r32 F33 => if r32 = 0 then some (0, F33) else bp (dnX5_change F33) (fun F36 => bp (lpX5_sweep_31 x1 FU 0 F36) (fun z31_36 => bp (dnX5_get z31_36.2 6) (fun r39 => bp (lpX5_sweep_91 FU 0 (r39 - 1) z31_36.2) (fun z91_39 => some (z91_39.2.1, z91_39.2.2))))))))
def dnX5_put (F : gF) (x1 : Int32) (x2 : Int32) : Option (Int32 × gF) := bw (wr F 0 0 0) (fun F1 => bp (dnX5_size F1) (fun r3 => bp (dnX5_isIn x1 0 r3) (fun r5 => bs (dnX5_right F1 r5 1) (fun r7 F8 => if r7 = 0 then some (0, F8) else bp (dnX5_isValue x2) (fun r11 => bs (dnX5_right F8 r11 2) (fun r13 F14 => if r13 = 0 then some (0, F14) else bp (dnX5_size F14) (fun r17 => if 40 ≤ r17 then bs (dnX5_right F14 0 3) (fun r20 F21 => if r20 = 0 then some (0, F21) else bp (dnX5_change F21) (fun F24 => bs (dnX5_putsIn F24 x1 x2) (fun r26 F27 => some (r26, F27)))) else bs (dnX5_right F14 1 3) (fun r29 F30 => if r29 = 0 then some (0, F30) else bp (dnX5_change F30) (fun F33 => bs (dnX5_putsIn F33 x1 x2) (fun r35 F36 => some (r35, F36)))))))))))
def dnX5_take (F : gF) (x1 : Int32) : Option (Int32 × gF) := bw (wr F 0 0 0) (fun F1 => bp (dnX5_isPlace F1 x1) (fun r3 => bs (dnX5_right F1 r3 1) (fun r5 F6 => if r5 = 0 then some (0, F6) else bp (dnX5_size F6) (fun r9 => if r9 ≤ 1 then bs (dnX5_right F6 0 2) (fun r12 F13 => if r12 = 0 then some (0, F13) else bp (dnX5_change F13) (fun F16 => bs (dnX5_takesOut F16 x1) (fun r18 F19 => some (r18, F19)))) else bs (dnX5_right F6 1 2) (fun r21 F22 => if r21 = 0 then some (0, F22) else bp (dnX5_change F22) (fun F25 => bs (dnX5_takesOut F25 x1) (fun r27 F28 => some (r27, F28))))))))
def dnX5_rule (F : gF) (x1 : Int32) (x2 : Int32) : Option (Int32 × gF) := bw (wr F 0 0 0) (fun F1 => if x1 = 1 then bp (dnX5_isIn x2 0 2) (fun r38 => bs (dnX5_right F1 r38 1) (fun r40 F41 => if r40 = 0 then some (0, F41) else bp (dnX5_change F41) (fun F44 => bp (dnX5_get F44 x1) (fun r46 => bp (dnX5_put0 F44 x1 x2) (fun F48 => bp (dnX5_builds F48) (fun F50 => some (r46, F50))))))) else if x1 = 2 then bp (dnX5_isIn x2 1 8) (fun r15 => if r15 = 0 then bs (dnX5_right F1 0 1) (fun r18 F19 => if r18 = 0 then some (0, F19) else bp (dnX5_change F19) (fun F22 => bp (dnX5_get F22 x1) (fun r24 => bp (dnX5_put0 F22 x1 x2) (fun F26 => some (r24, F26))))) else bs (dnX5_right F1 1 1) (fun r28 F29 => if r28 = 0 then some (0, F29) else bp (dnX5_change F29) (fun F32 => bp (dnX5_get F32 x1) (fun r34 => bp (dnX5_put0 F32 x1 x2) (fun F36 => some (r34, F36)))))) else bs (dnX5_right F1 0 1) (fun r5 F6 => if r5 = 0 then some (0, F6) else bp (dnX5_change F6) (fun F9 => bp (dnX5_get F9 x1) (fun r11 => bp (dnX5_put0 F9 x1 x2) (fun F13 => some (r11, F13))))))
def dnX5_undo (F : gF) : Option (Int32 × gF) := bw (wr F 0 0 0) (fun F1 => if (F1 0 5) = 0 then some ((-1), F1) else bw (wr F1 0 5 ((F1 0 5) - 1)) (fun F3 => bw (wr F3 0 4 ((((F3 0 4) + 9) - 1) - (((F3 0 4) + 9) - 1) / 9 * 9)) (fun F4 => some (F4 0 5, F4))))
def dnX5_joins (x0 : Int64) (x2 : Int64) : Option Int64 := some ((31 * x0) + x2)
def lpX5_checksum_9 (F : gF) : Nat → Int64 → Int32 → Option (Nat × Int64)
  | 0, _, _ => none
  | n + 1, x1, x3 => if 11 ≤ x3 then some (0, x1) else bp (dnX5_toldOf F x3) (fun r3 => bp (dnX5_joins x1 r3.toInt64) (fun r5 => lpX5_checksum_9 F n r5 (x3 + 1)))
def lpX5_checksum_83 (F : gF) (x3 : Int32) : Nat → Int64 → Int32 → Option (Nat × Int64)
  | 0, _, _ => none
  | n + 1, x1, x4 => bp (dnX5_cellsOn F x3) (fun r7 => if r7 ≤ x4 then some (0, x1) else bp (dnX5_cellAt x3 x4) (fun r10 => bp (dnX5_get F r10) (fun r12 => bp (dnX5_joins x1 r12.toInt64) (fun r14 => lpX5_checksum_83 F x3 n r14 (x4 + 1)))))
def lpX5_checksum_123 (F : gF) : Nat → Int64 → Int32 → Option (Nat × Int64)
  | 0, _, _ => none
  | n + 1, x1, x3 => bp (dnX5_get F 6) (fun r16 => if r16 ≤ x3 then some (0, x1) else bp (dnX5_keptFrom F x3) (fun r19 => bp (dnX5_keptTo F x3) (fun r21 => bp (dnX5_joins x1 (((100 * r19) + r21).toInt64)) (fun r23 => lpX5_checksum_123 F n r23 (x3 + 1)))))
def lpX5_checksum_34 (F : gF) : Nat → Int64 → Int32 → Option (Nat × Int64)
  | 0, _, _ => none
  | n + 1, x1, x3 => bp (dnX5_size F) (fun r25 => if r25 ≤ x3 then some (0, x1) else bp (dnX5_valueAt F x3) (fun r28 => bp (dnX5_joins x1 r28.toInt64) (fun r30 => bp (dnX5_get F (52 + x3)) (fun r32 => bp (dnX5_joins r30 r32.toInt64) (fun r34 => lpX5_checksum_34 F n r34 (x3 + 1))))))
def lpX5_checksum_75 (F : gF) : Nat → Int64 → Int32 → Option (Nat × Int64)
  | 0, _, _ => none
  | n + 1, x1, x3 => if 5 < x3 then some (0, x1) else bp (lpX5_checksum_83 F x3 FU x1 0) (fun z83_35 => lpX5_checksum_75 F n z83_35.2 (x3 + 1))
def dnX5_checksum (F : gF) : Option (Int64 × gF) := bw (wr F 0 0 0) (fun F37 => bp (lpX5_checksum_9 F37 FU 0 0) (fun z9_37 => bp (lpX5_checksum_34 F37 FU z9_37.2 0) (fun z34_38 => bp (lpX5_checksum_75 F37 FU z34_38.2 1) (fun z75_39 => bp (lpX5_checksum_123 F37 FU z75_39.2 0) (fun z123_40 => some (z123_40.2, F37))))))
