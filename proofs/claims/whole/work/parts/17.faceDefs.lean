def fd32 {β : Type} (x y : UInt32) (k : UInt32 → Option β) : Option β := if FP.fdiv x y &&& 0x7fffffff ≤ 0x7f800000 then k (FP.fdiv x y) else none
theorem fd_e {β : Type} {x y : UInt32} {k : UInt32 → Option β} {r : β} (h : fd32 x y k = some r) : vf_n32 (FP.fdiv x y) ∧ k (FP.fdiv x y) = some r := by
  unfold fd32 at h
  by_cases c : FP.fdiv x y &&& 0x7fffffff ≤ 0x7f800000
  · rw [if_pos c] at h; exact ⟨c, h⟩
  · rw [if_neg c] at h; cases h
def dnX4_append (V : gX) (x1 : Int32) (x2 : Int32) (x3 : Int32) (x4 : Int32) (x5 : Int32) : Option (Int32 × gX) := if (V.2.2.1.1 0 1) ≤ 480 then bp (dnX2_addWord V.2.2.1 x1) (fun D3 => bp (dnX2_addWord D3 x2) (fun D5 => bp (dnX2_addWord D5 x3) (fun D7 => bp (dnX2_addWord D7 x4) (fun D9 => bp (dnX2_addWord D9 x5) (fun D11 => some (D11.1 0 1, (V.1, V.2.1, D11, V.2.2.2))))))) else some ((-1), V)
def dnX4_load (V : gX) (x1 : Int32) : Option (oX (Int32 × gX)) := if x1 < 0 then some (.inl "java/lang/IllegalArgumentException") else if x1 ≤ (V.2.2.1.1 0 1) then bs (dnX2_read V.2.2.1 x1) (fun r4 D5 => bw (wr D5.1 0 1 0) (fun F6 => bw (wr V.1 0 3 (F6 0 4)) (fun F7 => if (F6 0 3) = 0 then wi 8 (V.2.2.2.1 0 1) (fun j11 => bw (hSave V.2.2.2.1, va_up V.2.2.2.2 j11 V.2.1) (fun H13 => some (.inr (r4, (F7, D5.2, (F6, D5.2), H13))))) else some (.inr (r4, (F7, V.2.1, (F6, D5.2), V.2.2.2)))))) else some (.inl "java/lang/IllegalArgumentException")
def dnX4_errorOffset (V : gX) : Option Int32 := some (V.1 0 3)
def dnX4_numberOfState (V : gX) (x1 : Int32) : Option Int32 := if x1 = 0 then some (V.2.1.1 0 3) else if x1 = 1 then some (V.2.1.1 0 4) else if x1 = 2 then some (V.2.1.1 0 5) else if x1 = 3 then bp (dnX4_greatestLevel (V.2.1.1 0 3)) (fun r6 => some (r6 + 1)) else if x1 = 4 then bp (dnX1_cellCount V.2.1) (fun r9 => some r9) else if x1 = 5 then bp (dnJ13_bitCount_95d88 V.2.1.2) (fun r12 => some r12) else if x1 = 6 then some (V.2.1.1 3 2) else if x1 = 7 then some (V.2.1.1 0 7) else if x1 = 8 then some (V.2.1.1 0 8) else if x1 = 9 then some (V.2.1.1 0 9) else some (V.2.1.1 0 10)
def dnX4_state (V : gX) (x1 : Int32) : Option (oX Int32) := if x1 < 0 then some (.inl "java/lang/IllegalArgumentException") else if x1 < 11 then bp (dnX4_numberOfState V x1) (fun r4 => some (.inr r4)) else some (.inl "java/lang/IllegalArgumentException")
def dnX4_demandPlace (V : gX) (x1 : Int32) : Option (oX Unit) := bp (dnX1_isPlace V.2.1 x1) (fun r2 => if r2 = 0 then some (.inl "java/lang/IndexOutOfBoundsException") else some (.inr ()))
def dnX4_value (V : gX) (x1 : Int32) : Option (oX Int32) := bx (dnX4_demandPlace V x1) (fun _ => bp (dnX1_valueAt V.2.1 x1) (fun r4 => some (.inr r4)))
def dnX4_cell (V : gX) (x1 : Int32) (x2 : Int32) : Option (oX Int32) := bx (dnX4_demandPlace V x2) (fun _ => bp (dnX1_hasCell V.2.1 x1 x2) (fun r4 => if r4 = 0 then some (.inl "java/util/NoSuchElementException") else bp (dnX1_cellAt V.2.1 x1 x2) (fun r7 => some (.inr r7))))
def dnX4_waits (V : gX) (x1 : Int32) : Option (oX Int32) := bx (dnX4_demandPlace V x1) (fun _ => bp (dnX1_isWaiting V.2.1 x1) (fun r4 => rzx r4))
def dnX4_demandStretch (V : gX) (x1 : Int32) (x2 : Int32) : Option (oX Unit) := bx (dnX4_demandPlace V x1) (fun _ => bx (dnX4_demandPlace V x2) (fun _ => if x1 ≤ x2 then some (.inr ()) else some (.inl "java/lang/IllegalArgumentException")))
def dnX4_least (V : gX) (x1 : Int32) (x2 : Int32) : Option (oX Int32) := bx (dnX4_demandStretch V x1 x2) (fun _ => bp (dnX1_leastByValues V.2.1 x1 x2) (fun r4 => some (.inr r4)))
def dnX4_looks (V : gX) (x1 : Int32) (x2 : Int32) : Option (oX Int32) := bx (dnX4_demandStretch V x1 x2) (fun _ => bp (dnX1_waitingAtQuestion V.2.1) (fun r4 => bp (dnX4_looksFor x1 x2 r4) (fun r6 => some (.inr r6))))
def dnX4_writes (V : gX) : Option Int32 := bp (dnX1_isBuiltByQuestion V.2.1) (fun r2 => if r2 = 0 then some 0 else bp (dnX1_cellCount V.2.1) (fun r5 => some r5))
def lpX4_cellsOver_4 (V : gX) (x1 : Int32) : Nat → Int32 → Int32 → Option (Nat × Int32)
  | 0, _, _ => none
  | n + 1, x2, x3 => if 6 ≤ x3 then some (0, x2) else bp (dnX1_lastCellOver V.2.1 x3 x1) (fun r3 => bp (dnX4_firstCellOver x3 x1) (fun r5 => lpX4_cellsOver_4 V x1 n (x2 + (if 0 < ((r3 - r5) + 1) then ((r3 - r5) + 1) else 0)) (x3 + 1)))
def dnX4_cellsOver (V : gX) (x1 : Int32) : Option Int32 := bp (lpX4_cellsOver_4 V x1 FU 0 1) (fun z4_5 => some z4_5.2)
def dnX4_above (V : gX) (x1 : Int32) : Option (oX Int32) := bx (dnX4_demandPlace V x1) (fun _ => bp (dnX4_cellsOver V x1) (fun r4 => some (.inr r4)))
def lpX4_lessBehind_9 (V : gX) (x1 : Int32) : Nat → Int32 → Option (Nat × Int32)
  | 0, _ => none
  | n + 1, x2 => if (V.2.1.1 0 3) ≤ x2 then some (1, x2) else bp (dnX1_valueAt V.2.1 x2) (fun r3 => bp (dnX1_valueAt V.2.1 x1) (fun r5 => if r5 ≤ r3 then lpX4_lessBehind_9 V x1 n (x2 + 1) else some (0, x2)))
def dnX4_lessBehind (V : gX) (x1 : Int32) : Option (oX Int32) := bx (dnX4_demandPlace V x1) (fun _ => bp (lpX4_lessBehind_9 V x1 FU (x1 + 1)) (fun z9_8 => if z9_8.1 = 0 then some (.inr z9_8.2) else some (.inr (-1))))
def lpX4_rules_16 (V : gX) (x1 : Int32) (x2 : Int32) : Nat → Int32 → Option (Nat × Int32)
  | 0, _ => none
  | n + 1, x3 => if x1 < x3 then some (0, x3) else bp (dnX1_valueAt V.2.1 (x1 - x3)) (fun r3 => if r3 ≤ x2 then some (0, x3) else lpX4_rules_16 V x1 x2 n (x3 + 1))
def lpX4_rules_44 (V : gX) (x1 : Int32) (x2 : Int32) (x3 : Int32) : Nat → Int32 → Option (Nat × Int32)
  | 0, _ => none
  | n + 1, x4 => if (V.2.1.1 0 3) ≤ (x1 + x4) then some (0, x4) else bp (dnX1_valueAt V.2.1 (x1 + x4)) (fun r7 => if r7 < x2 then some (0, x4) else lpX4_rules_44 V x1 x2 x3 n (x4 + 1))
def dnX4_rules (V : gX) (x1 : Int32) : Option (oX Int32) := bx (dnX4_demandPlace V x1) (fun _ => bp (dnX1_valueAt V.2.1 x1) (fun r12 => bp (lpX4_rules_16 V x1 r12 FU 1) (fun z16_12 => bp (lpX4_rules_44 V x1 r12 z16_12.2 FU 1) (fun z44_13 => some (.inr (z16_12.2 * z44_13.2))))))
def lpX4_sum_11 (V : gX) (x2 : Int32) : Nat → Int32 → Int32 → Option (Nat × Int32)
  | 0, _, _ => none
  | n + 1, x3, x4 => if x2 < x4 then some (0, x3) else bp (dnX1_valueAt V.2.1 x4) (fun r3 => lpX4_sum_11 V x2 n (x3 + r3) (x4 + 1))
def dnX4_sum (V : gX) (x1 : Int32) (x2 : Int32) : Option (oX Int32) := bx (dnX4_demandStretch V x1 x2) (fun _ => bp (lpX4_sum_11 V x2 FU 0 x1) (fun z11_5 => some (.inr z11_5.2)))
def dnX4_demandKept (V : gX) (x1 : Int32) : Option (oX Unit) := if x1 < 0 then some (.inl "java/util/NoSuchElementException") else if x1 < (V.2.1.1 3 2) then some (.inr ()) else some (.inl "java/util/NoSuchElementException")
def dnX4_keptAsNumber (V : gX) (x1 : Int32) : Option Int32 := bp (dnX3_fromAt V.2.1 x1) (fun r2 => bp (dnX3_toAt V.2.1 x1) (fun r4 => some ((100 * r2) + r4)))
def dnX4_kept (V : gX) (x1 : Int32) : Option (oX Int32) := bx (dnX4_demandKept V x1) (fun _ => bp (dnX4_keptAsNumber V x1) (fun r4 => some (.inr r4)))
def lpX4_looksForKept_5 (V : gX) (x1 : Int64) : Nat → Int32 → Int32 → Option (Nat × Int32)
  | 0, _, _ => none
  | n + 1, x3, x4 => if (V.2.1.1 3 2) ≤ x4 then some (0, x3) else bp (dnX3_fromAt V.2.1 x4) (fun r3 => bp (dnX3_toAt V.2.1 x4) (fun r5 => bp (dnX4_looksFor r3 r5 x1) (fun r7 => lpX4_looksForKept_5 V x1 n (x3 + r7) (x4 + 1))))
def dnX4_looksForKept (V : gX) (x1 : Int64) : Option Int32 := bp (lpX4_looksForKept_5 V x1 FU 0 0) (fun z5_7 => some z5_7.2)
def dnX4_looksOfKept (V : gX) : Option Int32 := bp (dnX1_waitingAtQuestion V.2.1) (fun r2 => bp (dnX4_looksForKept V r2) (fun r4 => some r4))
def dnX4_bestRule (V : gX) (x1 : Int32) : Option (oX Int32) := bx (dnX4_demandPlace V x1) (fun _ => bp (dnX4_looksForKept V 0) (fun r4 => if (V.2.1.1 3 2) = 0 then bp (dnX4_cellsOver V x1) (fun r17 => bp (dnX4_looksForKept V ((1 : Int64) <<< (x1.toInt64 &&& 63))) (fun r19 => if (r17 + r4) < 0 then if r19 < (r17 + r4) then some (.inr 2) else some (.inr 1) else if r19 < 0 then if r19 < (r17 + r4) then some (.inr 2) else some (.inr 1) else some (.inr 0))) else bp (dnX1_cellCount V.2.1) (fun r7 => bp (dnX4_cellsOver V x1) (fun r9 => bp (dnX4_looksForKept V ((1 : Int64) <<< (x1.toInt64 &&& 63))) (fun r11 => if (r9 + r4) < (r7 + r4) then if r11 < (r9 + r4) then some (.inr 2) else some (.inr 1) else if r11 < (r7 + r4) then if r11 < (r9 + r4) then some (.inr 2) else some (.inr 1) else some (.inr 0))))))
def lpX4_placesAheadOf_4 (V : gX) (x1 : Int32) : Nat → Int32 → Int32 → Option (Nat × Int32)
  | 0, _, _ => none
  | n + 1, x2, x3 => if (V.2.1.1 0 3) ≤ x3 then some (0, x2) else if x3 = x1 then lpX4_placesAheadOf_4 V x1 n x2 (x3 + 1) else bp (dnX1_lesser V.2.1 x3 x1) (fun r4 => if r4 = x3 then lpX4_placesAheadOf_4 V x1 n (x2 + 1) (x3 + 1) else lpX4_placesAheadOf_4 V x1 n x2 (x3 + 1))
def dnX4_placesAheadOf (V : gX) (x1 : Int32) : Option Int32 := bp (lpX4_placesAheadOf_4 V x1 FU 0 0) (fun z4_5 => some z4_5.2)
def lpX4_ranked_23 (V : gX) (x1 : Int32) : Nat → Int32 → Option (Nat × Int32)
  | 0, _ => none
  | n + 1, x2 => if (V.2.1.1 0 3) ≤ x2 then some (1, x2) else bp (dnX4_placesAheadOf V x2) (fun r3 => if r3 = x1 then some (0, x2) else lpX4_ranked_23 V x1 n (x2 + 1))
def dnX4_ranked (V : gX) (x1 : Int32) : Option (oX Int32) := bp (dnX1_isPlace V.2.1 x1) (fun r6 => if r6 = 0 then some (.inl "java/util/NoSuchElementException") else bp (lpX4_ranked_23 V x1 FU 0) (fun z23_7 => if z23_7.1 = 0 then some (.inr z23_7.2) else some (.inr (-1))))
def lpX4_gap_22 (V : gX) (x2 : Int32) (x3 : Int32) : Nat → Int32 → Int32 → Option (Nat × Int32)
  | 0, _, _ => none
  | n + 1, x1, x4 => if x3 ≤ x4 then some (0, x1) else bp (dnX1_isCellWrong V.2.1 x2 x4) (fun r3 => if r3 = 0 then lpX4_gap_22 V x2 x3 n (x1 + 0) (x4 + 1) else lpX4_gap_22 V x2 x3 n (x1 + 1) (x4 + 1))
def lpX4_gap_63 (V : gX) : Nat → Int32 → Int32 → Option (Nat × Int32)
  | 0, _, _ => none
  | n + 1, x1, x2 => if (V.2.1.1 3 2) ≤ x2 then some (0, x1) else bp (dnX3_fromAt V.2.1 x2) (fun r7 => bp (dnX3_toAt V.2.1 x2) (fun r9 => bp (dnX1_hasStretch V.2.1 r7 r9) (fun r11 => if r11 = 0 then lpX4_gap_63 V n (x1 + 1) (x2 + 1) else lpX4_gap_63 V n (x1 + 0) (x2 + 1))))
def lpX4_gap_4 (V : gX) : Nat → Int32 → Int32 → Option (Nat × Int32)
  | 0, _, _ => none
  | n + 1, x1, x2 => if 6 ≤ x2 then some (0, x1) else bp (dnX1_cellsOnLevel V.2.1 x2) (fun r15 => bp (lpX4_gap_22 V x2 r15 FU x1 0) (fun z22_15 => lpX4_gap_4 V n z22_15.2 (x2 + 1)))
def dnX4_gap (V : gX) : Option Int32 := bp (lpX4_gap_4 V FU 0 1) (fun z4_16 => bp (lpX4_gap_63 V FU z4_16.2 0) (fun z63_17 => some z63_17.2))
def dnX4_costOfOne (V : gX) : Option UInt32 := if (V.2.1.1 0 9) = 0 then some FP.fconst0 else fd32 (FP.i2f ((V.2.1.1 0 7) + (V.2.1.1 0 8))) (FP.i2f (V.2.1.1 0 9)) (fun v3 => some v3)
def dnX4_demandValue (V : gX) (x1 : Int32) : Option (oX Unit) := if x1 < (-999) then some (.inl "java/lang/IllegalArgumentException") else if x1 ≤ 999 then some (.inr ()) else some (.inl "java/lang/IllegalArgumentException")
def dnX4_set (V : gX) (x1 : Int32) (x2 : Int32) : Option (oX (Int32 × gX)) := bx (dnX4_demandPlace V x1) (fun _ => bx (dnX4_demandValue V x2) (fun _ => wi 8 (V.2.2.2.1 0 1) (fun j7 => bw (hSave V.2.2.2.1, va_up V.2.2.2.2 j7 V.2.1) (fun H9 => bs (dnX1_change V.2.1 x1 x2) (fun r11 G12 => some (.inr (r11, (V.1, G12, V.2.2.1, H9))))))))
def dnX4_ask (V : gX) (x1 : Int32) (x2 : Int32) : Option (oX (Int32 × gX)) := bx (dnX4_demandStretch V x1 x2) (fun _ => wi 8 (V.2.2.2.1 0 1) (fun j5 => bw (hSave V.2.2.2.1, va_up V.2.2.2.2 j5 V.2.1) (fun H7 => bs (dnX1_question V.2.1 x1 x2) (fun r9 G10 => some (.inr (r9, (V.1, G10, V.2.2.1, H7)))))))
def dnX4_keep (V : gX) (x1 : Int32) (x2 : Int32) : Option (oX (Int32 × gX)) := bx (dnX4_demandStretch V x1 x2) (fun _ => if (V.2.1.1 3 2) < 8 then wi 8 (V.2.2.2.1 0 1) (fun j6 => bw (hSave V.2.2.2.1, va_up V.2.2.2.2 j6 V.2.1) (fun H8 => bp (dnX3_add V.2.1 x1 x2) (fun G10 => some (.inr (G10.1 3 2, (V.1, G10, V.2.2.1, H8)))))) else some (.inl "java/lang/IllegalStateException"))
def dnX4_forget (V : gX) (x1 : Int32) : Option (oX (Int32 × gX)) := bx (dnX4_demandKept V x1) (fun _ => wi 8 (V.2.2.2.1 0 1) (fun j5 => bw (hSave V.2.2.2.1, va_up V.2.2.2.2 j5 V.2.1) (fun H7 => bp (dnX3_removeAt V.2.1 x1) (fun G9 => some (.inr (G9.1 3 2, (V.1, G9, V.2.2.1, H7)))))))
def dnX4_sweep (V : gX) (x1 : Int32) : Option (oX (Int32 × gX)) := if x1 < (-999) then some (.inl "java/lang/IllegalArgumentException") else if x1 ≤ 1000 then wi 8 (V.2.2.2.1 0 1) (fun j5 => bw (hSave V.2.2.2.1, va_up V.2.2.2.2 j5 V.2.1) (fun H7 => bs (dnX1_askAndDropBelow V.2.1 x1) (fun r9 G10 => some (.inr (r9, (V.1, G10, V.2.2.1, H7)))))) else some (.inl "java/lang/IllegalArgumentException")
def dnX4_put (V : gX) (x1 : Int32) (x2 : Int32) : Option (oX (Int32 × gX)) := if x1 = (V.2.1.1 0 3) then bx (dnX4_demandValue V x2) (fun _ => if (V.2.1.1 0 3) < 40 then wi 8 (V.2.2.2.1 0 1) (fun j7 => bw (hSave V.2.2.2.1, va_up V.2.2.2.2 j7 V.2.1) (fun H9 => bp (dnX1_insert V.2.1 x1 x2) (fun G11 => some (.inr (G11.1 0 3, (V.1, G11, V.2.2.1, H9)))))) else some (.inl "java/lang/IllegalStateException")) else bx (dnX4_demandPlace V x1) (fun _ => bx (dnX4_demandValue V x2) (fun _ => if (V.2.1.1 0 3) < 40 then wi 8 (V.2.2.2.1 0 1) (fun j19 => bw (hSave V.2.2.2.1, va_up V.2.2.2.2 j19 V.2.1) (fun H21 => bp (dnX1_insert V.2.1 x1 x2) (fun G23 => some (.inr (G23.1 0 3, (V.1, G23, V.2.2.1, H21)))))) else some (.inl "java/lang/IllegalStateException")))
def dnX4_take (V : gX) (x1 : Int32) : Option (oX (Int32 × gX)) := bx (dnX4_demandPlace V x1) (fun _ => if (V.2.1.1 0 3) = 1 then some (.inl "java/lang/IllegalStateException") else wi 8 (V.2.2.2.1 0 1) (fun j6 => bw (hSave V.2.2.2.1, va_up V.2.2.2.2 j6 V.2.1) (fun H8 => bs (dnX1_remove V.2.1 x1) (fun r10 G11 => some (.inr (r10, (V.1, G11, V.2.2.1, H8)))))))
def dnX4_rule (V : gX) (x1 : Int32) (x2 : Int32) : Option (oX (Int32 × gX)) := if x1 = 1 then if x2 < 0 then if x1 = 2 then if x2 < 1 then some (.inl "java/lang/IllegalArgumentException") else if 8 < x2 then some (.inl "java/lang/IllegalArgumentException") else wi 8 (V.2.2.2.1 0 1) (fun j19 => bw (hSave V.2.2.2.1, va_up V.2.2.2.2 j19 V.2.1) (fun H21 => bs (dnX1_changeMost V.2.1 x2) (fun r23 G24 => some (.inr (r23, (V.1, G24, V.2.2.1, H21)))))) else some (.inl "java/lang/IllegalArgumentException") else if 2 < x2 then if x1 = 2 then if x2 < 1 then some (.inl "java/lang/IllegalArgumentException") else if 8 < x2 then some (.inl "java/lang/IllegalArgumentException") else wi 8 (V.2.2.2.1 0 1) (fun j31 => bw (hSave V.2.2.2.1, va_up V.2.2.2.2 j31 V.2.1) (fun H33 => bs (dnX1_changeMost V.2.1 x2) (fun r35 G36 => some (.inr (r35, (V.1, G36, V.2.2.1, H33)))))) else some (.inl "java/lang/IllegalArgumentException") else if x1 = 2 then if x2 < 1 then wi 8 (V.2.2.2.1 0 1) (fun j49 => bw (hSave V.2.2.2.1, va_up V.2.2.2.2 j49 V.2.1) (fun H51 => bs (dnX1_changeRule V.2.1 x2) (fun r53 G54 => some (.inr (r53, (V.1, G54, V.2.2.1, H51)))))) else if 8 < x2 then wi 8 (V.2.2.2.1 0 1) (fun j58 => bw (hSave V.2.2.2.1, va_up V.2.2.2.2 j58 V.2.1) (fun H60 => bs (dnX1_changeRule V.2.1 x2) (fun r62 G63 => some (.inr (r62, (V.1, G63, V.2.2.1, H60)))))) else wi 8 (V.2.2.2.1 0 1) (fun j66 => bw (hSave V.2.2.2.1, va_up V.2.2.2.2 j66 V.2.1) (fun H68 => bs (dnX1_changeRule V.2.1 x2) (fun r70 G71 => some (.inr (r70, (V.1, G71, V.2.2.1, H68)))))) else wi 8 (V.2.2.2.1 0 1) (fun j40 => bw (hSave V.2.2.2.1, va_up V.2.2.2.2 j40 V.2.1) (fun H42 => bs (dnX1_changeRule V.2.1 x2) (fun r44 G45 => some (.inr (r44, (V.1, G45, V.2.2.1, H42)))))) else if x1 = 2 then if x2 < 1 then some (.inl "java/lang/IllegalArgumentException") else if 8 < x2 then some (.inl "java/lang/IllegalArgumentException") else wi 8 (V.2.2.2.1 0 1) (fun j7 => bw (hSave V.2.2.2.1, va_up V.2.2.2.2 j7 V.2.1) (fun H9 => bs (dnX1_changeMost V.2.1 x2) (fun r11 G12 => some (.inr (r11, (V.1, G12, V.2.2.1, H9)))))) else some (.inl "java/lang/IllegalArgumentException")
def dnX4_undo (V : gX) : Option (Int32 × gX) := wi 8 (hBack V.2.2.2.1) (fun j3 => bw (if V.2.2.2.1 0 2 = 0 then V.2.2.2.1 else hUndo V.2.2.2.1, V.2.2.2.2) (fun H5 => bw (if V.2.2.2.1 0 2 = 0 then V.2.1 else V.2.2.2.2 j3) (fun G6 => if (if V.2.2.2.1 0 2 = 0 then (0 : Int32) else 1) = 0 then some ((-1), (V.1, G6, V.2.2.1, H5)) else some (H5.1 0 2, (V.1, G6, V.2.2.1, H5)))))
def lpX4_checksum_4 (V : gX) : Nat → Int64 → Int32 → Option (Nat × Int64)
  | 0, _, _ => none
  | n + 1, x1, x3 => if 11 ≤ x3 then some (0, x1) else bp (dnX4_numberOfState V x3) (fun r3 => lpX4_checksum_4 V n ((31 * x1) + r3.toInt64) (x3 + 1))
def lpX4_checksum_109 (V : gX) (x3 : Int32) (x4 : Int32) : Nat → Int64 → Int32 → Option (Nat × Int64)
  | 0, _, _ => none
  | n + 1, x1, x5 => if x4 ≤ x5 then some (0, x1) else bp (dnX1_cellAt V.2.1 x3 x5) (fun r6 => lpX4_checksum_109 V x3 x4 n ((31 * x1) + r6.toInt64) (x5 + 1))
def lpX4_checksum_148 (V : gX) : Nat → Int64 → Int32 → Option (Nat × Int64)
  | 0, _, _ => none
  | n + 1, x1, x3 => if (V.2.1.1 3 2) ≤ x3 then some (0, x1) else bp (dnX4_keptAsNumber V x3) (fun r9 => lpX4_checksum_148 V n ((31 * x1) + r9.toInt64) (x3 + 1))
def lpX4_checksum_90 (V : gX) : Nat → Int64 → Int32 → Option (Nat × Int64)
  | 0, _, _ => none
  | n + 1, x1, x3 => if 6 ≤ x3 then some (0, x1) else bp (dnX1_cellsOnLevel V.2.1 x3) (fun r12 => bp (lpX4_checksum_109 V x3 r12 FU x1 0) (fun z109_12 => lpX4_checksum_90 V n z109_12.2 (x3 + 1)))
def lpX4_checksum_31 (V : gX) : Nat → Int64 → Int32 → Option (Nat × Int64)
  | 0, _, _ => none
  | n + 1, x1, x3 => if (V.2.1.1 0 3) ≤ x3 then some (0, x1) else bp (dnX1_valueAt V.2.1 x3) (fun r16 => bp (dnX1_isWaiting V.2.1 x3) (fun r18 => if r18 = 0 then lpX4_checksum_31 V n ((31 * ((31 * x1) + r16.toInt64)) + ((0 : Int32).toInt64)) (x3 + 1) else lpX4_checksum_31 V n ((31 * ((31 * x1) + r16.toInt64)) + ((1 : Int32).toInt64)) (x3 + 1)))
def dnX4_checksum (V : gX) : Option Int64 := bp (lpX4_checksum_4 V FU 0 0) (fun z4_19 => bp (lpX4_checksum_31 V FU z4_19.2 0) (fun z31_20 => bp (lpX4_checksum_90 V FU z31_20.2 1) (fun z90_21 => bp (lpX4_checksum_148 V FU z90_21.2 0) (fun z148_22 => some z148_22.2))))
def dnX5_costOfOne (F : gF) : Option (UInt32 × gF) := bw (wr F 0 0 0) (fun F1 => bp (dnX5_get F1 9) (fun r3 => if r3 = 0 then some (FP.fconst0, F1) else bp (dnX5_get F1 7) (fun r6 => bp (dnX5_get F1 8) (fun r8 => bp (dnX5_get F1 9) (fun r10 => fd32 (FP.i2f (r6 + r8)) (FP.i2f r10) (fun v12 => some (v12, F1)))))))
