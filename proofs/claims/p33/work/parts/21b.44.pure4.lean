theorem valueB {V : gX} {F : gF} {w n kc p : Nat} (hM : MS F w) (hW : WF (row F w) n kc) (hR : RR V.2.1 (row F w) n kc) (hp : p < n) : dnX1_valueAt V.2.1 (nI p) = dnX5_valueAt F (nI p) := by
  have := hW.1.2.1
  rw [valueC (by omega), valueM hM (by omega), hR.2.1 p hp]
theorem sub_neg (p : Nat) (hp : p < 1000) : nI p - nI (p + 1) < 0 := by
  rw [Int32.lt_iff_toInt_lt, Int32.toInt_sub, nI_toInt (by omega), nI_toInt (by omega), show (0 : Int32).toInt = 0 from by decide, Int.bmod_def]
  split <;> omega