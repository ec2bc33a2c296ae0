/-! ===== the mean: no NaN comes of it ===== -/
def nanOk (b a : Nat) : Bool := decide (FP.ddiv (FP.i2d (Int32.ofInt ((a : Int) - ((50 * b : Nat) : Int)))) (FP.i2d (nI b)) &&& 0x7fffffffffffffff ≤ 0x7ff0000000000000) && decide (FP.dcmp (FP.ddiv (FP.i2d (Int32.ofInt ((a : Int) - ((50 * b : Nat) : Int)))) (FP.i2d (nI b))) (FP.ddiv (FP.i2d (Int32.ofInt ((a : Int) - ((50 * b : Nat) : Int)))) (FP.i2d (nI b))) = some Ordering.eq)
theorem nan_1 : (List.range 101).all (nanOk 1) = true := by decide +kernel
theorem nan_2 : (List.range 201).all (nanOk 2) = true := by decide +kernel
theorem nan_3 : (List.range 301).all (nanOk 3) = true := by decide +kernel
theorem nan_4 : (List.range 401).all (nanOk 4) = true := by decide +kernel
theorem nan_5 : (List.range 501).all (nanOk 5) = true := by decide +kernel
theorem nan_6 : (List.range 601).all (nanOk 6) = true := by decide +kernel
theorem nan_7 : (List.range 701).all (nanOk 7) = true := by decide +kernel
theorem nan_8 : (List.range 801).all (nanOk 8) = true := by decide +kernel
theorem nan_9 : (List.range 901).all (nanOk 9) = true := by decide +kernel
theorem nan_10 : (List.range 1001).all (nanOk 10) = true := by decide +kernel
theorem nan_11 : (List.range 1101).all (nanOk 11) = true := by decide +kernel
theorem nan_12 : (List.range 1201).all (nanOk 12) = true := by decide +kernel
theorem nan_13 : (List.range 1301).all (nanOk 13) = true := by decide +kernel
theorem nan_14 : (List.range 1401).all (nanOk 14) = true := by decide +kernel
theorem nan_15 : (List.range 1501).all (nanOk 15) = true := by decide +kernel
theorem nan_16 : (List.range 1601).all (nanOk 16) = true := by decide +kernel
theorem nan_17 : (List.range 1701).all (nanOk 17) = true := by decide +kernel
theorem nan_18 : (List.range 1801).all (nanOk 18) = true := by decide +kernel
theorem nan_19 : (List.range 1901).all (nanOk 19) = true := by decide +kernel
theorem nan_20 : (List.range 2001).all (nanOk 20) = true := by decide +kernel
theorem nan_all {b a : Nat} (h0 : 0 < b) (h : b ≤ 20) (ha : a ≤ 100 * b) : nanOk b a = true := by
  rcases (by omega : b = 1 ∨ b = 2 ∨ b = 3 ∨ b = 4 ∨ b = 5 ∨ b = 6 ∨ b = 7 ∨ b = 8 ∨ b = 9 ∨ b = 10 ∨ b = 11 ∨ b = 12 ∨ b = 13 ∨ b = 14 ∨ b = 15 ∨ b = 16 ∨ b = 17 ∨ b = 18 ∨ b = 19 ∨ b = 20) with rfl | rfl | rfl | rfl | rfl | rfl | rfl | rfl | rfl | rfl | rfl | rfl | rfl | rfl | rfl | rfl | rfl | rfl | rfl | rfl
  · exact List.all_eq_true.mp nan_1 a (List.mem_range.mpr (by omega))
  · exact List.all_eq_true.mp nan_2 a (List.mem_range.mpr (by omega))
  · exact List.all_eq_true.mp nan_3 a (List.mem_range.mpr (by omega))
  · exact List.all_eq_true.mp nan_4 a (List.mem_range.mpr (by omega))
  · exact List.all_eq_true.mp nan_5 a (List.mem_range.mpr (by omega))
  · exact List.all_eq_true.mp nan_6 a (List.mem_range.mpr (by omega))
  · exact List.all_eq_true.mp nan_7 a (List.mem_range.mpr (by omega))
  · exact List.all_eq_true.mp nan_8 a (List.mem_range.mpr (by omega))
  · exact List.all_eq_true.mp nan_9 a (List.mem_range.mpr (by omega))
  · exact List.all_eq_true.mp nan_10 a (List.mem_range.mpr (by omega))
  · exact List.all_eq_true.mp nan_11 a (List.mem_range.mpr (by omega))
  · exact List.all_eq_true.mp nan_12 a (List.mem_range.mpr (by omega))
  · exact List.all_eq_true.mp nan_13 a (List.mem_range.mpr (by omega))
  · exact List.all_eq_true.mp nan_14 a (List.mem_range.mpr (by omega))
  · exact List.all_eq_true.mp nan_15 a (List.mem_range.mpr (by omega))
  · exact List.all_eq_true.mp nan_16 a (List.mem_range.mpr (by omega))
  · exact List.all_eq_true.mp nan_17 a (List.mem_range.mpr (by omega))
  · exact List.all_eq_true.mp nan_18 a (List.mem_range.mpr (by omega))
  · exact List.all_eq_true.mp nan_19 a (List.mem_range.mpr (by omega))
  · exact List.all_eq_true.mp nan_20 a (List.mem_range.mpr (by omega))
