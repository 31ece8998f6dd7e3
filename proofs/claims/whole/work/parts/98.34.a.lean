/-! Every instruction of the program, checked. -/
theorem mChk_0 : ((List.range 8).all fun y => mChkM (y + 0)) = true := by decide +kernel
theorem mChk_1 : ((List.range 8).all fun y => mChkM (y + 8)) = true := by decide +kernel
theorem mChk_2 : ((List.range 8).all fun y => mChkM (y + 16)) = true := by decide +kernel
theorem mChk_3 : ((List.range 8).all fun y => mChkM (y + 24)) = true := by decide +kernel
theorem mChk_4 : ((List.range 8).all fun y => mChkM (y + 32)) = true := by decide +kernel
theorem mChk_5 : ((List.range 8).all fun y => mChkM (y + 40)) = true := by decide +kernel
theorem mChk_6 : ((List.range 8).all fun y => mChkM (y + 48)) = true := by decide +kernel
theorem mChk_7 : ((List.range 8).all fun y => mChkM (y + 56)) = true := by decide +kernel
theorem mChk_8 : ((List.range 8).all fun y => mChkM (y + 64)) = true := by decide +kernel
theorem mChk_9 : ((List.range 8).all fun y => mChkM (y + 72)) = true := by decide +kernel
theorem mChk_10 : ((List.range 8).all fun y => mChkM (y + 80)) = true := by decide +kernel
