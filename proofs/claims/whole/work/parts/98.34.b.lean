/-! Every instruction of the program, checked. -/
theorem mChk_11 : ((List.range 8).all fun y => mChkM (y + 88)) = true := by decide +kernel
theorem mChk_12 : ((List.range 8).all fun y => mChkM (y + 96)) = true := by decide +kernel
theorem mChk_13 : ((List.range 8).all fun y => mChkM (y + 104)) = true := by decide +kernel
theorem mChk_14 : ((List.range 8).all fun y => mChkM (y + 112)) = true := by decide +kernel
theorem mChk_15 : ((List.range 8).all fun y => mChkM (y + 120)) = true := by decide +kernel
theorem mChk_16 : ((List.range 8).all fun y => mChkM (y + 128)) = true := by decide +kernel
theorem mChk_17 : ((List.range 8).all fun y => mChkM (y + 136)) = true := by decide +kernel
theorem mChk_18 : ((List.range 8).all fun y => mChkM (y + 144)) = true := by decide +kernel
theorem mChk_19 : ((List.range 8).all fun y => mChkM (y + 152)) = true := by decide +kernel
theorem mChk_20 : ((List.range 8).all fun y => mChkM (y + 160)) = true := by decide +kernel
theorem mChk_21 : ((List.range 8).all fun y => mChkM (y + 168)) = true := by decide +kernel
