/-! Every instruction of the program, checked. -/
theorem mChk_22 : ((List.range 8).all fun y => mChkM (y + 176)) = true := by decide +kernel
theorem mChk_23 : ((List.range 8).all fun y => mChkM (y + 184)) = true := by decide +kernel
theorem mChk_24 : ((List.range 8).all fun y => mChkM (y + 192)) = true := by decide +kernel
theorem mChk_25 : ((List.range 8).all fun y => mChkM (y + 200)) = true := by decide +kernel
theorem mChk_26 : ((List.range 8).all fun y => mChkM (y + 208)) = true := by decide +kernel
theorem mChk_27 : ((List.range 8).all fun y => mChkM (y + 216)) = true := by decide +kernel
theorem mChk_28 : ((List.range 8).all fun y => mChkM (y + 224)) = true := by decide +kernel
theorem mChk_29 : ((List.range 8).all fun y => mChkM (y + 232)) = true := by decide +kernel
theorem mChk_30 : ((List.range 8).all fun y => mChkM (y + 240)) = true := by decide +kernel
theorem mChk_31 : ((List.range 8).all fun y => mChkM (y + 248)) = true := by decide +kernel
theorem mChk_32 : ((List.range 8).all fun y => mChkM (y + 256)) = true := by decide +kernel
