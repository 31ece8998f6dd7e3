/-! Every instruction of the program, checked. -/
theorem mChk_44 : ((List.range 8).all fun y => mChkM (y + 352)) = true := by decide +kernel
theorem mChk_45 : ((List.range 8).all fun y => mChkM (y + 360)) = true := by decide +kernel
theorem mChk_46 : ((List.range 8).all fun y => mChkM (y + 368)) = true := by decide +kernel
theorem mChk_47 : ((List.range 8).all fun y => mChkM (y + 376)) = true := by decide +kernel
theorem mChk_48 : ((List.range 8).all fun y => mChkM (y + 384)) = true := by decide +kernel
theorem mChk_49 : ((List.range 8).all fun y => mChkM (y + 392)) = true := by decide +kernel
theorem mChk_50 : ((List.range 8).all fun y => mChkM (y + 400)) = true := by decide +kernel
theorem mChk_51 : ((List.range 5).all fun y => mChkM (y + 408)) = true := by decide +kernel
