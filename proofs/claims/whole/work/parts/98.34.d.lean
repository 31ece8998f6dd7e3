/-! Every instruction of the program, checked. -/
theorem mChk_33 : ((List.range 8).all fun y => mChkM (y + 264)) = true := by decide +kernel
theorem mChk_34 : ((List.range 8).all fun y => mChkM (y + 272)) = true := by decide +kernel
theorem mChk_35 : ((List.range 8).all fun y => mChkM (y + 280)) = true := by decide +kernel
theorem mChk_36 : ((List.range 8).all fun y => mChkM (y + 288)) = true := by decide +kernel
theorem mChk_37 : ((List.range 8).all fun y => mChkM (y + 296)) = true := by decide +kernel
theorem mChk_38 : ((List.range 8).all fun y => mChkM (y + 304)) = true := by decide +kernel
theorem mChk_39 : ((List.range 8).all fun y => mChkM (y + 312)) = true := by decide +kernel
theorem mChk_40 : ((List.range 8).all fun y => mChkM (y + 320)) = true := by decide +kernel
theorem mChk_41 : ((List.range 8).all fun y => mChkM (y + 328)) = true := by decide +kernel
theorem mChk_42 : ((List.range 8).all fun y => mChkM (y + 336)) = true := by decide +kernel
theorem mChk_43 : ((List.range 8).all fun y => mChkM (y + 344)) = true := by decide +kernel
