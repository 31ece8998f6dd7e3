/-! Every instruction of the program, checked. -/
theorem mChk_0 : ((List.range 8).all fun y => mChkM (y + 0)) = true := by decide +kernel
theorem mChk_1 : ((List.range 8).all fun y => mChkM (y + 8)) = true := by decide +kernel
theorem mChk_2 : ((List.range 8).all fun y => mChkM (y + 16)) = true := by decide +kernel
theorem mChk_3 : ((List.range 8).all fun y => mChkM (y + 24)) = true := by decide +kernel
theorem mChk_4 : ((List.range 8).all fun y => mChkM (y + 32)) = true := by decide +kernel
theorem mChk_5 : ((List.range 8).all fun y => mChkM (y + 40)) = true := by decide +kernel
theorem mChk_6 : ((List.range 8).all fun y => mChkM (y + 48)) = true := by decide +kernel
theorem mChk_7 : ((List.range 8).all fun y => mChkM (y + 56)) = true := by decide +kernel
theorem mChk_8 : ((List.range 8).all fun y => mChkM (y + 64)) = true := by decide +kernel
theorem mChk_9 : ((List.range 8).all fun y => mChkM (y + 72)) = true := by decide +kernel
theorem mChk_10 : ((List.range 8).all fun y => mChkM (y + 80)) = true := by decide +kernel
theorem mChk_11 : ((List.range 8).all fun y => mChkM (y + 88)) = true := by decide +kernel
theorem mChk_12 : ((List.range 8).all fun y => mChkM (y + 96)) = true := by decide +kernel
theorem mChk_13 : ((List.range 8).all fun y => mChkM (y + 104)) = true := by decide +kernel
theorem mChk_14 : ((List.range 8).all fun y => mChkM (y + 112)) = true := by decide +kernel
theorem mChk_15 : ((List.range 8).all fun y => mChkM (y + 120)) = true := by decide +kernel
theorem mChk_16 : ((List.range 8).all fun y => mChkM (y + 128)) = true := by decide +kernel
theorem mChk_17 : ((List.range 8).all fun y => mChkM (y + 136)) = true := by decide +kernel
theorem mChk_18 : ((List.range 8).all fun y => mChkM (y + 144)) = true := by decide +kernel
theorem mChk_19 : ((List.range 8).all fun y => mChkM (y + 152)) = true := by decide +kernel
theorem mChk_20 : ((List.range 8).all fun y => mChkM (y + 160)) = true := by decide +kernel
theorem mChk_21 : ((List.range 8).all fun y => mChkM (y + 168)) = true := by decide +kernel
theorem mChk_22 : ((List.range 8).all fun y => mChkM (y + 176)) = true := by decide +kernel
theorem mChk_23 : ((List.range 8).all fun y => mChkM (y + 184)) = true := by decide +kernel
theorem mChk_24 : ((List.range 8).all fun y => mChkM (y + 192)) = true := by decide +kernel
theorem mChk_25 : ((List.range 8).all fun y => mChkM (y + 200)) = true := by decide +kernel
theorem mChk_26 : ((List.range 8).all fun y => mChkM (y + 208)) = true := by decide +kernel
theorem mChk_27 : ((List.range 8).all fun y => mChkM (y + 216)) = true := by decide +kernel
theorem mChk_28 : ((List.range 8).all fun y => mChkM (y + 224)) = true := by decide +kernel
theorem mChk_29 : ((List.range 8).all fun y => mChkM (y + 232)) = true := by decide +kernel
theorem mChk_30 : ((List.range 8).all fun y => mChkM (y + 240)) = true := by decide +kernel
theorem mChk_31 : ((List.range 8).all fun y => mChkM (y + 248)) = true := by decide +kernel
theorem mChk_32 : ((List.range 8).all fun y => mChkM (y + 256)) = true := by decide +kernel
theorem mChk_33 : ((List.range 8).all fun y => mChkM (y + 264)) = true := by decide +kernel
theorem mChk_34 : ((List.range 8).all fun y => mChkM (y + 272)) = true := by decide +kernel
theorem mChk_35 : ((List.range 8).all fun y => mChkM (y + 280)) = true := by decide +kernel
theorem mChk_36 : ((List.range 8).all fun y => mChkM (y + 288)) = true := by decide +kernel
theorem mChk_37 : ((List.range 8).all fun y => mChkM (y + 296)) = true := by decide +kernel
theorem mChk_38 : ((List.range 8).all fun y => mChkM (y + 304)) = true := by decide +kernel
theorem mChk_39 : ((List.range 8).all fun y => mChkM (y + 312)) = true := by decide +kernel
theorem mChk_40 : ((List.range 8).all fun y => mChkM (y + 320)) = true := by decide +kernel
theorem mChk_41 : ((List.range 8).all fun y => mChkM (y + 328)) = true := by decide +kernel
theorem mChk_42 : ((List.range 8).all fun y => mChkM (y + 336)) = true := by decide +kernel
theorem mChk_43 : ((List.range 8).all fun y => mChkM (y + 344)) = true := by decide +kernel
theorem mChk_44 : ((List.range 8).all fun y => mChkM (y + 352)) = true := by decide +kernel
theorem mChk_45 : ((List.range 8).all fun y => mChkM (y + 360)) = true := by decide +kernel
theorem mChk_46 : ((List.range 8).all fun y => mChkM (y + 368)) = true := by decide +kernel
theorem mChk_47 : ((List.range 8).all fun y => mChkM (y + 376)) = true := by decide +kernel
theorem mChk_48 : ((List.range 8).all fun y => mChkM (y + 384)) = true := by decide +kernel
theorem mChk_49 : ((List.range 8).all fun y => mChkM (y + 392)) = true := by decide +kernel
theorem mChk_50 : ((List.range 8).all fun y => mChkM (y + 400)) = true := by decide +kernel
theorem mChk_51 : ((List.range 3).all fun y => mChkM (y + 408)) = true := by decide +kernel
theorem mChk_ok {y : Nat} (hy : y < 411) : mChkM y = true := by
  have key : ∀ k n : Nat, ((List.range n).all fun y => mChkM (y + k)) = true → k ≤ y → y < k + n → mChkM y = true := fun k n h h1 h2 => by
    have h3 := List.all_eq_true.mp h (y - k) (List.mem_range.mpr (by omega))
    rw [show y - k + k = y by omega] at h3
    exact h3
  by_cases h0 : y < 8
  · exact key _ _ mChk_0 (by omega) (by omega)
  by_cases h1 : y < 16
  · exact key _ _ mChk_1 (by omega) (by omega)
  by_cases h2 : y < 24
  · exact key _ _ mChk_2 (by omega) (by omega)
  by_cases h3 : y < 32
  · exact key _ _ mChk_3 (by omega) (by omega)
  by_cases h4 : y < 40
  · exact key _ _ mChk_4 (by omega) (by omega)
  by_cases h5 : y < 48
  · exact key _ _ mChk_5 (by omega) (by omega)
  by_cases h6 : y < 56
  · exact key _ _ mChk_6 (by omega) (by omega)
  by_cases h7 : y < 64
  · exact key _ _ mChk_7 (by omega) (by omega)
  by_cases h8 : y < 72
  · exact key _ _ mChk_8 (by omega) (by omega)
  by_cases h9 : y < 80
  · exact key _ _ mChk_9 (by omega) (by omega)
  by_cases h10 : y < 88
  · exact key _ _ mChk_10 (by omega) (by omega)
  by_cases h11 : y < 96
  · exact key _ _ mChk_11 (by omega) (by omega)
  by_cases h12 : y < 104
  · exact key _ _ mChk_12 (by omega) (by omega)
  by_cases h13 : y < 112
  · exact key _ _ mChk_13 (by omega) (by omega)
  by_cases h14 : y < 120
  · exact key _ _ mChk_14 (by omega) (by omega)
  by_cases h15 : y < 128
  · exact key _ _ mChk_15 (by omega) (by omega)
  by_cases h16 : y < 136
  · exact key _ _ mChk_16 (by omega) (by omega)
  by_cases h17 : y < 144
  · exact key _ _ mChk_17 (by omega) (by omega)
  by_cases h18 : y < 152
  · exact key _ _ mChk_18 (by omega) (by omega)
  by_cases h19 : y < 160
  · exact key _ _ mChk_19 (by omega) (by omega)
  by_cases h20 : y < 168
  · exact key _ _ mChk_20 (by omega) (by omega)
  by_cases h21 : y < 176
  · exact key _ _ mChk_21 (by omega) (by omega)
  by_cases h22 : y < 184
  · exact key _ _ mChk_22 (by omega) (by omega)
  by_cases h23 : y < 192
  · exact key _ _ mChk_23 (by omega) (by omega)
  by_cases h24 : y < 200
  · exact key _ _ mChk_24 (by omega) (by omega)
  by_cases h25 : y < 208
  · exact key _ _ mChk_25 (by omega) (by omega)
  by_cases h26 : y < 216
  · exact key _ _ mChk_26 (by omega) (by omega)
  by_cases h27 : y < 224
  · exact key _ _ mChk_27 (by omega) (by omega)
  by_cases h28 : y < 232
  · exact key _ _ mChk_28 (by omega) (by omega)
  by_cases h29 : y < 240
  · exact key _ _ mChk_29 (by omega) (by omega)
  by_cases h30 : y < 248
  · exact key _ _ mChk_30 (by omega) (by omega)
  by_cases h31 : y < 256
  · exact key _ _ mChk_31 (by omega) (by omega)
  by_cases h32 : y < 264
  · exact key _ _ mChk_32 (by omega) (by omega)
  by_cases h33 : y < 272
  · exact key _ _ mChk_33 (by omega) (by omega)
  by_cases h34 : y < 280
  · exact key _ _ mChk_34 (by omega) (by omega)
  by_cases h35 : y < 288
  · exact key _ _ mChk_35 (by omega) (by omega)
  by_cases h36 : y < 296
  · exact key _ _ mChk_36 (by omega) (by omega)
  by_cases h37 : y < 304
  · exact key _ _ mChk_37 (by omega) (by omega)
  by_cases h38 : y < 312
  · exact key _ _ mChk_38 (by omega) (by omega)
  by_cases h39 : y < 320
  · exact key _ _ mChk_39 (by omega) (by omega)
  by_cases h40 : y < 328
  · exact key _ _ mChk_40 (by omega) (by omega)
  by_cases h41 : y < 336
  · exact key _ _ mChk_41 (by omega) (by omega)
  by_cases h42 : y < 344
  · exact key _ _ mChk_42 (by omega) (by omega)
  by_cases h43 : y < 352
  · exact key _ _ mChk_43 (by omega) (by omega)
  by_cases h44 : y < 360
  · exact key _ _ mChk_44 (by omega) (by omega)
  by_cases h45 : y < 368
  · exact key _ _ mChk_45 (by omega) (by omega)
  by_cases h46 : y < 376
  · exact key _ _ mChk_46 (by omega) (by omega)
  by_cases h47 : y < 384
  · exact key _ _ mChk_47 (by omega) (by omega)
  by_cases h48 : y < 392
  · exact key _ _ mChk_48 (by omega) (by omega)
  by_cases h49 : y < 400
  · exact key _ _ mChk_49 (by omega) (by omega)
  by_cases h50 : y < 408
  · exact key _ _ mChk_50 (by omega) (by omega)
  exact key _ _ mChk_51 (by omega) (by omega)
