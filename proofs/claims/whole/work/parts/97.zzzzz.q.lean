/-! The model's constructor. -/
section KM
variable {S : mH} {I : mN} {Q : mQ} {n : Int} (D : Nat)
set_option maxHeartbeats 40000000 in
theorem k_Moa (hn : S.2.2.2.1 = n) (n0 : 0 ≤ n) (kk : ∀ (S' : mH) (I' : mN), kCo n 47 46229 S I S' I' → yM S' n → I' n = zU (zU (zU (fun _ => 0) 26 1) 28 (-1)) 61 (-1) → mWp (mRun (D + 49)) 249 0 (fun pc c => mAt (mRun (D + 49)) 249 pc c Q) Q (bk_Mo_init_0.drop 195) ([some (mR n)], [], I', S')) : mRun (D + 50) 249 [mR n] (mNewN I S) (mNewH S 12 68) Q := by
  have hK : (mNewH S 12 68).2.1 n = 12 := uk_eq hn.symm
  have t0 : kS yMt 12 n 0 (mNewH S 12 68) (mNewN I S) (mNewH S 12 68) (mNewN I S) := kS_0 hK (by show S.2.2.2.1 + 1 = n + 1; omega)
  have i0 : (mNewN I S) n = (fun _ => 0) := ua_eq hn.symm
  have c0 : (mNewH S 12 68).2.2.2.2 = S.2.2.2.2 + 68 := rfl
  generalize hS0 : mNewH S 12 68 = S0 at hK t0 c0 ⊢
  generalize hI0 : mNewN I S = I0 at t0 i0 ⊢
  simp (disch := first | omega | exact Nat.le_of_ble_eq_true rfl) only [e_Mo_init, a_Mo_init_0]
  unfold bk_Mo_init_0
  refine k_ob n (fun _ _ _ => rfl) (fun _ _ => rfl) n0 ?_
  refine k_na n 0 1395 50 12 (fun _ _ _ => rfl) (fun _ _ _ => rfl) (fun _ _ _ => rfl) (fun _ _ _ _ => rfl) t0.1 (by have := t0.2.1; omega) (by decide) (fun S1 I1 h1 => ?_)
  have t1 := kS_s t0 h1 rfl (by decide)
  have i1 : I1 n = (fun _ => 0) := (h1.2.2.2.2.2.2 n (by have := t0.2.1; omega)).trans i0
  have c1 : S1.2.2.2.2 = S.2.2.2.2 + 1463 := by have := h1.1.2; omega
  clear h1 t0 i0 c0
  refine k_na n 2 168 50 12 (fun _ _ _ => rfl) (fun _ _ _ => rfl) (fun _ _ _ => rfl) (fun _ _ _ _ => rfl) t1.1 (by have := t1.2.1; omega) (by decide) (fun S2 I2 h2 => ?_)
  have t2 := kS_s t1 h2 rfl (by decide)
  have i2 : I2 n = (fun _ => 0) := (h2.2.2.2.2.2.2 n (by have := t1.2.1; omega)).trans i1
  have c2 : S2.2.2.2.2 = S.2.2.2.2 + 1631 := by have := h2.1.2; omega
  clear h2 t1 i1 c1
  refine k_na n 3 168 50 12 (fun _ _ _ => rfl) (fun _ _ _ => rfl) (fun _ _ _ => rfl) (fun _ _ _ _ => rfl) t2.1 (by have := t2.2.1; omega) (by decide) (fun S3 I3 h3 => ?_)
  have t3 := kS_s t2 h3 rfl (by decide)
  have i3 : I3 n = (fun _ => 0) := (h3.2.2.2.2.2.2 n (by have := t2.2.1; omega)).trans i2
  have c3 : S3.2.2.2.2 = S.2.2.2.2 + 1799 := by have := h3.1.2; omega
  clear h3 t2 i2 c2
  refine k_na n 4 168 50 12 (fun _ _ _ => rfl) (fun _ _ _ => rfl) (fun _ _ _ => rfl) (fun _ _ _ _ => rfl) t3.1 (by have := t3.2.1; omega) (by decide) (fun S4 I4 h4 => ?_)
  have t4 := kS_s t3 h4 rfl (by decide)
  have i4 : I4 n = (fun _ => 0) := (h4.2.2.2.2.2.2 n (by have := t3.2.1; omega)).trans i3
  have c4 : S4.2.2.2.2 = S.2.2.2.2 + 1967 := by have := h4.1.2; omega
  clear h4 t3 i3 c3
  refine k_na n 5 168 50 12 (fun _ _ _ => rfl) (fun _ _ _ => rfl) (fun _ _ _ => rfl) (fun _ _ _ _ => rfl) t4.1 (by have := t4.2.1; omega) (by decide) (fun S5 I5 h5 => ?_)
  have t5 := kS_s t4 h5 rfl (by decide)
  have i5 : I5 n = (fun _ => 0) := (h5.2.2.2.2.2.2 n (by have := t4.2.1; omega)).trans i4
  have c5 : S5.2.2.2.2 = S.2.2.2.2 + 2135 := by have := h5.1.2; omega
  clear h5 t4 i4 c4
  refine k_na n 6 168 51 12 (fun _ _ _ => rfl) (fun _ _ _ => rfl) (fun _ _ _ => rfl) (fun _ _ _ _ => rfl) t5.1 (by have := t5.2.1; omega) (by decide) (fun S6 I6 h6 => ?_)
  have t6 := kS_s t5 h6 rfl (by decide)
  have i6 : I6 n = (fun _ => 0) := (h6.2.2.2.2.2.2 n (by have := t5.2.1; omega)).trans i5
  have c6 : S6.2.2.2.2 = S.2.2.2.2 + 2303 := by have := h6.1.2; omega
  clear h6 t5 i5 c5
  refine k_na n 7 50 50 12 (fun _ _ _ => rfl) (fun _ _ _ => rfl) (fun _ _ _ => rfl) (fun _ _ _ _ => rfl) t6.1 (by have := t6.2.1; omega) (by decide) (fun S7 I7 h7 => ?_)
  have t7 := kS_s t6 h7 rfl (by decide)
  have i7 : I7 n = (fun _ => 0) := (h7.2.2.2.2.2.2 n (by have := t6.2.1; omega)).trans i6
  have c7 : S7.2.2.2.2 = S.2.2.2.2 + 2353 := by have := h7.1.2; omega
  clear h7 t6 i6 c6
  refine k_na n 8 336 50 12 (fun _ _ _ => rfl) (fun _ _ _ => rfl) (fun _ _ _ => rfl) (fun _ _ _ _ => rfl) t7.1 (by have := t7.2.1; omega) (by decide) (fun S8 I8 h8 => ?_)
  have t8 := kS_s t7 h8 rfl (by decide)
  have i8 : I8 n = (fun _ => 0) := (h8.2.2.2.2.2.2 n (by have := t7.2.1; omega)).trans i7
  have c8 : S8.2.2.2.2 = S.2.2.2.2 + 2689 := by have := h8.1.2; omega
  clear h8 t7 i7 c7
  refine k_na n 9 49 51 12 (fun _ _ _ => rfl) (fun _ _ _ => rfl) (fun _ _ _ => rfl) (fun _ _ _ _ => rfl) t8.1 (by have := t8.2.1; omega) (by decide) (fun S9 I9 h9 => ?_)
  have t9 := kS_s t8 h9 rfl (by decide)
  have i9 : I9 n = (fun _ => 0) := (h9.2.2.2.2.2.2 n (by have := t8.2.1; omega)).trans i8
  have c9 : S9.2.2.2.2 = S.2.2.2.2 + 2738 := by have := h9.1.2; omega
  clear h9 t8 i8 c8
  refine k_na n 10 49 50 12 (fun _ _ _ => rfl) (fun _ _ _ => rfl) (fun _ _ _ => rfl) (fun _ _ _ _ => rfl) t9.1 (by have := t9.2.1; omega) (by decide) (fun S10 I10 h10 => ?_)
  have t10 := kS_s t9 h10 rfl (by decide)
  have i10 : I10 n = (fun _ => 0) := (h10.2.2.2.2.2.2 n (by have := t9.2.1; omega)).trans i9
  have c10 : S10.2.2.2.2 = S.2.2.2.2 + 2787 := by have := h10.1.2; omega
  clear h10 t9 i9 c9
  refine k_na n 11 49 50 12 (fun _ _ _ => rfl) (fun _ _ _ => rfl) (fun _ _ _ => rfl) (fun _ _ _ _ => rfl) t10.1 (by have := t10.2.1; omega) (by decide) (fun S11 I11 h11 => ?_)
  have t11 := kS_s t10 h11 rfl (by decide)
  have i11 : I11 n = (fun _ => 0) := (h11.2.2.2.2.2.2 n (by have := t10.2.1; omega)).trans i10
  have c11 : S11.2.2.2.2 = S.2.2.2.2 + 2836 := by have := h11.1.2; omega
  clear h11 t10 i10 c10
  refine k_na n 12 10 50 12 (fun _ _ _ => rfl) (fun _ _ _ => rfl) (fun _ _ _ => rfl) (fun _ _ _ _ => rfl) t11.1 (by have := t11.2.1; omega) (by decide) (fun S12 I12 h12 => ?_)
  have t12 := kS_s t11 h12 rfl (by decide)
  have i12 : I12 n = (fun _ => 0) := (h12.2.2.2.2.2.2 n (by have := t11.2.1; omega)).trans i11
  have c12 : S12.2.2.2.2 = S.2.2.2.2 + 2846 := by have := h12.1.2; omega
  clear h12 t11 i11 c11
  refine k_na n 13 80 50 12 (fun _ _ _ => rfl) (fun _ _ _ => rfl) (fun _ _ _ => rfl) (fun _ _ _ _ => rfl) t12.1 (by have := t12.2.1; omega) (by decide) (fun S13 I13 h13 => ?_)
  have t13 := kS_s t12 h13 rfl (by decide)
  have i13 : I13 n = (fun _ => 0) := (h13.2.2.2.2.2.2 n (by have := t12.2.1; omega)).trans i12
  have c13 : S13.2.2.2.2 = S.2.2.2.2 + 2926 := by have := h13.1.2; omega
  clear h13 t12 i12 c12
  refine k_na n 14 80 50 12 (fun _ _ _ => rfl) (fun _ _ _ => rfl) (fun _ _ _ => rfl) (fun _ _ _ _ => rfl) t13.1 (by have := t13.2.1; omega) (by decide) (fun S14 I14 h14 => ?_)
  have t14 := kS_s t13 h14 rfl (by decide)
  have i14 : I14 n = (fun _ => 0) := (h14.2.2.2.2.2.2 n (by have := t13.2.1; omega)).trans i13
  have c14 : S14.2.2.2.2 = S.2.2.2.2 + 3006 := by have := h14.1.2; omega
  clear h14 t13 i13 c13
  refine k_na n 15 80 50 12 (fun _ _ _ => rfl) (fun _ _ _ => rfl) (fun _ _ _ => rfl) (fun _ _ _ _ => rfl) t14.1 (by have := t14.2.1; omega) (by decide) (fun S15 I15 h15 => ?_)
  have t15 := kS_s t14 h15 rfl (by decide)
  have i15 : I15 n = (fun _ => 0) := (h15.2.2.2.2.2.2 n (by have := t14.2.1; omega)).trans i14
  have c15 : S15.2.2.2.2 = S.2.2.2.2 + 3086 := by have := h15.1.2; omega
  clear h15 t14 i14 c14
  refine k_na n 16 3 51 12 (fun _ _ _ => rfl) (fun _ _ _ => rfl) (fun _ _ _ => rfl) (fun _ _ _ _ => rfl) t15.1 (by have := t15.2.1; omega) (by decide) (fun S16 I16 h16 => ?_)
  have t16 := kS_s t15 h16 rfl (by decide)
  have i16 : I16 n = (fun _ => 0) := (h16.2.2.2.2.2.2 n (by have := t15.2.1; omega)).trans i15
  have c16 : S16.2.2.2.2 = S.2.2.2.2 + 3089 := by have := h16.1.2; omega
  clear h16 t15 i15 c15
  refine k_na n 18 72 50 12 (fun _ _ _ => rfl) (fun _ _ _ => rfl) (fun _ _ _ => rfl) (fun _ _ _ _ => rfl) t16.1 (by have := t16.2.1; omega) (by decide) (fun S17 I17 h17 => ?_)
  have t17 := kS_s t16 h17 rfl (by decide)
  have i17 : I17 n = (fun _ => 0) := (h17.2.2.2.2.2.2 n (by have := t16.2.1; omega)).trans i16
  have c17 : S17.2.2.2.2 = S.2.2.2.2 + 3161 := by have := h17.1.2; omega
  clear h17 t16 i16 c16
  refine k_na n 19 54 50 12 (fun _ _ _ => rfl) (fun _ _ _ => rfl) (fun _ _ _ => rfl) (fun _ _ _ _ => rfl) t17.1 (by have := t17.2.1; omega) (by decide) (fun S18 I18 h18 => ?_)
  have t18 := kS_s t17 h18 rfl (by decide)
  have i18 : I18 n = (fun _ => 0) := (h18.2.2.2.2.2.2 n (by have := t17.2.1; omega)).trans i17
  have c18 : S18.2.2.2.2 = S.2.2.2.2 + 3215 := by have := h18.1.2; omega
  clear h18 t17 i17 c17
  refine k_na n 20 48 50 12 (fun _ _ _ => rfl) (fun _ _ _ => rfl) (fun _ _ _ => rfl) (fun _ _ _ _ => rfl) t18.1 (by have := t18.2.1; omega) (by decide) (fun S19 I19 h19 => ?_)
  have t19 := kS_s t18 h19 rfl (by decide)
  have i19 : I19 n = (fun _ => 0) := (h19.2.2.2.2.2.2 n (by have := t18.2.1; omega)).trans i18
  have c19 : S19.2.2.2.2 = S.2.2.2.2 + 3263 := by have := h19.1.2; omega
  clear h19 t18 i18 c18
  refine k_na n 21 48 51 12 (fun _ _ _ => rfl) (fun _ _ _ => rfl) (fun _ _ _ => rfl) (fun _ _ _ _ => rfl) t19.1 (by have := t19.2.1; omega) (by decide) (fun S20 I20 h20 => ?_)
  have t20 := kS_s t19 h20 rfl (by decide)
  have i20 : I20 n = (fun _ => 0) := (h20.2.2.2.2.2.2 n (by have := t19.2.1; omega)).trans i19
  have c20 : S20.2.2.2.2 = S.2.2.2.2 + 3311 := by have := h20.1.2; omega
  clear h20 t19 i19 c19
  refine k_na n 22 48 51 12 (fun _ _ _ => rfl) (fun _ _ _ => rfl) (fun _ _ _ => rfl) (fun _ _ _ _ => rfl) t20.1 (by have := t20.2.1; omega) (by decide) (fun S21 I21 h21 => ?_)
  have t21 := kS_s t20 h21 rfl (by decide)
  have i21 : I21 n = (fun _ => 0) := (h21.2.2.2.2.2.2 n (by have := t20.2.1; omega)).trans i20
  have c21 : S21.2.2.2.2 = S.2.2.2.2 + 3359 := by have := h21.1.2; omega
  clear h21 t20 i20 c20
  refine k_na n 23 29295 50 12 (fun _ _ _ => rfl) (fun _ _ _ => rfl) (fun _ _ _ => rfl) (fun _ _ _ _ => rfl) t21.1 (by have := t21.2.1; omega) (by decide) (fun S22 I22 h22 => ?_)
  have t22 := kS_s t21 h22 rfl (by decide)
  have i22 : I22 n = (fun _ => 0) := (h22.2.2.2.2.2.2 n (by have := t21.2.1; omega)).trans i21
  have c22 : S22.2.2.2.2 = S.2.2.2.2 + 32654 := by have := h22.1.2; omega
  clear h22 t21 i21 c21
  refine k_na n 24 3 50 12 (fun _ _ _ => rfl) (fun _ _ _ => rfl) (fun _ _ _ => rfl) (fun _ _ _ _ => rfl) t22.1 (by have := t22.2.1; omega) (by decide) (fun S23 I23 h23 => ?_)
  have t23 := kS_s t22 h23 rfl (by decide)
  have i23 : I23 n = (fun _ => 0) := (h23.2.2.2.2.2.2 n (by have := t22.2.1; omega)).trans i22
  have c23 : S23.2.2.2.2 = S.2.2.2.2 + 32657 := by have := h23.1.2; omega
  clear h23 t22 i22 c22
  refine k_na n 25 3 50 12 (fun _ _ _ => rfl) (fun _ _ _ => rfl) (fun _ _ _ => rfl) (fun _ _ _ _ => rfl) t23.1 (by have := t23.2.1; omega) (by decide) (fun S24 I24 h24 => ?_)
  have t24 := kS_s t23 h24 rfl (by decide)
  have i24 : I24 n = (fun _ => 0) := (h24.2.2.2.2.2.2 n (by have := t23.2.1; omega)).trans i23
  have c24 : S24.2.2.2.2 = S.2.2.2.2 + 32660 := by have := h24.1.2; omega
  clear h24 t23 i23 c23
  refine k_pi n 26 1 12 (fun _ _ _ => rfl) (fun _ _ _ => rfl) (fun _ _ _ => rfl) t24.1 ?_
  have t24_26 := kS_i (f := 26) (v := 1) t24
  have i24_26 : (mUp I24 n 26 1) n = zU (fun _ => 0) 26 1 := by rw [up_zU, i24]
  generalize mUp I24 n 26 1 = J26 at t24_26 i24_26 ⊢
  refine k_pi n 28 (-1) 12 (fun _ _ _ => rfl) (fun _ _ _ => rfl) (fun _ _ _ => rfl) t24_26.1 ?_
  have t24_28 := kS_i (f := 28) (v := (-1)) t24_26
  have i24_28 : (mUp J26 n 28 (-1)) n = zU (zU (fun _ => 0) 26 1) 28 (-1) := by rw [up_zU, i24_26]
  generalize mUp J26 n 28 (-1) = J28 at t24_28 i24_28 ⊢
  refine k_na n 30 1395 50 12 (fun _ _ _ => rfl) (fun _ _ _ => rfl) (fun _ _ _ => rfl) (fun _ _ _ _ => rfl) t24_28.1 (by have := t24_28.2.1; omega) (by decide) (fun S25 I25 h25 => ?_)
  have t25 := kS_s t24_28 h25 rfl (by decide)
  have i25 : I25 n = zU (zU (fun _ => 0) 26 1) 28 (-1) := (h25.2.2.2.2.2.2 n (by have := t24_28.2.1; omega)).trans i24_28
  have c25 : S25.2.2.2.2 = S.2.2.2.2 + 34055 := by have := h25.1.2; omega
  clear h25 t24 i24 c24 t24_26 i24_26 t24_28 i24_28
  refine k_na n 31 80 50 12 (fun _ _ _ => rfl) (fun _ _ _ => rfl) (fun _ _ _ => rfl) (fun _ _ _ _ => rfl) t25.1 (by have := t25.2.1; omega) (by decide) (fun S26 I26 h26 => ?_)
  have t26 := kS_s t25 h26 rfl (by decide)
  have i26 : I26 n = zU (zU (fun _ => 0) 26 1) 28 (-1) := (h26.2.2.2.2.2.2 n (by have := t25.2.1; omega)).trans i25
  have c26 : S26.2.2.2.2 = S.2.2.2.2 + 34135 := by have := h26.1.2; omega
  clear h26 t25 i25 c25
  refine k_na n 32 80 50 12 (fun _ _ _ => rfl) (fun _ _ _ => rfl) (fun _ _ _ => rfl) (fun _ _ _ _ => rfl) t26.1 (by have := t26.2.1; omega) (by decide) (fun S27 I27 h27 => ?_)
  have t27 := kS_s t26 h27 rfl (by decide)
  have i27 : I27 n = zU (zU (fun _ => 0) 26 1) 28 (-1) := (h27.2.2.2.2.2.2 n (by have := t26.2.1; omega)).trans i26
  have c27 : S27.2.2.2.2 = S.2.2.2.2 + 34215 := by have := h27.1.2; omega
  clear h27 t26 i26 c26
  refine k_na n 33 10 50 12 (fun _ _ _ => rfl) (fun _ _ _ => rfl) (fun _ _ _ => rfl) (fun _ _ _ _ => rfl) t27.1 (by have := t27.2.1; omega) (by decide) (fun S28 I28 h28 => ?_)
  have t28 := kS_s t27 h28 rfl (by decide)
  have i28 : I28 n = zU (zU (fun _ => 0) 26 1) 28 (-1) := (h28.2.2.2.2.2.2 n (by have := t27.2.1; omega)).trans i27
  have c28 : S28.2.2.2.2 = S.2.2.2.2 + 34225 := by have := h28.1.2; omega
  clear h28 t27 i27 c27
  refine k_na n 34 10 50 12 (fun _ _ _ => rfl) (fun _ _ _ => rfl) (fun _ _ _ => rfl) (fun _ _ _ _ => rfl) t28.1 (by have := t28.2.1; omega) (by decide) (fun S29 I29 h29 => ?_)
  have t29 := kS_s t28 h29 rfl (by decide)
  have i29 : I29 n = zU (zU (fun _ => 0) 26 1) 28 (-1) := (h29.2.2.2.2.2.2 n (by have := t28.2.1; omega)).trans i28
  have c29 : S29.2.2.2.2 = S.2.2.2.2 + 34235 := by have := h29.1.2; omega
  clear h29 t28 i28 c28
  refine k_na n 35 9 50 12 (fun _ _ _ => rfl) (fun _ _ _ => rfl) (fun _ _ _ => rfl) (fun _ _ _ _ => rfl) t29.1 (by have := t29.2.1; omega) (by decide) (fun S30 I30 h30 => ?_)
  have t30 := kS_s t29 h30 rfl (by decide)
  have i30 : I30 n = zU (zU (fun _ => 0) 26 1) 28 (-1) := (h30.2.2.2.2.2.2 n (by have := t29.2.1; omega)).trans i29
  have c30 : S30.2.2.2.2 = S.2.2.2.2 + 34244 := by have := h30.1.2; omega
  clear h30 t29 i29 c29
  refine k_na n 36 6 50 12 (fun _ _ _ => rfl) (fun _ _ _ => rfl) (fun _ _ _ => rfl) (fun _ _ _ _ => rfl) t30.1 (by have := t30.2.1; omega) (by decide) (fun S31 I31 h31 => ?_)
  have t31 := kS_s t30 h31 rfl (by decide)
  have i31 : I31 n = zU (zU (fun _ => 0) 26 1) 28 (-1) := (h31.2.2.2.2.2.2 n (by have := t30.2.1; omega)).trans i30
  have c31 : S31.2.2.2.2 = S.2.2.2.2 + 34250 := by have := h31.1.2; omega
  clear h31 t30 i30 c30
  refine k_na n 37 6 50 12 (fun _ _ _ => rfl) (fun _ _ _ => rfl) (fun _ _ _ => rfl) (fun _ _ _ _ => rfl) t31.1 (by have := t31.2.1; omega) (by decide) (fun S32 I32 h32 => ?_)
  have t32 := kS_s t31 h32 rfl (by decide)
  have i32 : I32 n = zU (zU (fun _ => 0) 26 1) 28 (-1) := (h32.2.2.2.2.2.2 n (by have := t31.2.1; omega)).trans i31
  have c32 : S32.2.2.2.2 = S.2.2.2.2 + 34256 := by have := h32.1.2; omega
  clear h32 t31 i31 c31
  refine k_na n 38 9 50 12 (fun _ _ _ => rfl) (fun _ _ _ => rfl) (fun _ _ _ => rfl) (fun _ _ _ _ => rfl) t32.1 (by have := t32.2.1; omega) (by decide) (fun S33 I33 h33 => ?_)
  have t33 := kS_s t32 h33 rfl (by decide)
  have i33 : I33 n = zU (zU (fun _ => 0) 26 1) 28 (-1) := (h33.2.2.2.2.2.2 n (by have := t32.2.1; omega)).trans i32
  have c33 : S33.2.2.2.2 = S.2.2.2.2 + 34265 := by have := h33.1.2; omega
  clear h33 t32 i32 c32
  refine k_na n 39 9 50 12 (fun _ _ _ => rfl) (fun _ _ _ => rfl) (fun _ _ _ => rfl) (fun _ _ _ _ => rfl) t33.1 (by have := t33.2.1; omega) (by decide) (fun S34 I34 h34 => ?_)
  have t34 := kS_s t33 h34 rfl (by decide)
  have i34 : I34 n = zU (zU (fun _ => 0) 26 1) 28 (-1) := (h34.2.2.2.2.2.2 n (by have := t33.2.1; omega)).trans i33
  have c34 : S34.2.2.2.2 = S.2.2.2.2 + 34274 := by have := h34.1.2; omega
  clear h34 t33 i33 c33
  refine k_na n 40 9 50 12 (fun _ _ _ => rfl) (fun _ _ _ => rfl) (fun _ _ _ => rfl) (fun _ _ _ _ => rfl) t34.1 (by have := t34.2.1; omega) (by decide) (fun S35 I35 h35 => ?_)
  have t35 := kS_s t34 h35 rfl (by decide)
  have i35 : I35 n = zU (zU (fun _ => 0) 26 1) 28 (-1) := (h35.2.2.2.2.2.2 n (by have := t34.2.1; omega)).trans i34
  have c35 : S35.2.2.2.2 = S.2.2.2.2 + 34283 := by have := h35.1.2; omega
  clear h35 t34 i34 c34
  refine k_na n 41 9 50 12 (fun _ _ _ => rfl) (fun _ _ _ => rfl) (fun _ _ _ => rfl) (fun _ _ _ _ => rfl) t35.1 (by have := t35.2.1; omega) (by decide) (fun S36 I36 h36 => ?_)
  have t36 := kS_s t35 h36 rfl (by decide)
  have i36 : I36 n = zU (zU (fun _ => 0) 26 1) 28 (-1) := (h36.2.2.2.2.2.2 n (by have := t35.2.1; omega)).trans i35
  have c36 : S36.2.2.2.2 = S.2.2.2.2 + 34292 := by have := h36.1.2; omega
  clear h36 t35 i35 c35
  refine k_na n 42 9 50 12 (fun _ _ _ => rfl) (fun _ _ _ => rfl) (fun _ _ _ => rfl) (fun _ _ _ _ => rfl) t36.1 (by have := t36.2.1; omega) (by decide) (fun S37 I37 h37 => ?_)
  have t37 := kS_s t36 h37 rfl (by decide)
  have i37 : I37 n = zU (zU (fun _ => 0) 26 1) 28 (-1) := (h37.2.2.2.2.2.2 n (by have := t36.2.1; omega)).trans i36
  have c37 : S37.2.2.2.2 = S.2.2.2.2 + 34301 := by have := h37.1.2; omega
  clear h37 t36 i36 c36
  refine k_na n 43 9 50 12 (fun _ _ _ => rfl) (fun _ _ _ => rfl) (fun _ _ _ => rfl) (fun _ _ _ _ => rfl) t37.1 (by have := t37.2.1; omega) (by decide) (fun S38 I38 h38 => ?_)
  have t38 := kS_s t37 h38 rfl (by decide)
  have i38 : I38 n = zU (zU (fun _ => 0) 26 1) 28 (-1) := (h38.2.2.2.2.2.2 n (by have := t37.2.1; omega)).trans i37
  have c38 : S38.2.2.2.2 = S.2.2.2.2 + 34310 := by have := h38.1.2; omega
  clear h38 t37 i37 c37
  refine k_na n 44 9 51 12 (fun _ _ _ => rfl) (fun _ _ _ => rfl) (fun _ _ _ => rfl) (fun _ _ _ _ => rfl) t38.1 (by have := t38.2.1; omega) (by decide) (fun S39 I39 h39 => ?_)
  have t39 := kS_s t38 h39 rfl (by decide)
  have i39 : I39 n = zU (zU (fun _ => 0) 26 1) 28 (-1) := (h39.2.2.2.2.2.2 n (by have := t38.2.1; omega)).trans i38
  have c39 : S39.2.2.2.2 = S.2.2.2.2 + 34319 := by have := h39.1.2; omega
  clear h39 t38 i38 c38
  refine k_na n 52 900 50 12 (fun _ _ _ => rfl) (fun _ _ _ => rfl) (fun _ _ _ => rfl) (fun _ _ _ _ => rfl) t39.1 (by have := t39.2.1; omega) (by decide) (fun S40 I40 h40 => ?_)
  have t40 := kS_s t39 h40 rfl (by decide)
  have i40 : I40 n = zU (zU (fun _ => 0) 26 1) 28 (-1) := (h40.2.2.2.2.2.2 n (by have := t39.2.1; omega)).trans i39
  have c40 : S40.2.2.2.2 = S.2.2.2.2 + 35219 := by have := h40.1.2; omega
  clear h40 t39 i39 c39
  refine k_na n 53 60 50 12 (fun _ _ _ => rfl) (fun _ _ _ => rfl) (fun _ _ _ => rfl) (fun _ _ _ _ => rfl) t40.1 (by have := t40.2.1; omega) (by decide) (fun S41 I41 h41 => ?_)
  have t41 := kS_s t40 h41 rfl (by decide)
  have i41 : I41 n = zU (zU (fun _ => 0) 26 1) 28 (-1) := (h41.2.2.2.2.2.2 n (by have := t40.2.1; omega)).trans i40
  have c41 : S41.2.2.2.2 = S.2.2.2.2 + 35279 := by have := h41.1.2; omega
  clear h41 t40 i40 c40
  refine k_na n 54 1395 50 12 (fun _ _ _ => rfl) (fun _ _ _ => rfl) (fun _ _ _ => rfl) (fun _ _ _ _ => rfl) t41.1 (by have := t41.2.1; omega) (by decide) (fun S42 I42 h42 => ?_)
  have t42 := kS_s t41 h42 rfl (by decide)
  have i42 : I42 n = zU (zU (fun _ => 0) 26 1) 28 (-1) := (h42.2.2.2.2.2.2 n (by have := t41.2.1; omega)).trans i41
  have c42 : S42.2.2.2.2 = S.2.2.2.2 + 36674 := by have := h42.1.2; omega
  clear h42 t41 i41 c41
  refine k_pi n 61 (-1) 12 (fun _ _ _ => rfl) (fun _ _ _ => rfl) (fun _ _ _ => rfl) t42.1 ?_
  have t42_61 := kS_i (f := 61) (v := (-1)) t42
  have i42_61 : (mUp I42 n 61 (-1)) n = zU (zU (zU (fun _ => 0) 26 1) 28 (-1)) 61 (-1) := by rw [up_zU, i42]
  generalize mUp I42 n 61 (-1) = J61 at t42_61 i42_61 ⊢
  refine k_na n 63 8000 50 12 (fun _ _ _ => rfl) (fun _ _ _ => rfl) (fun _ _ _ => rfl) (fun _ _ _ _ => rfl) t42_61.1 (by have := t42_61.2.1; omega) (by decide) (fun S43 I43 h43 => ?_)
  have t43 := kS_s t42_61 h43 rfl (by decide)
  have i43 : I43 n = zU (zU (zU (fun _ => 0) 26 1) 28 (-1)) 61 (-1) := (h43.2.2.2.2.2.2 n (by have := t42_61.2.1; omega)).trans i42_61
  have c43 : S43.2.2.2.2 = S.2.2.2.2 + 44674 := by have := h43.1.2; omega
  clear h43 t42 i42 c42 t42_61 i42_61
  refine k_na n 65 1395 50 12 (fun _ _ _ => rfl) (fun _ _ _ => rfl) (fun _ _ _ => rfl) (fun _ _ _ _ => rfl) t43.1 (by have := t43.2.1; omega) (by decide) (fun S44 I44 h44 => ?_)
  have t44 := kS_s t43 h44 rfl (by decide)
  have i44 : I44 n = zU (zU (zU (fun _ => 0) 26 1) 28 (-1)) 61 (-1) := (h44.2.2.2.2.2.2 n (by have := t43.2.1; omega)).trans i43
  have c44 : S44.2.2.2.2 = S.2.2.2.2 + 46069 := by have := h44.1.2; omega
  clear h44 t43 i43 c43
  refine k_na n 66 80 50 12 (fun _ _ _ => rfl) (fun _ _ _ => rfl) (fun _ _ _ => rfl) (fun _ _ _ _ => rfl) t44.1 (by have := t44.2.1; omega) (by decide) (fun S45 I45 h45 => ?_)
  have t45 := kS_s t44 h45 rfl (by decide)
  have i45 : I45 n = zU (zU (zU (fun _ => 0) 26 1) 28 (-1)) 61 (-1) := (h45.2.2.2.2.2.2 n (by have := t44.2.1; omega)).trans i44
  have c45 : S45.2.2.2.2 = S.2.2.2.2 + 46149 := by have := h45.1.2; omega
  clear h45 t44 i44 c44
  refine k_na n 67 80 50 12 (fun _ _ _ => rfl) (fun _ _ _ => rfl) (fun _ _ _ => rfl) (fun _ _ _ _ => rfl) t45.1 (by have := t45.2.1; omega) (by decide) (fun S46 I46 h46 => ?_)
  have t46 := kS_s t45 h46 rfl (by decide)
  have i46 : I46 n = zU (zU (zU (fun _ => 0) 26 1) 28 (-1)) 61 (-1) := (h46.2.2.2.2.2.2 n (by have := t45.2.1; omega)).trans i45
  have c46 : S46.2.2.2.2 = S.2.2.2.2 + 46229 := by have := h46.1.2; omega
  clear h46 t45 i45 c45
  rw [← hS0, ← hI0] at t46
  have hc := kC_S (w := 47) hn t46 c46 (by decide)
  exact kk _ _ hc ⟨t46.1, fun q hq => (t46.2.2.1 q hq).2⟩ i46
theorem l_mCpT (hm : yM S n) {I0 : mN} (k : ∀ I' : mN, (∀ a : Int, a ≠ n + 40 → I' a = I0 a) → (∀ j : Int, 0 ≤ j → j < 361 → I' (n + 40) j = mTxt 36 j) → mAt (mRun D) 341 31 ([some (mR n), some (mS 36), some (mI 361)], [], I', S) Q) : ∀ (c : Nat) (i : Int) (I : mN), i + c = 361 → 0 ≤ i → (∀ a : Int, a ≠ n + 40 → I a = I0 a) → (∀ j : Int, 0 ≤ j → j < i → I (n + 40) j = mTxt 36 j) → mAt (mRun D) 341 6 ([some (mR n), some (mS 36), some (mI i)], [], I, S) Q
  | 0, i, I, hc, i0, ho, hv => by
    obtain rfl : i = 361 := by omega
    have hl : mLen 36 = 361 := by decide +kernel
    rw [a_Mo_beginsBasin_6]
    simp (disch := first | omega | exact Nat.le_of_ble_eq_true rfl) only [w_iconst, w_bipush, w_sipush, w_ldc_s, w_ldcw_s, w_ldc_i, w_ldcw_i, w_lconst, w_fconst, w_dconst, w_iload, w_iload_n, w_aload, w_aload_n, w_dload, w_istore, w_istore_n, w_astore_r, w_astore_s, w_astore_n_r, w_astore_n_s, w_dstore, w_iinc, w_iadd, w_isub, w_imul, w_iand, w_iushr, v_idiv, v_irem, w_ineg, w_i2l, w_i2c, w_i2f, w_i2d, v_f2d, w_lcmp, w_dcmp, v_fdiv, v_ddiv, w_dup_i, w_dup_r, w_dup2, w_dup_x2, w_pop_i, w_pop_r, w_goto, w_switch, w_ret_i, v_ret_z, v_ret_c, w_ret_a, w_ret_s, w_ret_f, w_ret_d, w_ret_v, v_iaload, v_baload, v_caload, v_laload, v_aaload, v_iastore, v_bastore, v_castore, v_lastore, v_aastore, v_alen, v_newa, v_anewa, w_new, w_throw, w_dead, v_getf_i, v_getf_z, v_getf_r, v_putf_i, v_putf_z, v_putf_r, w_call0, w_call1, w_callv1, w_calli1, w_callt1, w_call2, w_callv2, w_calli2, w_callt2, w_call3, w_callv3, w_calli3, w_call4, w_callv4, w_calli4, w_call5, w_callv5, w_calli5, w_call6, w_callv6, w_calli6, w_call7, w_callv7, w_calli7, w_call8, w_callv8, w_calli8, c_if0_eq_t, c_if0_eq_f, c_if2_eq_t, c_if2_eq_f, c_if0_ne_t, c_if0_ne_f, c_if2_ne_t, c_if2_ne_f, c_if0_lt_t, c_if0_lt_f, c_if2_lt_t, c_if2_lt_f, c_if0_ge_t, c_if0_ge_f, c_if2_ge_t, c_if2_ge_f, c_if0_gt_t, c_if0_gt_f, c_if2_gt_t, c_if2_gt_f, c_if0_le_t, c_if0_le_f, c_if2_le_t, c_if2_le_f, w_nil, uI_s, uA_r, uA_s, uD_d, mPut_0, mCl_own, mCv_go, mCl_min, mCl_cpy, mCv_obj, mAct_len, mAct_chrc, mAft_v, mAft_n, mAft_x, mGet_0, mSet_0, mGet_1, mSet_1, mGet_2, mSet_2, mGet_3, mSet_3, mGet_4, mSet_4, mGet_5, mSet_5, mGet_6, mSet_6, mGet_7, mSet_7, mGet_8, mSet_8, mGet_9, mSet_9, mGet_10, mSet_10, mGet_11, mSet_11, mGet_12, mSet_12, mGet_13, mSet_13, bk_Mo_beginsBasin_6, hl]
    exact k I ho hv
  | c + 1, i, I, hc, i0, ho, hv => by
    have hl : mLen 36 = 361 := by decide +kernel
    rw [a_Mo_beginsBasin_6]
    simp (disch := first | omega | exact Nat.le_of_ble_eq_true rfl | (simp (disch := omega) only [ym_k hm, ym_52 hm, ym_k52 hm, ym_l52 hm, hl] <;> omega)) only [w_iconst, w_bipush, w_sipush, w_ldc_s, w_ldcw_s, w_ldc_i, w_ldcw_i, w_lconst, w_fconst, w_dconst, w_iload, w_iload_n, w_aload, w_aload_n, w_dload, w_istore, w_istore_n, w_astore_r, w_astore_s, w_astore_n_r, w_astore_n_s, w_dstore, w_iinc, w_iadd, w_isub, w_imul, w_iand, w_iushr, v_idiv, v_irem, w_ineg, w_i2l, w_i2c, w_i2f, w_i2d, v_f2d, w_lcmp, w_dcmp, v_fdiv, v_ddiv, w_dup_i, w_dup_r, w_dup2, w_dup_x2, w_pop_i, w_pop_r, w_goto, w_switch, w_ret_i, v_ret_z, v_ret_c, w_ret_a, w_ret_s, w_ret_f, w_ret_d, w_ret_v, v_iaload, v_baload, v_caload, v_laload, v_aaload, v_iastore, v_bastore, v_castore, v_lastore, v_aastore, v_alen, v_newa, v_anewa, w_new, w_throw, w_dead, v_getf_i, v_getf_z, v_getf_r, v_putf_i, v_putf_z, v_putf_r, w_call0, w_call1, w_callv1, w_calli1, w_callt1, w_call2, w_callv2, w_calli2, w_callt2, w_call3, w_callv3, w_calli3, w_call4, w_callv4, w_calli4, w_call5, w_callv5, w_calli5, w_call6, w_callv6, w_calli6, w_call7, w_callv7, w_calli7, w_call8, w_callv8, w_calli8, c_if0_eq_t, c_if0_eq_f, c_if2_eq_t, c_if2_eq_f, c_if0_ne_t, c_if0_ne_f, c_if2_ne_t, c_if2_ne_f, c_if0_lt_t, c_if0_lt_f, c_if2_lt_t, c_if2_lt_f, c_if0_ge_t, c_if0_ge_f, c_if2_ge_t, c_if2_ge_f, c_if0_gt_t, c_if0_gt_f, c_if2_gt_t, c_if2_gt_f, c_if0_le_t, c_if0_le_f, c_if2_le_t, c_if2_le_f, w_nil, uI_s, uA_r, uA_s, uD_d, mPut_0, mCl_own, mCv_go, mCl_min, mCl_cpy, mCv_obj, mAct_len, mAct_chrc, mAft_v, mAft_n, mAft_x, mGet_0, mSet_0, mGet_1, mSet_1, mGet_2, mSet_2, mGet_3, mSet_3, mGet_4, mSet_4, mGet_5, mSet_5, mGet_6, mSet_6, mGet_7, mSet_7, mGet_8, mSet_8, mGet_9, mSet_9, mGet_10, mSet_10, mGet_11, mSet_11, mGet_12, mSet_12, mGet_13, mSet_13, bk_Mo_beginsBasin_6, ym_k hm, ym_52 hm, ym_k52 hm, ym_l52 hm, hl, wr]
    refine l_mCpT hm k c (i + 1) _ (by omega) (by omega) (fun a ha => by rw [up_fa ha]; exact ho a ha) (fun j j0 j1 => ?_)
    by_cases e : j = i
    · rw [up_eq rfl e, e]
    · rw [up_nk e]; exact hv j j0 (by omega)
theorem p_mBegin {z : Int} (hm : yM S n) (hz : I (n + 42) = (fun _ => 0)) (h1 : I (n + 1) = (fun _ => 0)) (kk : ∀ (I' : mN) (z' : Int), (∀ a : Int, a ≠ n → a ≠ n + 1 → (a < n + 33 ∨ n + 42 < a) → I' a = I a) → (∀ k : Int, (k < 46 ∨ 51 < k) → (k < 55 ∨ 62 < k) → I' n k = I n k) → I' n 55 = 0 → I' n 61 = -1 → I' (n + 1) = sFst → zDra (I' (n + 42)) → Q (.inl none) I' (mSx S n z')) : mRun (D + 20) 341 [mR n] I (mSx S n z) Q := by
  have hmz := yM_x (z := z) hm
  have hl : mLen 36 = 361 := by decide +kernel
  simp (disch := first | omega | exact Nat.le_of_ble_eq_true rfl) only [w_iconst, w_bipush, w_sipush, w_ldc_s, w_ldcw_s, w_ldc_i, w_ldcw_i, w_lconst, w_fconst, w_dconst, w_iload, w_iload_n, w_aload, w_aload_n, w_dload, w_istore, w_istore_n, w_astore_r, w_astore_s, w_astore_n_r, w_astore_n_s, w_dstore, w_iinc, w_iadd, w_isub, w_imul, w_iand, w_iushr, v_idiv, v_irem, w_ineg, w_i2l, w_i2c, w_i2f, w_i2d, v_f2d, w_lcmp, w_dcmp, v_fdiv, v_ddiv, w_dup_i, w_dup_r, w_dup2, w_dup_x2, w_pop_i, w_pop_r, w_goto, w_switch, w_ret_i, v_ret_z, v_ret_c, w_ret_a, w_ret_s, w_ret_f, w_ret_d, w_ret_v, v_iaload, v_baload, v_caload, v_laload, v_aaload, v_iastore, v_bastore, v_castore, v_lastore, v_aastore, v_alen, v_newa, v_anewa, w_new, w_throw, w_dead, v_getf_i, v_getf_z, v_getf_r, v_putf_i, v_putf_z, v_putf_r, w_call0, w_call1, w_callv1, w_calli1, w_callt1, w_call2, w_callv2, w_calli2, w_callt2, w_call3, w_callv3, w_calli3, w_call4, w_callv4, w_calli4, w_call5, w_callv5, w_calli5, w_call6, w_callv6, w_calli6, w_call7, w_callv7, w_calli7, w_call8, w_callv8, w_calli8, c_if0_eq_t, c_if0_eq_f, c_if2_eq_t, c_if2_eq_f, c_if0_ne_t, c_if0_ne_f, c_if2_ne_t, c_if2_ne_f, c_if0_lt_t, c_if0_lt_f, c_if2_lt_t, c_if2_lt_f, c_if0_ge_t, c_if0_ge_f, c_if2_ge_t, c_if2_ge_f, c_if0_gt_t, c_if0_gt_f, c_if2_gt_t, c_if2_gt_f, c_if0_le_t, c_if0_le_f, c_if2_le_t, c_if2_le_f, w_nil, uI_s, uA_r, uA_s, uD_d, mPut_0, mCl_own, mCv_go, mCl_min, mCl_cpy, mCv_obj, mAct_len, mAct_chrc, mAft_v, mAft_n, mAft_x, mGet_0, mSet_0, mGet_1, mSet_1, mGet_2, mSet_2, mGet_3, mSet_3, mGet_4, mSet_4, mGet_5, mSet_5, mGet_6, mSet_6, mGet_7, mSet_7, mGet_8, mSet_8, mGet_9, mSet_9, mGet_10, mSet_10, mGet_11, mSet_11, mGet_12, mSet_12, mGet_13, mSet_13, e_Mo_beginsBasin, a_Mo_beginsBasin_0, bk_Mo_beginsBasin_0]
  refine l_mCpT (D + 19) hmz (I0 := I) (fun I1 o1 v1 => ?_) 361 0 I rfl (Int.le_refl 0) (fun _ _ => rfl) (fun j j0 j1 => by omega)
  rw [a_Mo_beginsBasin_31]
  have ht : zTxM (mUp I1 n 55 361) n (mTxt 36) 361 := ⟨up_eq rfl rfl, fun i i0 i1 => by rw [up_fa (by omega)]; exact v1 i i0 i1⟩
  have hd : zDra ((mUp I1 n 55 361) (n + 42)) := by
    rw [up_fa (by omega), o1 (n + 42) (by omega), hz]; exact zDra_w ⟨sWf_0, sZ_0⟩
  have oo : ∀ a : Int, a ≠ n → a ≠ n + 40 → (mUp I1 n 55 361) a = I a := fun a a0 a1 => by rw [up_fa a0]; exact o1 a a1
  have on : ∀ k : Int, k ≠ 55 → (mUp I1 n 55 361) n k = I n k := fun k hk => by rw [up_nk hk, o1 n (by omega)]
  generalize hJ : mUp I1 n 55 361 = J at ht hd oo on
  simp (disch := first | omega | exact Nat.le_of_ble_eq_true rfl | (simp (disch := omega) only [ym_k hmz, ym_52 hmz, ym_k52 hmz, ym_l52 hmz, hl] <;> omega)) only [w_iconst, w_bipush, w_sipush, w_ldc_s, w_ldcw_s, w_ldc_i, w_ldcw_i, w_lconst, w_fconst, w_dconst, w_iload, w_iload_n, w_aload, w_aload_n, w_dload, w_istore, w_istore_n, w_astore_r, w_astore_s, w_astore_n_r, w_astore_n_s, w_dstore, w_iinc, w_iadd, w_isub, w_imul, w_iand, w_iushr, v_idiv, v_irem, w_ineg, w_i2l, w_i2c, w_i2f, w_i2d, v_f2d, w_lcmp, w_dcmp, v_fdiv, v_ddiv, w_dup_i, w_dup_r, w_dup2, w_dup_x2, w_pop_i, w_pop_r, w_goto, w_switch, w_ret_i, v_ret_z, v_ret_c, w_ret_a, w_ret_s, w_ret_f, w_ret_d, w_ret_v, v_iaload, v_baload, v_caload, v_laload, v_aaload, v_iastore, v_bastore, v_castore, v_lastore, v_aastore, v_alen, v_newa, v_anewa, w_new, w_throw, w_dead, v_getf_i, v_getf_z, v_getf_r, v_putf_i, v_putf_z, v_putf_r, w_call0, w_call1, w_callv1, w_calli1, w_callt1, w_call2, w_callv2, w_calli2, w_callt2, w_call3, w_callv3, w_calli3, w_call4, w_callv4, w_calli4, w_call5, w_callv5, w_calli5, w_call6, w_callv6, w_calli6, w_call7, w_callv7, w_calli7, w_call8, w_callv8, w_calli8, c_if0_eq_t, c_if0_eq_f, c_if2_eq_t, c_if2_eq_f, c_if0_ne_t, c_if0_ne_f, c_if2_ne_t, c_if2_ne_f, c_if0_lt_t, c_if0_lt_f, c_if2_lt_t, c_if2_lt_f, c_if0_ge_t, c_if0_ge_f, c_if2_ge_t, c_if2_ge_f, c_if0_gt_t, c_if0_gt_f, c_if2_gt_t, c_if2_gt_f, c_if0_le_t, c_if0_le_f, c_if2_le_t, c_if2_le_f, w_nil, uI_s, uA_r, uA_s, uD_d, mPut_0, mCl_own, mCv_go, mCl_min, mCl_cpy, mCv_obj, mAct_len, mAct_chrc, mAft_v, mAft_n, mAft_x, mGet_0, mSet_0, mGet_1, mSet_1, mGet_2, mSet_2, mGet_3, mSet_3, mGet_4, mSet_4, mGet_5, mSet_5, mGet_6, mSet_6, mGet_7, mSet_7, mGet_8, mSet_8, mGet_9, mSet_9, mGet_10, mSet_10, mGet_11, mSet_11, mGet_12, mSet_12, mGet_13, mSet_13, bk_Mo_beginsBasin_31, ym_k hmz, ym_52 hmz, ym_k52 hmz, ym_l52 hmz, hl, hJ]
  refine p_mBuf (D + 6) z hm (by decide) (by decide) ht hd (fun I2 z2 f2 h55 hyes _ hdr _ => ?_)
  obtain ⟨y61, y42⟩ := hyes tTop
  have hm2 := yM_x (z := z2) hm
  rw [tTop]
  simp (disch := first | omega | exact Nat.le_of_ble_eq_true rfl | (simp (disch := omega) only [ym_k hm2] <;> omega)) only [w_iconst, w_bipush, w_sipush, w_ldc_s, w_ldcw_s, w_ldc_i, w_ldcw_i, w_lconst, w_fconst, w_dconst, w_iload, w_iload_n, w_aload, w_aload_n, w_dload, w_istore, w_istore_n, w_astore_r, w_astore_s, w_astore_n_r, w_astore_n_s, w_dstore, w_iinc, w_iadd, w_isub, w_imul, w_iand, w_iushr, v_idiv, v_irem, w_ineg, w_i2l, w_i2c, w_i2f, w_i2d, v_f2d, w_lcmp, w_dcmp, v_fdiv, v_ddiv, w_dup_i, w_dup_r, w_dup2, w_dup_x2, w_pop_i, w_pop_r, w_goto, w_switch, w_ret_i, v_ret_z, v_ret_c, w_ret_a, w_ret_s, w_ret_f, w_ret_d, w_ret_v, v_iaload, v_baload, v_caload, v_laload, v_aaload, v_iastore, v_bastore, v_castore, v_lastore, v_aastore, v_alen, v_newa, v_anewa, w_new, w_throw, w_dead, v_getf_i, v_getf_z, v_getf_r, v_putf_i, v_putf_z, v_putf_r, w_call0, w_call1, w_callv1, w_calli1, w_callt1, w_call2, w_callv2, w_calli2, w_callt2, w_call3, w_callv3, w_calli3, w_call4, w_callv4, w_calli4, w_call5, w_callv5, w_calli5, w_call6, w_callv6, w_calli6, w_call7, w_callv7, w_calli7, w_call8, w_callv8, w_calli8, c_if0_eq_t, c_if0_eq_f, c_if2_eq_t, c_if2_eq_f, c_if0_ne_t, c_if0_ne_f, c_if2_ne_t, c_if2_ne_f, c_if0_lt_t, c_if0_lt_f, c_if2_lt_t, c_if2_lt_f, c_if0_ge_t, c_if0_ge_f, c_if2_ge_t, c_if2_ge_f, c_if0_gt_t, c_if0_gt_f, c_if2_gt_t, c_if2_gt_f, c_if0_le_t, c_if0_le_f, c_if2_le_t, c_if2_le_f, w_nil, uI_s, uA_r, uA_s, uD_d, mPut_0, mCl_own, mCv_go, mCl_min, mCl_cpy, mCv_obj, mAct_len, mAct_chrc, mAft_v, mAft_n, mAft_x, mGet_0, mSet_0, mGet_1, mSet_1, mGet_2, mSet_2, mGet_3, mSet_3, mGet_4, mSet_4, mGet_5, mSet_5, mGet_6, mSet_6, mGet_7, mSet_7, mGet_8, mSet_8, mGet_9, mSet_9, mGet_10, mSet_10, mGet_11, mSet_11, mGet_12, mSet_12, mGet_13, mSet_13, ym_k hm2]
  have y42 : I2 (n + 42) = sFst := y42
  simp (disch := first | omega | exact Nat.le_of_ble_eq_true rfl | (simp (disch := omega) only [ym_k hm2] <;> omega)) only [w_iconst, w_bipush, w_sipush, w_ldc_s, w_ldcw_s, w_ldc_i, w_ldcw_i, w_lconst, w_fconst, w_dconst, w_iload, w_iload_n, w_aload, w_aload_n, w_dload, w_istore, w_istore_n, w_astore_r, w_astore_s, w_astore_n_r, w_astore_n_s, w_dstore, w_iinc, w_iadd, w_isub, w_imul, w_iand, w_iushr, v_idiv, v_irem, w_ineg, w_i2l, w_i2c, w_i2f, w_i2d, v_f2d, w_lcmp, w_dcmp, v_fdiv, v_ddiv, w_dup_i, w_dup_r, w_dup2, w_dup_x2, w_pop_i, w_pop_r, w_goto, w_switch, w_ret_i, v_ret_z, v_ret_c, w_ret_a, w_ret_s, w_ret_f, w_ret_d, w_ret_v, v_iaload, v_baload, v_caload, v_laload, v_aaload, v_iastore, v_bastore, v_castore, v_lastore, v_aastore, v_alen, v_newa, v_anewa, w_new, w_throw, w_dead, v_getf_i, v_getf_z, v_getf_r, v_putf_i, v_putf_z, v_putf_r, w_call0, w_call1, w_callv1, w_calli1, w_callt1, w_call2, w_callv2, w_calli2, w_callt2, w_call3, w_callv3, w_calli3, w_call4, w_callv4, w_calli4, w_call5, w_callv5, w_calli5, w_call6, w_callv6, w_calli6, w_call7, w_callv7, w_calli7, w_call8, w_callv8, w_calli8, c_if0_eq_t, c_if0_eq_f, c_if2_eq_t, c_if2_eq_f, c_if0_ne_t, c_if0_ne_f, c_if2_ne_t, c_if2_ne_f, c_if0_lt_t, c_if0_lt_f, c_if2_lt_t, c_if2_lt_f, c_if0_ge_t, c_if0_ge_f, c_if2_ge_t, c_if2_ge_f, c_if0_gt_t, c_if0_gt_f, c_if2_gt_t, c_if2_gt_f, c_if0_le_t, c_if0_le_f, c_if2_le_t, c_if2_le_f, w_nil, uI_s, uA_r, uA_s, uD_d, mPut_0, mCl_own, mCv_go, mCl_min, mCl_cpy, mCv_obj, mAct_len, mAct_chrc, mAft_v, mAft_n, mAft_x, mGet_0, mSet_0, mGet_1, mSet_1, mGet_2, mSet_2, mGet_3, mSet_3, mGet_4, mSet_4, mGet_5, mSet_5, mGet_6, mSet_6, mGet_7, mSet_7, mGet_8, mSet_8, mGet_9, mSet_9, mGet_10, mSet_10, mGet_11, mSet_11, mGet_12, mSet_12, mGet_13, mSet_13, e_Mo_copiesDraft, a_Mo_copiesDraft_0, bk_Mo_copiesDraft_0, ym_k hm2]
  refine l_cpD (D + 18) hm2 (I0 := I2) (fun I3 o3 v3 => ?_) 1395 0 I2 rfl (Int.le_refl 0) (fun _ _ => rfl) (fun j => by rw [if_neg (by omega)])
  simp (disch := first | omega | exact Nat.le_of_ble_eq_true rfl) only [w_iconst, w_bipush, w_sipush, w_ldc_s, w_ldcw_s, w_ldc_i, w_ldcw_i, w_lconst, w_fconst, w_dconst, w_iload, w_iload_n, w_aload, w_aload_n, w_dload, w_istore, w_istore_n, w_astore_r, w_astore_s, w_astore_n_r, w_astore_n_s, w_dstore, w_iinc, w_iadd, w_isub, w_imul, w_iand, w_iushr, v_idiv, v_irem, w_ineg, w_i2l, w_i2c, w_i2f, w_i2d, v_f2d, w_lcmp, w_dcmp, v_fdiv, v_ddiv, w_dup_i, w_dup_r, w_dup2, w_dup_x2, w_pop_i, w_pop_r, w_goto, w_switch, w_ret_i, v_ret_z, v_ret_c, w_ret_a, w_ret_s, w_ret_f, w_ret_d, w_ret_v, v_iaload, v_baload, v_caload, v_laload, v_aaload, v_iastore, v_bastore, v_castore, v_lastore, v_aastore, v_alen, v_newa, v_anewa, w_new, w_throw, w_dead, v_getf_i, v_getf_z, v_getf_r, v_putf_i, v_putf_z, v_putf_r, w_call0, w_call1, w_callv1, w_calli1, w_callt1, w_call2, w_callv2, w_calli2, w_callt2, w_call3, w_callv3, w_calli3, w_call4, w_callv4, w_calli4, w_call5, w_callv5, w_calli5, w_call6, w_callv6, w_calli6, w_call7, w_callv7, w_calli7, w_call8, w_callv8, w_calli8, c_if0_eq_t, c_if0_eq_f, c_if2_eq_t, c_if2_eq_f, c_if0_ne_t, c_if0_ne_f, c_if2_ne_t, c_if2_ne_f, c_if0_lt_t, c_if0_lt_f, c_if2_lt_t, c_if2_lt_f, c_if0_ge_t, c_if0_ge_f, c_if2_ge_t, c_if2_ge_f, c_if0_gt_t, c_if0_gt_f, c_if2_gt_t, c_if2_gt_f, c_if0_le_t, c_if0_le_f, c_if2_le_t, c_if2_le_f, w_nil, uI_s, uA_r, uA_s, uD_d, mPut_0, mCl_own, mCv_go, mCl_min, mCl_cpy, mCv_obj, mAct_len, mAct_chrc, mAft_v, mAft_n, mAft_x, mGet_0, mSet_0, mGet_1, mSet_1, mGet_2, mSet_2, mGet_3, mSet_3, mGet_4, mSet_4, mGet_5, mSet_5, mGet_6, mSet_6, mGet_7, mSet_7, mGet_8, mSet_8, mGet_9, mSet_9, mGet_10, mSet_10, mGet_11, mSet_11, mGet_12, mSet_12, mGet_13, mSet_13, a_Mo_beginsBasin_52, bk_Mo_beginsBasin_52]
  refine kk I3 z2 (fun a a0 a1 a2 => ?_) (fun k k0 k1 => ?_) ?_ ?_ (funext (fun j => ?_)) ?_
  · rw [o3 a a1, f2.1 a a0 (by omega) (by omega) (by omega), oo a a0 (by omega)]
  · rw [o3 n (by omega), f2.2 k k0 k1, on k (by omega)]
  · rw [o3 n (by omega)]; exact h55
  · rw [o3 n (by omega)]; exact y61
  · rw [v3 j, y42]
    by_cases c : 0 ≤ j ∧ j < 1395
    · rw [if_pos c]
    · rw [if_neg c, f2.1 (n + 1) (by omega) (by omega) (by omega) (by omega), oo (n + 1) (by omega) (by omega), h1, sFst_w.2 j (by omega)]
  · rw [o3 (n + 42) (by omega)]; exact hdr
theorem k_Mo (hn : S.2.2.2.1 = n) (n0 : 0 ≤ n) (kk : ∀ (S' : mH) (I' : mN), (∀ a : Int, a < n → I' a = I a ∧ S'.1 a = S.1 a ∧ S'.2.1 a = S.2.1 a ∧ S'.2.2.1 a = S.2.2.1 a) → S'.2.2.2.1 = n + 47 → S'.2.2.2.2 ≤ S.2.2.2.2 + 100000 → oR S' I' n gSt → Q (.inl none) I' S') : mRun (D + 50) 249 [mR n] (mNewN I S) (mNewH S 12 68) Q := by
  refine k_Moa D hn n0 (fun T J hc hm hJ => ?_)
  obtain ⟨c1, c2, c3, c4⟩ := hc
  unfold bk_Mo_init_0
  simp only [List.drop]
  have hk := ym_k hm
  simp (disch := first | omega | exact Nat.le_of_ble_eq_true rfl | (simp (disch := omega) only [hk] <;> omega)) only [w_iconst, w_bipush, w_sipush, w_ldc_s, w_ldcw_s, w_ldc_i, w_ldcw_i, w_lconst, w_fconst, w_dconst, w_iload, w_iload_n, w_aload, w_aload_n, w_dload, w_istore, w_istore_n, w_astore_r, w_astore_s, w_astore_n_r, w_astore_n_s, w_dstore, w_iinc, w_iadd, w_isub, w_imul, w_iand, w_iushr, v_idiv, v_irem, w_ineg, w_i2l, w_i2c, w_i2f, w_i2d, v_f2d, w_lcmp, w_dcmp, v_fdiv, v_ddiv, w_dup_i, w_dup_r, w_dup2, w_dup_x2, w_pop_i, w_pop_r, w_goto, w_switch, w_ret_i, v_ret_z, v_ret_c, w_ret_a, w_ret_s, w_ret_f, w_ret_d, w_ret_v, v_iaload, v_baload, v_caload, v_laload, v_aaload, v_iastore, v_bastore, v_castore, v_lastore, v_aastore, v_alen, v_newa, v_anewa, w_new, w_throw, w_dead, v_getf_i, v_getf_z, v_getf_r, v_putf_i, v_putf_z, v_putf_r, w_call0, w_call1, w_callv1, w_calli1, w_callt1, w_call2, w_callv2, w_calli2, w_callt2, w_call3, w_callv3, w_calli3, w_call4, w_callv4, w_calli4, w_call5, w_callv5, w_calli5, w_call6, w_callv6, w_calli6, w_call7, w_callv7, w_calli7, w_call8, w_callv8, w_calli8, c_if0_eq_t, c_if0_eq_f, c_if2_eq_t, c_if2_eq_f, c_if0_ne_t, c_if0_ne_f, c_if2_ne_t, c_if2_ne_f, c_if0_lt_t, c_if0_lt_f, c_if2_lt_t, c_if2_lt_f, c_if0_ge_t, c_if0_ge_f, c_if2_ge_t, c_if2_ge_f, c_if0_gt_t, c_if0_gt_f, c_if2_gt_t, c_if2_gt_f, c_if0_le_t, c_if0_le_f, c_if2_le_t, c_if2_le_f, w_nil, uI_s, uA_r, uA_s, uD_d, mPut_0, mCl_own, mCv_go, mCl_min, mCl_cpy, mCv_obj, mAct_len, mAct_chrc, mAft_v, mAft_n, mAft_x, mGet_0, mSet_0, mGet_1, mSet_1, mGet_2, mSet_2, mGet_3, mSet_3, mGet_4, mSet_4, mGet_5, mSet_5, mGet_6, mSet_6, mGet_7, mSet_7, mGet_8, mSet_8, mGet_9, mSet_9, mGet_10, mSet_10, mGet_11, mSet_11, mGet_12, mSet_12, mGet_13, mSet_13, hk]
  refine lw_S (m := n) ?_
  refine p_mBegin (D + 29) hm (c2 _ (by omega) (by omega)) (c2 _ (by omega) (by omega)) (fun I1 z1 o1 n1 h55 h61 hs hd => ?_)
  have hm1 := yM_x (z := z1) hm
  have z : ∀ a : Int, n < a → a < n + 47 → a ≠ n + 1 → (a < n + 33 ∨ n + 42 < a) → I1 a = (fun _ => 0) := fun a a0 a1 a2 a3 => (o1 a (by omega) a2 a3).trans (c2 a a0 a1)
  have e23 := z (n + 23) (by omega) (by omega) (by omega) (by omega)
  have e24 := z (n + 24) (by omega) (by omega) (by omega) (by omega)
  have e16 := z (n + 16) (by omega) (by omega) (by omega) (by omega)
  simp (disch := first | omega | exact Nat.le_of_ble_eq_true rfl | (simp (disch := omega) only [ym_k hm1, ym_24 hm1, ym_k24 hm1, ym_l24 hm1, ym_25 hm1, ym_k25 hm1, ym_l25 hm1] <;> omega)) only [w_iconst, w_bipush, w_sipush, w_ldc_s, w_ldcw_s, w_ldc_i, w_ldcw_i, w_lconst, w_fconst, w_dconst, w_iload, w_iload_n, w_aload, w_aload_n, w_dload, w_istore, w_istore_n, w_astore_r, w_astore_s, w_astore_n_r, w_astore_n_s, w_dstore, w_iinc, w_iadd, w_isub, w_imul, w_iand, w_iushr, v_idiv, v_irem, w_ineg, w_i2l, w_i2c, w_i2f, w_i2d, v_f2d, w_lcmp, w_dcmp, v_fdiv, v_ddiv, w_dup_i, w_dup_r, w_dup2, w_dup_x2, w_pop_i, w_pop_r, w_goto, w_switch, w_ret_i, v_ret_z, v_ret_c, w_ret_a, w_ret_s, w_ret_f, w_ret_d, w_ret_v, v_iaload, v_baload, v_caload, v_laload, v_aaload, v_iastore, v_bastore, v_castore, v_lastore, v_aastore, v_alen, v_newa, v_anewa, w_new, w_throw, w_dead, v_getf_i, v_getf_z, v_getf_r, v_putf_i, v_putf_z, v_putf_r, w_call0, w_call1, w_callv1, w_calli1, w_callt1, w_call2, w_callv2, w_calli2, w_callt2, w_call3, w_callv3, w_calli3, w_call4, w_callv4, w_calli4, w_call5, w_callv5, w_calli5, w_call6, w_callv6, w_calli6, w_call7, w_callv7, w_calli7, w_call8, w_callv8, w_calli8, c_if0_eq_t, c_if0_eq_f, c_if2_eq_t, c_if2_eq_f, c_if0_ne_t, c_if0_ne_f, c_if2_ne_t, c_if2_ne_f, c_if0_lt_t, c_if0_lt_f, c_if2_lt_t, c_if2_lt_f, c_if0_ge_t, c_if0_ge_f, c_if2_ge_t, c_if2_ge_f, c_if0_gt_t, c_if0_gt_f, c_if2_gt_t, c_if2_gt_f, c_if0_le_t, c_if0_le_f, c_if2_le_t, c_if2_le_f, w_nil, uI_s, uA_r, uA_s, uD_d, mPut_0, mCl_own, mCv_go, mCl_min, mCl_cpy, mCv_obj, mAct_len, mAct_chrc, mAft_v, mAft_n, mAft_x, mGet_0, mSet_0, mGet_1, mSet_1, mGet_2, mSet_2, mGet_3, mSet_3, mGet_4, mSet_4, mGet_5, mSet_5, mGet_6, mSet_6, mGet_7, mSet_7, mGet_8, mSet_8, mGet_9, mSet_9, mGet_10, mSet_10, mGet_11, mSet_11, mGet_12, mSet_12, mGet_13, mSet_13, e_Mo_beginJournal, a_Mo_beginJournal_0, bk_Mo_beginJournal_0, ym_k hm1, ym_24 hm1, ym_k24 hm1, ym_l24 hm1, ym_25 hm1, ym_k25 hm1, ym_l25 hm1]
  have v : ∀ k : Int, k ≠ 26 → k ≠ 27 → k ≠ 28 → (mUp (mUp (mUp (mUp (mUp I1 n 26 1) n 27 0) (n + 23) 0 0) (n + 24) 0 0) n 28 (-1)) n k = I1 n k := fun k k0 k1 k2 => by rw [up_nk k2, up_fa (by omega), up_fa (by omega), up_nk k1, up_nk k0]
  have v26 : (mUp (mUp (mUp (mUp (mUp I1 n 26 1) n 27 0) (n + 23) 0 0) (n + 24) 0 0) n 28 (-1)) n 26 = 1 := by rw [up_nk (by decide), up_fa (by omega), up_fa (by omega), up_nk (by decide), up_eq rfl rfl]
  have v27 : (mUp (mUp (mUp (mUp (mUp I1 n 26 1) n 27 0) (n + 23) 0 0) (n + 24) 0 0) n 28 (-1)) n 27 = 0 := by rw [up_nk (by decide), up_fa (by omega), up_fa (by omega), up_eq rfl rfl]
  have v28 : (mUp (mUp (mUp (mUp (mUp I1 n 26 1) n 27 0) (n + 23) 0 0) (n + 24) 0 0) n 28 (-1)) n 28 = -1 := up_eq rfl rfl
  have va : ∀ a : Int, a ≠ n → a ≠ n + 23 → a ≠ n + 24 → (mUp (mUp (mUp (mUp (mUp I1 n 26 1) n 27 0) (n + 23) 0 0) (n + 24) 0 0) n 28 (-1)) a = I1 a := fun a a0 a1 a2 => by rw [up_fa a0, up_fa a2, up_fa a1, up_fa a0, up_fa a0]
  have vb : (mUp (mUp (mUp (mUp (mUp I1 n 26 1) n 27 0) (n + 23) 0 0) (n + 24) 0 0) n 28 (-1)) (n + 23) 0 = 0 := by rw [up_fa (by omega), up_fa (by omega), up_eq rfl rfl]
  have vc : (mUp (mUp (mUp (mUp (mUp I1 n 26 1) n 27 0) (n + 23) 0 0) (n + 24) 0 0) n 28 (-1)) (n + 24) 0 = 0 := by rw [up_fa (by omega), up_eq rfl rfl]
  generalize mUp (mUp (mUp (mUp (mUp I1 n 26 1) n 27 0) (n + 23) 0 0) (n + 24) 0 0) n 28 (-1) = I2 at v v26 v27 v28 va vb vc ⊢
  have g218 : ∀ Q : mQ, mRun (D + 49) 221 [mR n] I2 (mSx T n z1) Q = Q (.inl none) (mUp (mUa I2 (n + 16) (fun j => if 0 ≤ j ∧ j < 3 then 0 else I2 (n + 16) j)) n 17 0) (mSx T n z1) := fun Q => r_forget (D + 48) hm1
  simp (disch := first | omega | exact Nat.le_of_ble_eq_true rfl | (simp (disch := omega) only [ym_k hm1] <;> omega)) only [w_iconst, w_bipush, w_sipush, w_ldc_s, w_ldcw_s, w_ldc_i, w_ldcw_i, w_lconst, w_fconst, w_dconst, w_iload, w_iload_n, w_aload, w_aload_n, w_dload, w_istore, w_istore_n, w_astore_r, w_astore_s, w_astore_n_r, w_astore_n_s, w_dstore, w_iinc, w_iadd, w_isub, w_imul, w_iand, w_iushr, v_idiv, v_irem, w_ineg, w_i2l, w_i2c, w_i2f, w_i2d, v_f2d, w_lcmp, w_dcmp, v_fdiv, v_ddiv, w_dup_i, w_dup_r, w_dup2, w_dup_x2, w_pop_i, w_pop_r, w_goto, w_switch, w_ret_i, v_ret_z, v_ret_c, w_ret_a, w_ret_s, w_ret_f, w_ret_d, w_ret_v, v_iaload, v_baload, v_caload, v_laload, v_aaload, v_iastore, v_bastore, v_castore, v_lastore, v_aastore, v_alen, v_newa, v_anewa, w_new, w_throw, w_dead, v_getf_i, v_getf_z, v_getf_r, v_putf_i, v_putf_z, v_putf_r, w_call0, w_call1, w_callv1, w_calli1, w_callt1, w_call2, w_callv2, w_calli2, w_callt2, w_call3, w_callv3, w_calli3, w_call4, w_callv4, w_calli4, w_call5, w_callv5, w_calli5, w_call6, w_callv6, w_calli6, w_call7, w_callv7, w_calli7, w_call8, w_callv8, w_calli8, c_if0_eq_t, c_if0_eq_f, c_if2_eq_t, c_if2_eq_f, c_if0_ne_t, c_if0_ne_f, c_if2_ne_t, c_if2_ne_f, c_if0_lt_t, c_if0_lt_f, c_if2_lt_t, c_if2_lt_f, c_if0_ge_t, c_if0_ge_f, c_if2_ge_t, c_if2_ge_f, c_if0_gt_t, c_if0_gt_f, c_if2_gt_t, c_if2_gt_f, c_if0_le_t, c_if0_le_f, c_if2_le_t, c_if2_le_f, w_nil, uI_s, uA_r, uA_s, uD_d, mPut_0, mCl_own, mCv_go, mCl_min, mCl_cpy, mCv_obj, mAct_len, mAct_chrc, mAft_v, mAft_n, mAft_x, mGet_0, mSet_0, mGet_1, mSet_1, mGet_2, mSet_2, mGet_3, mSet_3, mGet_4, mSet_4, mGet_5, mSet_5, mGet_6, mSet_6, mGet_7, mSet_7, mGet_8, mSet_8, mGet_9, mSet_9, mGet_10, mSet_10, mGet_11, mSet_11, mGet_12, mSet_12, mGet_13, mSet_13, ym_k hm1, g218]
  have w : ∀ a : Int, a ≠ n → a ≠ n + 16 → (mUp (mUa I2 (n + 16) (fun j => if 0 ≤ j ∧ j < 3 then 0 else I2 (n + 16) j)) n 17 0) a = I2 a := fun a a0 a1 => by rw [up_fa a0, ua_ne a1]
  have w16 : ∀ j : Int, 0 ≤ j → j < 3 → (mUp (mUa I2 (n + 16) (fun j => if 0 ≤ j ∧ j < 3 then 0 else I2 (n + 16) j)) n 17 0) (n + 16) j = 0 := fun j j0 j1 => by rw [up_fa (by omega), ua_eq rfl, if_pos ⟨j0, j1⟩]
  have w17 : (mUp (mUa I2 (n + 16) (fun j => if 0 ≤ j ∧ j < 3 then 0 else I2 (n + 16) j)) n 17 0) n 17 = 0 := up_eq rfl rfl
  have wn : ∀ k : Int, k ≠ 17 → (mUp (mUa I2 (n + 16) (fun j => if 0 ≤ j ∧ j < 3 then 0 else I2 (n + 16) j)) n 17 0) n k = I2 n k := fun k hk => by rw [up_nk hk, ua_ne (by omega)]
  generalize mUp (mUa I2 (n + 16) (fun j => if 0 ≤ j ∧ j < 3 then 0 else I2 (n + 16) j)) n 17 0 = I3 at w w16 w17 wn ⊢
  obtain ⟨g0, g1, g2, g3, g4, g5⟩ := gSt_v
  have lo : ∀ a : Int, a < n → I3 a = I a := fun a ha => by rw [w a (by omega) (by omega), va a (by omega) (by omega) (by omega), o1 a (by omega) (by omega) (by omega)]; exact (c1 a ha).1
  have z3 : ∀ a : Int, n < a → a < n + 47 → a ≠ n + 1 → a ≠ n + 16 → a ≠ n + 23 → a ≠ n + 24 → (a < n + 33 ∨ n + 42 < a) → I3 a = (fun _ => 0) := fun a a0 a1 a2 a3 a4 a5 a6 => by rw [w a (by omega) a3, va a (by omega) a4 a5]; exact z a a0 a1 a2 a6
  refine kk (mSx T n z1) I3 (fun a ha => ⟨lo a ha, (up_fa (by omega)).trans (c1 a ha).2.1, (c1 a ha).2.2⟩) c3 (by show T.2.2.2.2 ≤ _; omega) ⟨hm1, ⟨?_, fun s s0 s1 => ⟨Or.inl (w16 s s0 s1), fun h => ?_⟩, ⟨Or.inl w17, fun h => ?_⟩⟩, fun k j k0 k1 j0 j1 hkj => ?_, fun k k0 k1 => ?_, ⟨?_, ?_, ?_, fun h => ?_⟩, fun x _ _ => ?_, ⟨?_, ?_, fun i i0 i1 => ?_⟩, ⟨?_, fun i i0 i1 => ?_⟩, fun c hc => ⟨?_, ?_, ?_⟩⟩
  · rw [gSt_O, w _ (by omega) (by omega), va _ (by omega) (by omega) (by omega)]; exact hs
  · rw [w16 s s0 s1] at h; exact absurd h (by decide)
  · rw [w17] at h; exact absurd h (by decide)
  · rw [g0] at k1
    rw [(gSt_b k k0).2] at j1
    obtain rfl : k = 0 := by omega
    obtain rfl : j = 0 := by omega
    rw [g1, (gSt_b 0 (Int.le_refl 0)).1] at hkj
    rcases hkj with h | h <;> exact absurd rfl h
  · rw [g0] at k1
    obtain rfl : k = 0 := by omega
    rw [w _ (by omega) (by omega), w (n + 24) (by omega) (by omega), vb, vc, (gSt_b 0 (Int.le_refl 0)).1, (gSt_b 0 (Int.le_refl 0)).2]
    exact ⟨rfl, rfl⟩
  · rw [wn 26 (by decide), v26, g0]
  · rw [wn 27 (by decide), v27, g1]
  · rw [wn 28 (by decide), v28, g5]
  · exact absurd g5 h
  · rw [z3 _ (by omega) (by omega) (by omega) (by omega) (by omega) (by omega) (by omega)]; rfl
  · rw [wn 55 (by decide), v 55 (by decide) (by decide) (by decide), h55, g2]
  · rw [wn 61 (by decide), v 61 (by decide) (by decide) (by decide), h61, g3]
  · rw [g2] at i1; omega
  · rw [wn 64 (by decide), v 64 (by decide) (by decide) (by decide), n1 64 (by decide) (by decide), hJ, g4]
    rfl
  · rw [g4] at i1; omega
  · rw [z3 _ (by omega) (by omega) (by omega) (by omega) (by omega) (by omega) (by omega)]
  · rw [w _ (by omega) (by omega), va _ (by omega) (by omega) (by omega)]; exact hd
  · rw [z3 _ (by omega) (by omega) (by omega) (by omega) (by omega) (by omega) (by omega)]
end KM
