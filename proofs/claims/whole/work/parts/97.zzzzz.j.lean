/-! The law's loop. -/
section LO
variable {b L x : Int} {Q : mQ} (D : Nat)
theorem lw_sw {S : mH} {I : mN} {i c v : Int} {G : gT} {o5 o6 o7 o8 : Option mV} (v0 : 0 ≤ v) (v1 : v ≤ 63) (hL : L ≤ 3072) (i0 : 0 ≤ i) (i6 : i + 6 ≤ L) (hb0 : b < x) (h : lJn b L x c S I G) (kk : ∀ (S' : mH) (I' : mN) (G' : gT) (o5 o6 o7 o8 : Option mV), lJn b L x (c + 1) S' I' G' → mAt (mRun (D + 51)) 413 3531 ([some (mR b), some (mR x), some (mR (x + 2369)), some (mR (x + 2416)), some (mI i), o5, o6, o7, o8], [], I', S') Q) (k9 : lJn b L x (c + 1) S I G) : mSw (fun pc c => mAt (mRun (D + 51)) 413 pc c Q) v 0 3531 [284, 388, 401, 445, 458, 471, 527, 595, 687, 767, 847, 939, 995, 1051, 1119, 1223, 1315, 1383, 1451, 1495, 1508, 1521, 1565, 1621, 1677, 1690, 1703, 1716, 1729, 1797, 1877, 1957, 2037, 2093, 2149, 2205, 2285, 2341, 2409, 2477, 2545, 2613, 2626, 2694, 2762, 2865, 2878, 2953, 2966, 3034, 3102, 3170, 3238, 3342, 3434, 3475, 3518] ([some (mR b), some (mR x), some (mR (x + 2369)), some (mR (x + 2416)), some (mI i), o5, o6, o7, o8], [], I, S) := by
  by_cases e0 : v = 0
  · rw [sw_k 0 284 (by decide) (by omega) rfl]
    exact lc_0 D hL i0 i6 hb0 h kk
  by_cases e1 : v = 1
  · rw [sw_k 1 388 (by decide) (by omega) rfl]
    exact lc_1 D hL i0 i6 hb0 h kk
  by_cases e2 : v = 2
  · rw [sw_k 2 401 (by decide) (by omega) rfl]
    exact lc_2 D hL i0 i6 hb0 h kk
  by_cases e3 : v = 3
  · rw [sw_k 3 445 (by decide) (by omega) rfl]
    exact lc_3 D hL i0 i6 hb0 h kk
  by_cases e4 : v = 4
  · rw [sw_k 4 458 (by decide) (by omega) rfl]
    exact lc_4 D hL i0 i6 hb0 h kk
  by_cases e5 : v = 5
  · rw [sw_k 5 471 (by decide) (by omega) rfl]
    exact lc_5 D hL i0 i6 hb0 h kk
  by_cases e6 : v = 6
  · rw [sw_k 6 527 (by decide) (by omega) rfl]
    exact lc_6 D hL i0 i6 hb0 h kk
  by_cases e7 : v = 7
  · rw [sw_k 7 595 (by decide) (by omega) rfl]
    exact lc_7 D hL i0 i6 hb0 h kk
  by_cases e8 : v = 8
  · rw [sw_k 8 687 (by decide) (by omega) rfl]
    exact lc_8 D hL i0 i6 hb0 h kk
  by_cases e9 : v = 9
  · rw [sw_k 9 767 (by decide) (by omega) rfl]
    exact lc_9 D hL i0 i6 hb0 h kk
  by_cases e10 : v = 10
  · rw [sw_k 10 847 (by decide) (by omega) rfl]
    exact lc_10 D hL i0 i6 hb0 h kk
  by_cases e11 : v = 11
  · rw [sw_k 11 939 (by decide) (by omega) rfl]
    exact lc_11 D hL i0 i6 hb0 h kk
  by_cases e12 : v = 12
  · rw [sw_k 12 995 (by decide) (by omega) rfl]
    exact lc_12 D hL i0 i6 hb0 h kk
  by_cases e13 : v = 13
  · rw [sw_k 13 1051 (by decide) (by omega) rfl]
    exact lc_13 D hL i0 i6 hb0 h kk
  by_cases e14 : v = 14
  · rw [sw_k 14 1119 (by decide) (by omega) rfl]
    exact lc_14 D hL i0 i6 hb0 h kk
  by_cases e15 : v = 15
  · rw [sw_k 15 1223 (by decide) (by omega) rfl]
    exact lc_15 D hL i0 i6 hb0 h kk
  by_cases e16 : v = 16
  · rw [sw_k 16 1315 (by decide) (by omega) rfl]
    exact lc_16 D hL i0 i6 hb0 h kk
  by_cases e17 : v = 17
  · rw [sw_k 17 1383 (by decide) (by omega) rfl]
    exact lc_17 D hL i0 i6 hb0 h kk
  by_cases e18 : v = 18
  · rw [sw_k 18 1451 (by decide) (by omega) rfl]
    exact lc_18 D hL i0 i6 hb0 h kk
  by_cases e19 : v = 19
  · rw [sw_k 19 1495 (by decide) (by omega) rfl]
    exact lc_19 D hL i0 i6 hb0 h kk
  by_cases e20 : v = 20
  · rw [sw_k 20 1508 (by decide) (by omega) rfl]
    exact lc_20 D hL i0 i6 hb0 h kk
  by_cases e21 : v = 21
  · rw [sw_k 21 1521 (by decide) (by omega) rfl]
    exact lc_21 D hL i0 i6 hb0 h kk
  by_cases e22 : v = 22
  · rw [sw_k 22 1565 (by decide) (by omega) rfl]
    exact lc_22 D hL i0 i6 hb0 h kk
  by_cases e23 : v = 23
  · rw [sw_k 23 1621 (by decide) (by omega) rfl]
    exact lc_23 D hL i0 i6 hb0 h kk
  by_cases e24 : v = 24
  · rw [sw_k 24 1677 (by decide) (by omega) rfl]
    exact lc_24 D hL i0 i6 hb0 h kk
  by_cases e25 : v = 25
  · rw [sw_k 25 1690 (by decide) (by omega) rfl]
    exact lc_25 D hL i0 i6 hb0 h kk
  by_cases e26 : v = 26
  · rw [sw_k 26 1703 (by decide) (by omega) rfl]
    exact lc_26 D hL i0 i6 hb0 h kk
  by_cases e27 : v = 27
  · rw [sw_k 27 1716 (by decide) (by omega) rfl]
    exact lc_27 D hL i0 i6 hb0 h kk
  by_cases e28 : v = 28
  · rw [sw_k 28 1729 (by decide) (by omega) rfl]
    exact lc_28 D hL i0 i6 hb0 h kk
  by_cases e29 : v = 29
  · rw [sw_k 29 1797 (by decide) (by omega) rfl]
    exact lc_29 D hL i0 i6 hb0 h kk
  by_cases e30 : v = 30
  · rw [sw_k 30 1877 (by decide) (by omega) rfl]
    exact lc_30 D hL i0 i6 hb0 h kk
  by_cases e31 : v = 31
  · rw [sw_k 31 1957 (by decide) (by omega) rfl]
    exact lc_31 D hL i0 i6 hb0 h kk
  by_cases e32 : v = 32
  · rw [sw_k 32 2037 (by decide) (by omega) rfl]
    exact lc_32 D hL i0 i6 hb0 h kk
  by_cases e33 : v = 33
  · rw [sw_k 33 2093 (by decide) (by omega) rfl]
    exact lc_33 D hL i0 i6 hb0 h kk
  by_cases e34 : v = 34
  · rw [sw_k 34 2149 (by decide) (by omega) rfl]
    exact lc_34 D hL i0 i6 hb0 h kk
  by_cases e35 : v = 35
  · rw [sw_k 35 2205 (by decide) (by omega) rfl]
    exact lc_35 D hL i0 i6 hb0 h kk
  by_cases e36 : v = 36
  · rw [sw_k 36 2285 (by decide) (by omega) rfl]
    exact lc_36 D hL i0 i6 hb0 h kk
  by_cases e37 : v = 37
  · rw [sw_k 37 2341 (by decide) (by omega) rfl]
    exact lc_37 D hL i0 i6 hb0 h kk
  by_cases e38 : v = 38
  · rw [sw_k 38 2409 (by decide) (by omega) rfl]
    exact lc_38 D hL i0 i6 hb0 h kk
  by_cases e39 : v = 39
  · rw [sw_k 39 2477 (by decide) (by omega) rfl]
    exact lc_39 D hL i0 i6 hb0 h kk
  by_cases e40 : v = 40
  · rw [sw_k 40 2545 (by decide) (by omega) rfl]
    exact lc_40 D hL i0 i6 hb0 h kk
  by_cases e41 : v = 41
  · rw [sw_k 41 2613 (by decide) (by omega) rfl]
    exact lc_41 D hL i0 i6 hb0 h kk
  by_cases e42 : v = 42
  · rw [sw_k 42 2626 (by decide) (by omega) rfl]
    exact lc_42 D hL i0 i6 hb0 h kk
  by_cases e43 : v = 43
  · rw [sw_k 43 2694 (by decide) (by omega) rfl]
    exact lc_43 D hL i0 i6 hb0 h kk
  by_cases e44 : v = 44
  · rw [sw_k 44 2762 (by decide) (by omega) rfl]
    exact lc_44 D hL i0 i6 hb0 h kk
  by_cases e45 : v = 45
  · rw [sw_k 45 2865 (by decide) (by omega) rfl]
    exact lc_45 D hL i0 i6 hb0 h kk
  by_cases e46 : v = 46
  · rw [sw_k 46 2878 (by decide) (by omega) rfl]
    exact lc_46 D hL i0 i6 hb0 h kk
  by_cases e47 : v = 47
  · rw [sw_k 47 2953 (by decide) (by omega) rfl]
    exact lc_47 D hL i0 i6 hb0 h kk
  by_cases e48 : v = 48
  · rw [sw_k 48 2966 (by decide) (by omega) rfl]
    exact lc_48 D hL i0 i6 hb0 h kk
  by_cases e49 : v = 49
  · rw [sw_k 49 3034 (by decide) (by omega) rfl]
    exact lc_49 D hL i0 i6 hb0 h kk
  by_cases e50 : v = 50
  · rw [sw_k 50 3102 (by decide) (by omega) rfl]
    exact lc_50 D hL i0 i6 hb0 h kk
  by_cases e51 : v = 51
  · rw [sw_k 51 3170 (by decide) (by omega) rfl]
    exact lc_51 D hL i0 i6 hb0 h kk
  by_cases e52 : v = 52
  · rw [sw_k 52 3238 (by decide) (by omega) rfl]
    exact lc_52 D hL i0 i6 hb0 h kk
  by_cases e53 : v = 53
  · rw [sw_k 53 3342 (by decide) (by omega) rfl]
    exact lc_53 D hL i0 i6 hb0 h kk
  by_cases e54 : v = 54
  · rw [sw_k 54 3434 (by decide) (by omega) rfl]
    exact lc_54 D hL i0 i6 hb0 h kk
  by_cases e55 : v = 55
  · rw [sw_k 55 3475 (by decide) (by omega) rfl]
    exact lc_55 D hL i0 i6 hb0 h kk
  by_cases e56 : v = 56
  · rw [sw_k 56 3518 (by decide) (by omega) rfl]
    exact lc_56 D hL i0 i6 hb0 h kk
  rw [sw_d (Or.inr (by show 0 + ((57 : Nat) : Int) ≤ v; omega))]
  exact kk S I G _ _ _ _ k9
theorem lw_loop (hL : L ≤ 3072) (hL0 : 0 ≤ L) (hb0 : b < x) : ∀ (n : Nat) (i c : Int) (S : mH) (I : mN) (G : gT) (o5 o6 o7 o8 : Option mV), 0 ≤ i → i ≤ 4000 → L < i + 6 * ((n : Int) + 1) → lJn b L x c S I G → (∀ (S' : mH) (I' : mN), S'.2.2.2.1 ≤ x + 2417 + (c + n) → S'.2.2.2.2 ≤ 7000000 + 6 * (c + n) → Q (.inl (some (mI 1))) I' S') → mAt (mRun (D + 51)) 413 23 ([some (mR b), some (mR x), some (mR (x + 2369)), some (mR (x + 2416)), some (mI i), o5, o6, o7, o8], [], I, S) Q
  | 0, i, c, S, I, G, o5, o6, o7, o8, i0, i9, hn, h, kk => by
    obtain ⟨⟨hb1, hb2⟩, -, -, -, -, -, hn1, hs1⟩ := id h
    rw [a_La_law_23]
    simp (disch := first | omega | exact Nat.le_of_ble_eq_true rfl | (simp (disch := omega) only [hb1, hb2] <;> omega)) only [w_iconst, w_bipush, w_sipush, w_ldc_s, w_ldcw_s, w_ldc_i, w_ldcw_i, w_lconst, w_fconst, w_dconst, w_iload, w_iload_n, w_aload, w_aload_n, w_dload, w_istore, w_istore_n, w_astore_r, w_astore_s, w_astore_n_r, w_astore_n_s, w_dstore, w_iinc, w_iadd, w_isub, w_imul, w_iand, w_iushr, v_idiv, v_irem, w_ineg, w_i2l, w_i2c, w_i2f, w_i2d, v_f2d, w_lcmp, w_dcmp, v_fdiv, v_ddiv, w_dup_i, w_dup_r, w_dup2, w_dup_x2, w_pop_i, w_pop_r, w_goto, w_switch, w_ret_i, v_ret_z, v_ret_c, w_ret_a, w_ret_s, w_ret_f, w_ret_d, w_ret_v, v_iaload, v_baload, v_caload, v_laload, v_aaload, v_iastore, v_bastore, v_castore, v_lastore, v_aastore, v_alen, v_newa, v_anewa, w_new, w_throw, w_dead, v_getf_i, v_getf_z, v_getf_r, v_putf_i, v_putf_z, v_putf_r, w_call0, w_call1, w_callv1, w_calli1, w_callt1, w_call2, w_callv2, w_calli2, w_callt2, w_call3, w_callv3, w_calli3, w_call4, w_callv4, w_calli4, w_call5, w_callv5, w_calli5, w_call6, w_callv6, w_calli6, w_call7, w_callv7, w_calli7, w_call8, w_callv8, w_calli8, c_if0_eq_t, c_if0_eq_f, c_if2_eq_t, c_if2_eq_f, c_if0_ne_t, c_if0_ne_f, c_if2_ne_t, c_if2_ne_f, c_if0_lt_t, c_if0_lt_f, c_if2_lt_t, c_if2_lt_f, c_if0_ge_t, c_if0_ge_f, c_if2_ge_t, c_if2_ge_f, c_if0_gt_t, c_if0_gt_f, c_if2_gt_t, c_if2_gt_f, c_if0_le_t, c_if0_le_f, c_if2_le_t, c_if2_le_f, w_nil, uI_s, uA_r, uA_s, uD_d, mPut_0, mCl_own, mCv_go, mCl_min, mCl_cpy, mCv_obj, mAct_len, mAct_chrc, mAft_v, mAft_n, mAft_x, mGet_0, mSet_0, mGet_1, mSet_1, mGet_2, mSet_2, mGet_3, mSet_3, mGet_4, mSet_4, mGet_5, mSet_5, mGet_6, mSet_6, mGet_7, mSet_7, mGet_8, mSet_8, mGet_9, mSet_9, mGet_10, mSet_10, mGet_11, mSet_11, mGet_12, mSet_12, mGet_13, mSet_13, bk_La_law_23, hb1, hb2, wr, a_La_law_3537, bk_La_law_3537]
    exact kk S I (by omega) (by omega)
  | n + 1, i, c, S, I, G, o5, o6, o7, o8, i0, i9, hn, h, kk => by
    obtain ⟨⟨hb1, hb2⟩, hg, h5, hx, hm, ho, hn1, hs1⟩ := id h
    rw [a_La_law_23]
    by_cases e : i + 6 ≤ L
    · have ba := and63 (I b i)
      simp (disch := first | omega | exact Nat.le_of_ble_eq_true rfl | (simp (disch := omega) only [hb1, hb2] <;> omega)) only [w_iconst, w_bipush, w_sipush, w_ldc_s, w_ldcw_s, w_ldc_i, w_ldcw_i, w_lconst, w_fconst, w_dconst, w_iload, w_iload_n, w_aload, w_aload_n, w_dload, w_istore, w_istore_n, w_astore_r, w_astore_s, w_astore_n_r, w_astore_n_s, w_dstore, w_iinc, w_iadd, w_isub, w_imul, w_iand, w_iushr, v_idiv, v_irem, w_ineg, w_i2l, w_i2c, w_i2f, w_i2d, v_f2d, w_lcmp, w_dcmp, v_fdiv, v_ddiv, w_dup_i, w_dup_r, w_dup2, w_dup_x2, w_pop_i, w_pop_r, w_goto, w_switch, w_ret_i, v_ret_z, v_ret_c, w_ret_a, w_ret_s, w_ret_f, w_ret_d, w_ret_v, v_iaload, v_baload, v_caload, v_laload, v_aaload, v_iastore, v_bastore, v_castore, v_lastore, v_aastore, v_alen, v_newa, v_anewa, w_new, w_throw, w_dead, v_getf_i, v_getf_z, v_getf_r, v_putf_i, v_putf_z, v_putf_r, w_call0, w_call1, w_callv1, w_calli1, w_callt1, w_call2, w_callv2, w_calli2, w_callt2, w_call3, w_callv3, w_calli3, w_call4, w_callv4, w_calli4, w_call5, w_callv5, w_calli5, w_call6, w_callv6, w_calli6, w_call7, w_callv7, w_calli7, w_call8, w_callv8, w_calli8, c_if0_eq_t, c_if0_eq_f, c_if2_eq_t, c_if2_eq_f, c_if0_ne_t, c_if0_ne_f, c_if2_ne_t, c_if2_ne_f, c_if0_lt_t, c_if0_lt_f, c_if2_lt_t, c_if2_lt_f, c_if0_ge_t, c_if0_ge_f, c_if2_ge_t, c_if2_ge_f, c_if0_gt_t, c_if0_gt_f, c_if2_gt_t, c_if2_gt_f, c_if0_le_t, c_if0_le_f, c_if2_le_t, c_if2_le_f, w_nil, uI_s, uA_r, uA_s, uD_d, mPut_0, mCl_own, mCv_go, mCl_min, mCl_cpy, mCv_obj, mAct_len, mAct_chrc, mAft_v, mAft_n, mAft_x, mGet_0, mSet_0, mGet_1, mSet_1, mGet_2, mSet_2, mGet_3, mSet_3, mGet_4, mSet_4, mGet_5, mSet_5, mGet_6, mSet_6, mGet_7, mSet_7, mGet_8, mSet_8, mGet_9, mSet_9, mGet_10, mSet_10, mGet_11, mSet_11, mGet_12, mSet_12, mGet_13, mSet_13, bk_La_law_23, hb1, hb2, wr]
      have k9 : lJn b L x (c + 1) S I G := ⟨⟨hb1, hb2⟩, hg, h5, hx, hm, ho, by omega, by omega⟩
      refine lw_sw D ba.1 ba.2 hL i0 e hb0 h (fun S' I' G' p5 p6 p7 p8 h' => ?_) k9
      rw [a_La_law_3531]
      simp (disch := first | omega | exact Nat.le_of_ble_eq_true rfl) only [w_iconst, w_bipush, w_sipush, w_ldc_s, w_ldcw_s, w_ldc_i, w_ldcw_i, w_lconst, w_fconst, w_dconst, w_iload, w_iload_n, w_aload, w_aload_n, w_dload, w_istore, w_istore_n, w_astore_r, w_astore_s, w_astore_n_r, w_astore_n_s, w_dstore, w_iinc, w_iadd, w_isub, w_imul, w_iand, w_iushr, v_idiv, v_irem, w_ineg, w_i2l, w_i2c, w_i2f, w_i2d, v_f2d, w_lcmp, w_dcmp, v_fdiv, v_ddiv, w_dup_i, w_dup_r, w_dup2, w_dup_x2, w_pop_i, w_pop_r, w_goto, w_switch, w_ret_i, v_ret_z, v_ret_c, w_ret_a, w_ret_s, w_ret_f, w_ret_d, w_ret_v, v_iaload, v_baload, v_caload, v_laload, v_aaload, v_iastore, v_bastore, v_castore, v_lastore, v_aastore, v_alen, v_newa, v_anewa, w_new, w_throw, w_dead, v_getf_i, v_getf_z, v_getf_r, v_putf_i, v_putf_z, v_putf_r, w_call0, w_call1, w_callv1, w_calli1, w_callt1, w_call2, w_callv2, w_calli2, w_callt2, w_call3, w_callv3, w_calli3, w_call4, w_callv4, w_calli4, w_call5, w_callv5, w_calli5, w_call6, w_callv6, w_calli6, w_call7, w_callv7, w_calli7, w_call8, w_callv8, w_calli8, c_if0_eq_t, c_if0_eq_f, c_if2_eq_t, c_if2_eq_f, c_if0_ne_t, c_if0_ne_f, c_if2_ne_t, c_if2_ne_f, c_if0_lt_t, c_if0_lt_f, c_if2_lt_t, c_if2_lt_f, c_if0_ge_t, c_if0_ge_f, c_if2_ge_t, c_if2_ge_f, c_if0_gt_t, c_if0_gt_f, c_if2_gt_t, c_if2_gt_f, c_if0_le_t, c_if0_le_f, c_if2_le_t, c_if2_le_f, w_nil, uI_s, uA_r, uA_s, uD_d, mPut_0, mCl_own, mCv_go, mCl_min, mCl_cpy, mCv_obj, mAct_len, mAct_chrc, mAft_v, mAft_n, mAft_x, mGet_0, mSet_0, mGet_1, mSet_1, mGet_2, mSet_2, mGet_3, mSet_3, mGet_4, mSet_4, mGet_5, mSet_5, mGet_6, mSet_6, mGet_7, mSet_7, mGet_8, mSet_8, mGet_9, mSet_9, mGet_10, mSet_10, mGet_11, mSet_11, mGet_12, mSet_12, mGet_13, mSet_13, bk_La_law_3531, lq_4, wr]
      exact lw_loop hL hL0 hb0 n (i + 6) (c + 1) S' I' G' _ _ _ _ (by omega) (by omega) (by omega) h' (fun S2 I2 q1 q2 => kk S2 I2 (by omega) (by omega))
    · simp (disch := first | omega | exact Nat.le_of_ble_eq_true rfl | (simp (disch := omega) only [hb1, hb2] <;> omega)) only [w_iconst, w_bipush, w_sipush, w_ldc_s, w_ldcw_s, w_ldc_i, w_ldcw_i, w_lconst, w_fconst, w_dconst, w_iload, w_iload_n, w_aload, w_aload_n, w_dload, w_istore, w_istore_n, w_astore_r, w_astore_s, w_astore_n_r, w_astore_n_s, w_dstore, w_iinc, w_iadd, w_isub, w_imul, w_iand, w_iushr, v_idiv, v_irem, w_ineg, w_i2l, w_i2c, w_i2f, w_i2d, v_f2d, w_lcmp, w_dcmp, v_fdiv, v_ddiv, w_dup_i, w_dup_r, w_dup2, w_dup_x2, w_pop_i, w_pop_r, w_goto, w_switch, w_ret_i, v_ret_z, v_ret_c, w_ret_a, w_ret_s, w_ret_f, w_ret_d, w_ret_v, v_iaload, v_baload, v_caload, v_laload, v_aaload, v_iastore, v_bastore, v_castore, v_lastore, v_aastore, v_alen, v_newa, v_anewa, w_new, w_throw, w_dead, v_getf_i, v_getf_z, v_getf_r, v_putf_i, v_putf_z, v_putf_r, w_call0, w_call1, w_callv1, w_calli1, w_callt1, w_call2, w_callv2, w_calli2, w_callt2, w_call3, w_callv3, w_calli3, w_call4, w_callv4, w_calli4, w_call5, w_callv5, w_calli5, w_call6, w_callv6, w_calli6, w_call7, w_callv7, w_calli7, w_call8, w_callv8, w_calli8, c_if0_eq_t, c_if0_eq_f, c_if2_eq_t, c_if2_eq_f, c_if0_ne_t, c_if0_ne_f, c_if2_ne_t, c_if2_ne_f, c_if0_lt_t, c_if0_lt_f, c_if2_lt_t, c_if2_lt_f, c_if0_ge_t, c_if0_ge_f, c_if2_ge_t, c_if2_ge_f, c_if0_gt_t, c_if0_gt_f, c_if2_gt_t, c_if2_gt_f, c_if0_le_t, c_if0_le_f, c_if2_le_t, c_if2_le_f, w_nil, uI_s, uA_r, uA_s, uD_d, mPut_0, mCl_own, mCv_go, mCl_min, mCl_cpy, mCv_obj, mAct_len, mAct_chrc, mAft_v, mAft_n, mAft_x, mGet_0, mSet_0, mGet_1, mSet_1, mGet_2, mSet_2, mGet_3, mSet_3, mGet_4, mSet_4, mGet_5, mSet_5, mGet_6, mSet_6, mGet_7, mSet_7, mGet_8, mSet_8, mGet_9, mSet_9, mGet_10, mSet_10, mGet_11, mSet_11, mGet_12, mSet_12, mGet_13, mSet_13, bk_La_law_23, hb1, hb2, wr, a_La_law_3537, bk_La_law_3537]
      exact kk S I (by omega) (by omega)
end LO
