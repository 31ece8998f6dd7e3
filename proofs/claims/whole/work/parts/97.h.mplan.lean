/-! The model's order of rights; its plan. -/
theorem sm_cnt {n : Nat} {r : Int → Int} (hinj : ∀ o o' : Int, 0 ≤ o → o < n → 0 ≤ o' → o' < n → r o = r o' → o = o') (hr : ∀ o : Int, 0 ≤ o → o < n → 0 ≤ r o ∧ r o < n) : ∀ p : Nat, p ≤ n → sm n (fun o => if r o < p then 1 else 0) = p
  | 0, _ => sm_zero (fun o o0 o1 => if_neg (by have := (hr o o0 o1).1; omega))
  | p + 1, hp => by
    have ih := sm_cnt hinj hr p (by omega)
    obtain ⟨k, k0, k1, hk⟩ := zSurj hinj hr (k := (p : Int)) (by omega) (by omega)
    rw [sm_upd (f := fun o => if r o < (p : Nat) then (1 : Int) else 0) (k := k) k0 k1 (fun i i0 i1 hi => ?_), ih]
    · rw [if_pos (by omega), if_neg (by omega)]; omega
    · have : r i ≠ p := fun h9 => hi (hinj i k i0 i1 k0 k1 (h9.trans hk.symm))
      by_cases c : r i < p
      · rw [if_pos c, if_pos (by omega)]
      · rw [if_neg c, if_neg (by omega)]
section SO
variable {m sA : Int} {S : mH} {Q : mQ} (D : Nat) {σ : sT}
theorem r_misOlder {I : mN} {a b : Int} (hs : kSa S m sA) (hI : I sA = σ) (a0 : 0 ≤ a) (a1 : a < 10) (b0 : 0 ≤ b) (b1 : b < 10) (hy : ∀ i : Int, 0 ≤ i → i < 10 → -100000 ≤ σ (260 + 76 * i) ∧ σ (260 + 76 * i) ≤ 100000) (hr : ∀ i : Int, 0 ≤ i → i < 10 → -100000 ≤ σ (263 + 76 * i) ∧ σ (263 + 76 * i) ≤ 100000) (Q : mQ) : mRun (D + 2) 208 [mR sA, mI a, mI b] I S Q = Q (.inl (some (mI (if zOld (sYr σ) (sRt σ) a b then 1 else 0)))) I S := by
  obtain ⟨hk, hl, -⟩ := hs
  have g : ∀ (p c j : Int) (Q : mQ), 259 + 76 * p + c = j → 0 ≤ p → p < 10 → 0 ≤ c → c < 76 → mRun (D + 1) 206 [mR sA, mI p, mI c] I S Q = Q (.inl (some (mI (σ j)))) I S := fun p c j Q hj p0 p1 c0 c1 => by rw [r_ofRight D hk hl hj (by omega) (by omega) (by omega) (by omega), hI]
  have g1 := g a 1 (260 + 76 * a)
  have g2 := g b 1 (260 + 76 * b)
  have g3 := g a 4 (263 + 76 * a)
  have g4 := g b 4 (263 + 76 * b)
  have y1 := hy a a0 a1
  have y2 := hy b b0 b1
  have y3 := hr a a0 a1
  have y4 := hr b b0 b1
  have e : (zOld (sYr σ) (sRt σ) a b) ↔ (σ (260 + 76 * a) < σ (260 + 76 * b) ∨ (σ (260 + 76 * a) = σ (260 + 76 * b) ∧ (σ (263 + 76 * a) < σ (263 + 76 * b) ∨ (σ (263 + 76 * a) = σ (263 + 76 * b) ∧ a < b)))) := Iff.rfl
  by_cases h1 : σ (260 + 76 * a) = σ (260 + 76 * b)
  · by_cases h2 : σ (263 + 76 * a) = σ (263 + 76 * b)
    · by_cases h3 : a < b
      · rw [if_pos (by rw [e]; omega)]
        simp (disch := first | omega | exact Nat.le_of_ble_eq_true rfl) only [w_iconst, w_bipush, w_sipush, w_ldc_s, w_ldcw_s, w_ldc_i, w_ldcw_i, w_lconst, w_fconst, w_dconst, w_iload, w_iload_n, w_aload, w_aload_n, w_dload, w_istore, w_istore_n, w_astore_r, w_astore_s, w_astore_n_r, w_astore_n_s, w_dstore, w_iinc, w_iadd, w_isub, w_imul, w_iand, w_iushr, v_idiv, v_irem, w_ineg, w_i2l, w_i2c, w_i2f, w_i2d, v_f2d, w_lcmp, w_dcmp, v_fdiv, v_ddiv, w_dup_i, w_dup_r, w_dup2, w_dup_x2, w_pop_i, w_pop_r, w_goto, w_switch, w_ret_i, v_ret_z, v_ret_c, w_ret_a, w_ret_s, w_ret_f, w_ret_d, w_ret_v, v_iaload, v_baload, v_caload, v_laload, v_aaload, v_iastore, v_bastore, v_castore, v_lastore, v_aastore, v_alen, v_newa, v_anewa, w_new, w_throw, w_dead, v_getf_i, v_getf_z, v_getf_r, v_putf_i, v_putf_z, v_putf_r, w_call0, w_call1, w_callv1, w_calli1, w_callt1, w_call2, w_callv2, w_calli2, w_callt2, w_call3, w_callv3, w_calli3, w_call4, w_callv4, w_calli4, w_call5, w_callv5, w_calli5, w_call6, w_callv6, w_calli6, w_call7, w_callv7, w_calli7, w_call8, w_callv8, w_calli8, c_if0_eq_t, c_if0_eq_f, c_if2_eq_t, c_if2_eq_f, c_if0_ne_t, c_if0_ne_f, c_if2_ne_t, c_if2_ne_f, c_if0_lt_t, c_if0_lt_f, c_if2_lt_t, c_if2_lt_f, c_if0_ge_t, c_if0_ge_f, c_if2_ge_t, c_if2_ge_f, c_if0_gt_t, c_if0_gt_f, c_if2_gt_t, c_if2_gt_f, c_if0_le_t, c_if0_le_f, c_if2_le_t, c_if2_le_f, w_nil, uI_s, uA_r, uA_s, uD_d, mPut_0, mCl_own, mCv_go, mCl_min, mCl_cpy, mCv_obj, mAct_len, mAct_chrc, mAft_v, mAft_n, mAft_x, mGet_0, mSet_0, mGet_1, mSet_1, mGet_2, mSet_2, mGet_3, mSet_3, mGet_4, mSet_4, mGet_5, mSet_5, mGet_6, mSet_6, mGet_7, mSet_7, mGet_8, mSet_8, mGet_9, mSet_9, mGet_10, mSet_10, mGet_11, mSet_11, mGet_12, mSet_12, mGet_13, mSet_13, e_Mo_isOlder, a_Mo_isOlder_0, bk_Mo_isOlder_0, a_Mo_isOlder_41, bk_Mo_isOlder_41, a_Mo_isOlder_45, bk_Mo_isOlder_45, a_Mo_isOlder_59, bk_Mo_isOlder_59, a_Mo_isOlder_63, bk_Mo_isOlder_63, a_Mo_isOlder_72, bk_Mo_isOlder_72, a_Mo_isOlder_73, bk_Mo_isOlder_73, g1, g2, g3, g4, wr]
      · rw [if_neg (by rw [e]; omega)]
        simp (disch := first | omega | exact Nat.le_of_ble_eq_true rfl) only [w_iconst, w_bipush, w_sipush, w_ldc_s, w_ldcw_s, w_ldc_i, w_ldcw_i, w_lconst, w_fconst, w_dconst, w_iload, w_iload_n, w_aload, w_aload_n, w_dload, w_istore, w_istore_n, w_astore_r, w_astore_s, w_astore_n_r, w_astore_n_s, w_dstore, w_iinc, w_iadd, w_isub, w_imul, w_iand, w_iushr, v_idiv, v_irem, w_ineg, w_i2l, w_i2c, w_i2f, w_i2d, v_f2d, w_lcmp, w_dcmp, v_fdiv, v_ddiv, w_dup_i, w_dup_r, w_dup2, w_dup_x2, w_pop_i, w_pop_r, w_goto, w_switch, w_ret_i, v_ret_z, v_ret_c, w_ret_a, w_ret_s, w_ret_f, w_ret_d, w_ret_v, v_iaload, v_baload, v_caload, v_laload, v_aaload, v_iastore, v_bastore, v_castore, v_lastore, v_aastore, v_alen, v_newa, v_anewa, w_new, w_throw, w_dead, v_getf_i, v_getf_z, v_getf_r, v_putf_i, v_putf_z, v_putf_r, w_call0, w_call1, w_callv1, w_calli1, w_callt1, w_call2, w_callv2, w_calli2, w_callt2, w_call3, w_callv3, w_calli3, w_call4, w_callv4, w_calli4, w_call5, w_callv5, w_calli5, w_call6, w_callv6, w_calli6, w_call7, w_callv7, w_calli7, w_call8, w_callv8, w_calli8, c_if0_eq_t, c_if0_eq_f, c_if2_eq_t, c_if2_eq_f, c_if0_ne_t, c_if0_ne_f, c_if2_ne_t, c_if2_ne_f, c_if0_lt_t, c_if0_lt_f, c_if2_lt_t, c_if2_lt_f, c_if0_ge_t, c_if0_ge_f, c_if2_ge_t, c_if2_ge_f, c_if0_gt_t, c_if0_gt_f, c_if2_gt_t, c_if2_gt_f, c_if0_le_t, c_if0_le_f, c_if2_le_t, c_if2_le_f, w_nil, uI_s, uA_r, uA_s, uD_d, mPut_0, mCl_own, mCv_go, mCl_min, mCl_cpy, mCv_obj, mAct_len, mAct_chrc, mAft_v, mAft_n, mAft_x, mGet_0, mSet_0, mGet_1, mSet_1, mGet_2, mSet_2, mGet_3, mSet_3, mGet_4, mSet_4, mGet_5, mSet_5, mGet_6, mSet_6, mGet_7, mSet_7, mGet_8, mSet_8, mGet_9, mSet_9, mGet_10, mSet_10, mGet_11, mSet_11, mGet_12, mSet_12, mGet_13, mSet_13, e_Mo_isOlder, a_Mo_isOlder_0, bk_Mo_isOlder_0, a_Mo_isOlder_41, bk_Mo_isOlder_41, a_Mo_isOlder_45, bk_Mo_isOlder_45, a_Mo_isOlder_59, bk_Mo_isOlder_59, a_Mo_isOlder_63, bk_Mo_isOlder_63, a_Mo_isOlder_72, bk_Mo_isOlder_72, a_Mo_isOlder_73, bk_Mo_isOlder_73, g1, g2, g3, g4, wr]
    · by_cases h3 : σ (263 + 76 * a) < σ (263 + 76 * b)
      · rw [if_pos (by rw [e]; omega)]
        simp (disch := first | omega | exact Nat.le_of_ble_eq_true rfl) only [w_iconst, w_bipush, w_sipush, w_ldc_s, w_ldcw_s, w_ldc_i, w_ldcw_i, w_lconst, w_fconst, w_dconst, w_iload, w_iload_n, w_aload, w_aload_n, w_dload, w_istore, w_istore_n, w_astore_r, w_astore_s, w_astore_n_r, w_astore_n_s, w_dstore, w_iinc, w_iadd, w_isub, w_imul, w_iand, w_iushr, v_idiv, v_irem, w_ineg, w_i2l, w_i2c, w_i2f, w_i2d, v_f2d, w_lcmp, w_dcmp, v_fdiv, v_ddiv, w_dup_i, w_dup_r, w_dup2, w_dup_x2, w_pop_i, w_pop_r, w_goto, w_switch, w_ret_i, v_ret_z, v_ret_c, w_ret_a, w_ret_s, w_ret_f, w_ret_d, w_ret_v, v_iaload, v_baload, v_caload, v_laload, v_aaload, v_iastore, v_bastore, v_castore, v_lastore, v_aastore, v_alen, v_newa, v_anewa, w_new, w_throw, w_dead, v_getf_i, v_getf_z, v_getf_r, v_putf_i, v_putf_z, v_putf_r, w_call0, w_call1, w_callv1, w_calli1, w_callt1, w_call2, w_callv2, w_calli2, w_callt2, w_call3, w_callv3, w_calli3, w_call4, w_callv4, w_calli4, w_call5, w_callv5, w_calli5, w_call6, w_callv6, w_calli6, w_call7, w_callv7, w_calli7, w_call8, w_callv8, w_calli8, c_if0_eq_t, c_if0_eq_f, c_if2_eq_t, c_if2_eq_f, c_if0_ne_t, c_if0_ne_f, c_if2_ne_t, c_if2_ne_f, c_if0_lt_t, c_if0_lt_f, c_if2_lt_t, c_if2_lt_f, c_if0_ge_t, c_if0_ge_f, c_if2_ge_t, c_if2_ge_f, c_if0_gt_t, c_if0_gt_f, c_if2_gt_t, c_if2_gt_f, c_if0_le_t, c_if0_le_f, c_if2_le_t, c_if2_le_f, w_nil, uI_s, uA_r, uA_s, uD_d, mPut_0, mCl_own, mCv_go, mCl_min, mCl_cpy, mCv_obj, mAct_len, mAct_chrc, mAft_v, mAft_n, mAft_x, mGet_0, mSet_0, mGet_1, mSet_1, mGet_2, mSet_2, mGet_3, mSet_3, mGet_4, mSet_4, mGet_5, mSet_5, mGet_6, mSet_6, mGet_7, mSet_7, mGet_8, mSet_8, mGet_9, mSet_9, mGet_10, mSet_10, mGet_11, mSet_11, mGet_12, mSet_12, mGet_13, mSet_13, e_Mo_isOlder, a_Mo_isOlder_0, bk_Mo_isOlder_0, a_Mo_isOlder_41, bk_Mo_isOlder_41, a_Mo_isOlder_45, bk_Mo_isOlder_45, a_Mo_isOlder_59, bk_Mo_isOlder_59, a_Mo_isOlder_63, bk_Mo_isOlder_63, a_Mo_isOlder_72, bk_Mo_isOlder_72, a_Mo_isOlder_73, bk_Mo_isOlder_73, g1, g2, g3, g4, wr]
      · rw [if_neg (by rw [e]; omega)]
        simp (disch := first | omega | exact Nat.le_of_ble_eq_true rfl) only [w_iconst, w_bipush, w_sipush, w_ldc_s, w_ldcw_s, w_ldc_i, w_ldcw_i, w_lconst, w_fconst, w_dconst, w_iload, w_iload_n, w_aload, w_aload_n, w_dload, w_istore, w_istore_n, w_astore_r, w_astore_s, w_astore_n_r, w_astore_n_s, w_dstore, w_iinc, w_iadd, w_isub, w_imul, w_iand, w_iushr, v_idiv, v_irem, w_ineg, w_i2l, w_i2c, w_i2f, w_i2d, v_f2d, w_lcmp, w_dcmp, v_fdiv, v_ddiv, w_dup_i, w_dup_r, w_dup2, w_dup_x2, w_pop_i, w_pop_r, w_goto, w_switch, w_ret_i, v_ret_z, v_ret_c, w_ret_a, w_ret_s, w_ret_f, w_ret_d, w_ret_v, v_iaload, v_baload, v_caload, v_laload, v_aaload, v_iastore, v_bastore, v_castore, v_lastore, v_aastore, v_alen, v_newa, v_anewa, w_new, w_throw, w_dead, v_getf_i, v_getf_z, v_getf_r, v_putf_i, v_putf_z, v_putf_r, w_call0, w_call1, w_callv1, w_calli1, w_callt1, w_call2, w_callv2, w_calli2, w_callt2, w_call3, w_callv3, w_calli3, w_call4, w_callv4, w_calli4, w_call5, w_callv5, w_calli5, w_call6, w_callv6, w_calli6, w_call7, w_callv7, w_calli7, w_call8, w_callv8, w_calli8, c_if0_eq_t, c_if0_eq_f, c_if2_eq_t, c_if2_eq_f, c_if0_ne_t, c_if0_ne_f, c_if2_ne_t, c_if2_ne_f, c_if0_lt_t, c_if0_lt_f, c_if2_lt_t, c_if2_lt_f, c_if0_ge_t, c_if0_ge_f, c_if2_ge_t, c_if2_ge_f, c_if0_gt_t, c_if0_gt_f, c_if2_gt_t, c_if2_gt_f, c_if0_le_t, c_if0_le_f, c_if2_le_t, c_if2_le_f, w_nil, uI_s, uA_r, uA_s, uD_d, mPut_0, mCl_own, mCv_go, mCl_min, mCl_cpy, mCv_obj, mAct_len, mAct_chrc, mAft_v, mAft_n, mAft_x, mGet_0, mSet_0, mGet_1, mSet_1, mGet_2, mSet_2, mGet_3, mSet_3, mGet_4, mSet_4, mGet_5, mSet_5, mGet_6, mSet_6, mGet_7, mSet_7, mGet_8, mSet_8, mGet_9, mSet_9, mGet_10, mSet_10, mGet_11, mSet_11, mGet_12, mSet_12, mGet_13, mSet_13, e_Mo_isOlder, a_Mo_isOlder_0, bk_Mo_isOlder_0, a_Mo_isOlder_41, bk_Mo_isOlder_41, a_Mo_isOlder_45, bk_Mo_isOlder_45, a_Mo_isOlder_59, bk_Mo_isOlder_59, a_Mo_isOlder_63, bk_Mo_isOlder_63, a_Mo_isOlder_72, bk_Mo_isOlder_72, a_Mo_isOlder_73, bk_Mo_isOlder_73, g1, g2, g3, g4, wr]
  · by_cases h3 : σ (260 + 76 * a) < σ (260 + 76 * b)
    · rw [if_pos (by rw [e]; omega)]
      simp (disch := first | omega | exact Nat.le_of_ble_eq_true rfl) only [w_iconst, w_bipush, w_sipush, w_ldc_s, w_ldcw_s, w_ldc_i, w_ldcw_i, w_lconst, w_fconst, w_dconst, w_iload, w_iload_n, w_aload, w_aload_n, w_dload, w_istore, w_istore_n, w_astore_r, w_astore_s, w_astore_n_r, w_astore_n_s, w_dstore, w_iinc, w_iadd, w_isub, w_imul, w_iand, w_iushr, v_idiv, v_irem, w_ineg, w_i2l, w_i2c, w_i2f, w_i2d, v_f2d, w_lcmp, w_dcmp, v_fdiv, v_ddiv, w_dup_i, w_dup_r, w_dup2, w_dup_x2, w_pop_i, w_pop_r, w_goto, w_switch, w_ret_i, v_ret_z, v_ret_c, w_ret_a, w_ret_s, w_ret_f, w_ret_d, w_ret_v, v_iaload, v_baload, v_caload, v_laload, v_aaload, v_iastore, v_bastore, v_castore, v_lastore, v_aastore, v_alen, v_newa, v_anewa, w_new, w_throw, w_dead, v_getf_i, v_getf_z, v_getf_r, v_putf_i, v_putf_z, v_putf_r, w_call0, w_call1, w_callv1, w_calli1, w_callt1, w_call2, w_callv2, w_calli2, w_callt2, w_call3, w_callv3, w_calli3, w_call4, w_callv4, w_calli4, w_call5, w_callv5, w_calli5, w_call6, w_callv6, w_calli6, w_call7, w_callv7, w_calli7, w_call8, w_callv8, w_calli8, c_if0_eq_t, c_if0_eq_f, c_if2_eq_t, c_if2_eq_f, c_if0_ne_t, c_if0_ne_f, c_if2_ne_t, c_if2_ne_f, c_if0_lt_t, c_if0_lt_f, c_if2_lt_t, c_if2_lt_f, c_if0_ge_t, c_if0_ge_f, c_if2_ge_t, c_if2_ge_f, c_if0_gt_t, c_if0_gt_f, c_if2_gt_t, c_if2_gt_f, c_if0_le_t, c_if0_le_f, c_if2_le_t, c_if2_le_f, w_nil, uI_s, uA_r, uA_s, uD_d, mPut_0, mCl_own, mCv_go, mCl_min, mCl_cpy, mCv_obj, mAct_len, mAct_chrc, mAft_v, mAft_n, mAft_x, mGet_0, mSet_0, mGet_1, mSet_1, mGet_2, mSet_2, mGet_3, mSet_3, mGet_4, mSet_4, mGet_5, mSet_5, mGet_6, mSet_6, mGet_7, mSet_7, mGet_8, mSet_8, mGet_9, mSet_9, mGet_10, mSet_10, mGet_11, mSet_11, mGet_12, mSet_12, mGet_13, mSet_13, e_Mo_isOlder, a_Mo_isOlder_0, bk_Mo_isOlder_0, a_Mo_isOlder_41, bk_Mo_isOlder_41, a_Mo_isOlder_45, bk_Mo_isOlder_45, a_Mo_isOlder_59, bk_Mo_isOlder_59, a_Mo_isOlder_63, bk_Mo_isOlder_63, a_Mo_isOlder_72, bk_Mo_isOlder_72, a_Mo_isOlder_73, bk_Mo_isOlder_73, g1, g2, g3, g4, wr]
    · rw [if_neg (by rw [e]; omega)]
      simp (disch := first | omega | exact Nat.le_of_ble_eq_true rfl) only [w_iconst, w_bipush, w_sipush, w_ldc_s, w_ldcw_s, w_ldc_i, w_ldcw_i, w_lconst, w_fconst, w_dconst, w_iload, w_iload_n, w_aload, w_aload_n, w_dload, w_istore, w_istore_n, w_astore_r, w_astore_s, w_astore_n_r, w_astore_n_s, w_dstore, w_iinc, w_iadd, w_isub, w_imul, w_iand, w_iushr, v_idiv, v_irem, w_ineg, w_i2l, w_i2c, w_i2f, w_i2d, v_f2d, w_lcmp, w_dcmp, v_fdiv, v_ddiv, w_dup_i, w_dup_r, w_dup2, w_dup_x2, w_pop_i, w_pop_r, w_goto, w_switch, w_ret_i, v_ret_z, v_ret_c, w_ret_a, w_ret_s, w_ret_f, w_ret_d, w_ret_v, v_iaload, v_baload, v_caload, v_laload, v_aaload, v_iastore, v_bastore, v_castore, v_lastore, v_aastore, v_alen, v_newa, v_anewa, w_new, w_throw, w_dead, v_getf_i, v_getf_z, v_getf_r, v_putf_i, v_putf_z, v_putf_r, w_call0, w_call1, w_callv1, w_calli1, w_callt1, w_call2, w_callv2, w_calli2, w_callt2, w_call3, w_callv3, w_calli3, w_call4, w_callv4, w_calli4, w_call5, w_callv5, w_calli5, w_call6, w_callv6, w_calli6, w_call7, w_callv7, w_calli7, w_call8, w_callv8, w_calli8, c_if0_eq_t, c_if0_eq_f, c_if2_eq_t, c_if2_eq_f, c_if0_ne_t, c_if0_ne_f, c_if2_ne_t, c_if2_ne_f, c_if0_lt_t, c_if0_lt_f, c_if2_lt_t, c_if2_lt_f, c_if0_ge_t, c_if0_ge_f, c_if2_ge_t, c_if2_ge_f, c_if0_gt_t, c_if0_gt_f, c_if2_gt_t, c_if2_gt_f, c_if0_le_t, c_if0_le_f, c_if2_le_t, c_if2_le_f, w_nil, uI_s, uA_r, uA_s, uD_d, mPut_0, mCl_own, mCv_go, mCl_min, mCl_cpy, mCv_obj, mAct_len, mAct_chrc, mAft_v, mAft_n, mAft_x, mGet_0, mSet_0, mGet_1, mSet_1, mGet_2, mSet_2, mGet_3, mSet_3, mGet_4, mSet_4, mGet_5, mSet_5, mGet_6, mSet_6, mGet_7, mSet_7, mGet_8, mSet_8, mGet_9, mSet_9, mGet_10, mSet_10, mGet_11, mSet_11, mGet_12, mSet_12, mGet_13, mSet_13, e_Mo_isOlder, a_Mo_isOlder_0, bk_Mo_isOlder_0, a_Mo_isOlder_41, bk_Mo_isOlder_41, a_Mo_isOlder_45, bk_Mo_isOlder_45, a_Mo_isOlder_59, bk_Mo_isOlder_59, a_Mo_isOlder_63, bk_Mo_isOlder_63, a_Mo_isOlder_72, bk_Mo_isOlder_72, a_Mo_isOlder_73, bk_Mo_isOlder_73, g1, g2, g3, g4, wr]
abbrev kRk (σ : sT) (i : Nat) (j : Int) : Int := zRank i (sYr σ) (sRt σ) j
theorem kRk_s {i : Nat} {j : Int} : kRk σ (i + 1) j = kRk σ i j + (if zOld (sYr σ) (sRt σ) (i : Int) j then 1 else 0) := rfl
def kOr (f : Int → Int) (σ : sT) (i : Nat) : Prop := ∀ j : Int, 0 ≤ j → j < i → f (kRk σ i j) = j
/-- a right comes in at its place -/
theorem kOr_s {f f0 : Int → Int} {i : Nat} {p : Int} (h : kOr f0 σ i) (p0 : 0 ≤ p) (p1 : p ≤ i) (h1 : ∀ q : Int, 0 ≤ q → q < p → f q = f0 q) (h2 : ∀ q : Int, p < q → q ≤ i → f q = f0 (q - 1)) (h3 : f p = i) (h4 : ∀ q : Int, p ≤ q → q < i → zOld (sYr σ) (sRt σ) i (f0 q)) (h5 : 0 < p → ¬ zOld (sYr σ) (sRt σ) i (f0 (p - 1))) : kOr f σ (i + 1) := by
  have hinj : ∀ o o' : Int, 0 ≤ o → o < i → 0 ≤ o' → o' < i → kRk σ i o = kRk σ i o' → o = o' := fun o o' q0 q1 q2 q3 q => zRank_inj q0 q1 q2 q3 q
  have hran : ∀ o : Int, 0 ≤ o → o < i → 0 ≤ kRk σ i o ∧ kRk σ i o < i := fun o q0 q1 => ⟨zRank_0, zRank_n q0 q1⟩
  have hlow : ∀ j : Int, 0 ≤ j → j < i → (kRk σ i j < p ↔ ¬ zOld (sYr σ) (sRt σ) (i : Int) j) := fun j j0 j1 => by
    have hj := h j j0 j1
    constructor
    · intro hc ho
      obtain ⟨k, k0, k1, hk⟩ := zSurj hinj hran (k := p - 1) (by have := (hran j j0 j1).1; omega) (by omega)
      have hfk : f0 (p - 1) = k := by rw [← hk]; exact h k k0 k1
      have h9 := h5 (by have := (hran j j0 j1).1; omega)
      rw [hfk] at h9
      by_cases hjk : j = k
      · rw [hjk] at ho; exact h9 ho
      · have hlt : kRk σ i j < kRk σ i k := by
          have : kRk σ i j ≠ kRk σ i k := fun q => hjk (hinj j k j0 j1 k0 k1 q)
          omega
        exact h9 (zOld_tr ho ((zRank_iff j0 j1 k0 k1).mp hlt))
    · intro ho
      by_cases hc : kRk σ i j < p
      · exact hc
      · have h9 := h4 (kRk σ i j) (by omega) (hran j j0 j1).2
        rw [hj] at h9
        exact absurd h9 ho
  intro j j0 j1
  by_cases hji : j = i
  · subst hji
    have e : kRk σ (i + 1) (i : Int) = p := by
      rw [kRk_s, if_neg zOld_ir]
      have e2 : kRk σ i (i : Int) = sm i (fun o => if kRk σ i o < ((p.toNat : Nat) : Int) then 1 else 0) := by
        show sm i (fun o => if zOld (sYr σ) (sRt σ) o (i : Int) then (1 : Int) else 0) = _
        refine sm_congr (fun o o0 o1 => ?_)
        have h9 := hlow o o0 o1
        rw [show ((p.toNat : Nat) : Int) = p by omega]
        rcases zOld_tot (yr := sYr σ) (rt := sRt σ) (a := o) (b := (i : Int)) (by omega) with h8 | h8
        · rw [if_pos h8, if_pos (h9.mpr (fun h7 => zOld_ir (zOld_tr h7 h8)))]
        · rw [if_neg (fun h7 => zOld_ir (zOld_tr h7 h8)), if_neg (fun h7 => h9.mp h7 h8)]
      rw [e2, sm_cnt hinj hran p.toNat (by omega)]
      omega
    rw [e]; exact h3
  · have hr := hran j j0 (by omega)
    have hl := hlow j j0 (by omega)
    rw [kRk_s]
    by_cases hc : kRk σ i j < p
    · rw [if_neg (hl.mp hc), Int.add_zero, h1 _ hr.1 hc]
      exact h j j0 (by omega)
    · have ho : zOld (sYr σ) (sRt σ) (i : Int) j := Classical.byContradiction (fun h9 => hc (hl.mpr h9))
      rw [if_pos ho, h2 _ (by omega) (by omega), show kRk σ i j + 1 - 1 = kRk σ i j by omega]
      exact h j j0 (by omega)
theorem l_ks1 {I0 : mN} (hm : yM S m) (hs : kSa S m sA) (hI0 : I0 sA = σ) (hy : ∀ i : Int, 0 ≤ i → i < 10 → -100000 ≤ σ (260 + 76 * i) ∧ σ (260 + 76 * i) ≤ 100000) (hr : ∀ i : Int, 0 ≤ i → i < 10 → -100000 ≤ σ (263 + 76 * i) ∧ σ (263 + 76 * i) ≤ 100000) {i : Nat} (hi : i < 10) (hO : kOr (I0 (m + 12)) σ i) (hS0 : sA ≠ m + 12) :
    ∀ (c : Nat) {p : Int} {I : mN}, p = c → p ≤ i → (∀ a : Int, a ≠ m + 12 → I a = I0 a) → (∀ q : Int, 0 ≤ q → q < p → I (m + 12) q = I0 (m + 12) q) → (∀ q : Int, p < q → q ≤ i → I (m + 12) q = I0 (m + 12) (q - 1)) → (∀ q : Int, p ≤ q → q < i → zOld (sYr σ) (sRt σ) i (I0 (m + 12) q)) →
    (∀ I' : mN, (∀ a : Int, a ≠ m + 12 → I' a = I0 a) → kOr (I' (m + 12)) σ (i + 1) → mAt (mRun (D + 2)) 219 2 ([some (mR m), some (mR sA), some (mI ((i : Int) + 1)), some (mI (kRk σ (i + 1) i))], [], I', S) Q) →
    mAt (mRun (D + 2)) 219 11 ([some (mR m), some (mR sA), some (mI (i : Int)), some (mI p)], [], I, S) Q
  | c, p, I, hp, p1, hf, h1, h2, h4, k => by
    have hran : ∀ o : Int, 0 ≤ o → o < i → 0 ≤ kRk σ i o ∧ kRk σ i o < i := fun o q0 q1 => ⟨zRank_0, zRank_n q0 q1⟩
    have fin : (0 < p → ¬ zOld (sYr σ) (sRt σ) i (I0 (m + 12) (p - 1))) → mAt (mRun (D + 2)) 219 51 ([some (mR m), some (mR sA), some (mI (i : Int)), some (mI p)], [], I, S) Q := fun h5 => by
      have hk : kOr ((mUp I (m + 12) p (i : Int)) (m + 12)) σ (i + 1) := kOr_s (p := p) hO (by omega) p1 (fun q q0 q1 => by rw [up_nk (by omega)]; exact h1 q q0 q1) (fun q q0 q1 => by rw [up_nk (by omega)]; exact h2 q q0 q1) (up_eq rfl rfl) h4 h5
      have hpe : p = kRk σ (i + 1) i := by
        have h9 := hk (i : Int) (by omega) (by omega)
        by_cases hq : kRk σ (i + 1) i = p
        · exact hq.symm
        · rw [up_nk hq] at h9
          have hb : 0 ≤ kRk σ (i + 1) i ∧ kRk σ (i + 1) i < (i + 1 : Nat) := ⟨zRank_0, zRank_n (by omega) (by omega)⟩
          have hsur : ∀ q : Int, 0 ≤ q → q < i → I0 (m + 12) q < i := fun q q0 q1 => by
            obtain ⟨o, o0, o1, ho⟩ := zSurj (n := i) (rk := kRk σ i) (fun o o' q0 q1 q2 q3 q => zRank_inj q0 q1 q2 q3 q) hran q0 q1
            rw [← ho, hO o o0 o1]; exact o1
          rcases Int.lt_or_gt_of_ne hq with h8 | h8
          · rw [h1 _ hb.1 h8] at h9
            have := hsur _ hb.1 (by omega)
            omega
          · rw [h2 _ h8 (by omega)] at h9
            have := hsur (kRk σ (i + 1) i - 1) (by omega) (by omega)
            omega
      have hk2 := k (mUp I (m + 12) p (i : Int)) (fun a ha => by rw [up_fa ha]; exact hf a ha) hk
      rw [← hpe] at hk2
      simp (disch := first | omega | exact Nat.le_of_ble_eq_true rfl | (simp (disch := omega) only [ym_k hm, ym_12 hm, ym_k12 hm, ym_l12 hm] <;> omega)) only [w_iconst, w_bipush, w_sipush, w_ldc_s, w_ldcw_s, w_ldc_i, w_ldcw_i, w_lconst, w_fconst, w_dconst, w_iload, w_iload_n, w_aload, w_aload_n, w_dload, w_istore, w_istore_n, w_astore_r, w_astore_s, w_astore_n_r, w_astore_n_s, w_dstore, w_iinc, w_iadd, w_isub, w_imul, w_iand, w_iushr, v_idiv, v_irem, w_ineg, w_i2l, w_i2c, w_i2f, w_i2d, v_f2d, w_lcmp, w_dcmp, v_fdiv, v_ddiv, w_dup_i, w_dup_r, w_dup2, w_dup_x2, w_pop_i, w_pop_r, w_goto, w_switch, w_ret_i, v_ret_z, v_ret_c, w_ret_a, w_ret_s, w_ret_f, w_ret_d, w_ret_v, v_iaload, v_baload, v_caload, v_laload, v_aaload, v_iastore, v_bastore, v_castore, v_lastore, v_aastore, v_alen, v_newa, v_anewa, w_new, w_throw, w_dead, v_getf_i, v_getf_z, v_getf_r, v_putf_i, v_putf_z, v_putf_r, w_call0, w_call1, w_callv1, w_calli1, w_callt1, w_call2, w_callv2, w_calli2, w_callt2, w_call3, w_callv3, w_calli3, w_call4, w_callv4, w_calli4, w_call5, w_callv5, w_calli5, w_call6, w_callv6, w_calli6, w_call7, w_callv7, w_calli7, w_call8, w_callv8, w_calli8, c_if0_eq_t, c_if0_eq_f, c_if2_eq_t, c_if2_eq_f, c_if0_ne_t, c_if0_ne_f, c_if2_ne_t, c_if2_ne_f, c_if0_lt_t, c_if0_lt_f, c_if2_lt_t, c_if2_lt_f, c_if0_ge_t, c_if0_ge_f, c_if2_ge_t, c_if2_ge_f, c_if0_gt_t, c_if0_gt_f, c_if2_gt_t, c_if2_gt_f, c_if0_le_t, c_if0_le_f, c_if2_le_t, c_if2_le_f, w_nil, uI_s, uA_r, uA_s, uD_d, mPut_0, mCl_own, mCv_go, mCl_min, mCl_cpy, mCv_obj, mAct_len, mAct_chrc, mAft_v, mAft_n, mAft_x, mGet_0, mSet_0, mGet_1, mSet_1, mGet_2, mSet_2, mGet_3, mSet_3, mGet_4, mSet_4, mGet_5, mSet_5, mGet_6, mSet_6, mGet_7, mSet_7, mGet_8, mSet_8, mGet_9, mSet_9, mGet_10, mSet_10, mGet_11, mSet_11, mGet_12, mSet_12, mGet_13, mSet_13, a_Mo_nSort_51, bk_Mo_nSort_51, ym_k hm, ym_12 hm, ym_k12 hm, ym_l12 hm, wr]
      exact hk2
    match c, hp with
    | 0, hp =>
      obtain rfl : p = 0 := by omega
      simp (disch := first | omega | exact Nat.le_of_ble_eq_true rfl) only [w_iconst, w_bipush, w_sipush, w_ldc_s, w_ldcw_s, w_ldc_i, w_ldcw_i, w_lconst, w_fconst, w_dconst, w_iload, w_iload_n, w_aload, w_aload_n, w_dload, w_istore, w_istore_n, w_astore_r, w_astore_s, w_astore_n_r, w_astore_n_s, w_dstore, w_iinc, w_iadd, w_isub, w_imul, w_iand, w_iushr, v_idiv, v_irem, w_ineg, w_i2l, w_i2c, w_i2f, w_i2d, v_f2d, w_lcmp, w_dcmp, v_fdiv, v_ddiv, w_dup_i, w_dup_r, w_dup2, w_dup_x2, w_pop_i, w_pop_r, w_goto, w_switch, w_ret_i, v_ret_z, v_ret_c, w_ret_a, w_ret_s, w_ret_f, w_ret_d, w_ret_v, v_iaload, v_baload, v_caload, v_laload, v_aaload, v_iastore, v_bastore, v_castore, v_lastore, v_aastore, v_alen, v_newa, v_anewa, w_new, w_throw, w_dead, v_getf_i, v_getf_z, v_getf_r, v_putf_i, v_putf_z, v_putf_r, w_call0, w_call1, w_callv1, w_calli1, w_callt1, w_call2, w_callv2, w_calli2, w_callt2, w_call3, w_callv3, w_calli3, w_call4, w_callv4, w_calli4, w_call5, w_callv5, w_calli5, w_call6, w_callv6, w_calli6, w_call7, w_callv7, w_calli7, w_call8, w_callv8, w_calli8, c_if0_eq_t, c_if0_eq_f, c_if2_eq_t, c_if2_eq_f, c_if0_ne_t, c_if0_ne_f, c_if2_ne_t, c_if2_ne_f, c_if0_lt_t, c_if0_lt_f, c_if2_lt_t, c_if2_lt_f, c_if0_ge_t, c_if0_ge_f, c_if2_ge_t, c_if2_ge_f, c_if0_gt_t, c_if0_gt_f, c_if2_gt_t, c_if2_gt_f, c_if0_le_t, c_if0_le_f, c_if2_le_t, c_if2_le_f, w_nil, uI_s, uA_r, uA_s, uD_d, mPut_0, mCl_own, mCv_go, mCl_min, mCl_cpy, mCv_obj, mAct_len, mAct_chrc, mAft_v, mAft_n, mAft_x, mGet_0, mSet_0, mGet_1, mSet_1, mGet_2, mSet_2, mGet_3, mSet_3, mGet_4, mSet_4, mGet_5, mSet_5, mGet_6, mSet_6, mGet_7, mSet_7, mGet_8, mSet_8, mGet_9, mSet_9, mGet_10, mSet_10, mGet_11, mSet_11, mGet_12, mSet_12, mGet_13, mSet_13, a_Mo_nSort_11, bk_Mo_nSort_11]
      exact fin (fun h9 => absurd h9 (by decide))
    | c + 1, hp =>
      have e1 := h1 (p - 1) (by omega) (by omega)
      have hrg : 0 ≤ I0 (m + 12) (p - 1) ∧ I0 (m + 12) (p - 1) < i := by
        obtain ⟨o, o0, o1, ho⟩ := zSurj (n := i) (rk := kRk σ i) (fun o o' q0 q1 q2 q3 q => zRank_inj q0 q1 q2 q3 q) hran (k := p - 1) (by omega) (by omega)
        rw [← ho, hO o o0 o1]; exact ⟨o0, o1⟩
      have hIs : I sA = σ := by rw [hf sA hS0]; exact hI0
      have ho : ∀ Q : mQ, mRun (D + 2) 208 [mR sA, mI (i : Int), mI (I0 (m + 12) (p - 1))] I S Q = Q (.inl (some (mI (if zOld (sYr σ) (sRt σ) (i : Int) (I0 (m + 12) (p - 1)) then 1 else 0)))) I S := fun Q => r_misOlder D hs hIs (by omega) (by omega) hrg.1 (by omega) hy hr Q
      rw [a_Mo_nSort_11]
      by_cases hold : zOld (sYr σ) (sRt σ) (i : Int) (I0 (m + 12) (p - 1))
      · rw [if_pos hold] at ho
        simp (disch := first | omega | exact Nat.le_of_ble_eq_true rfl | (simp (disch := omega) only [ym_k hm, ym_12 hm, ym_k12 hm, ym_l12 hm] <;> omega)) only [w_iconst, w_bipush, w_sipush, w_ldc_s, w_ldcw_s, w_ldc_i, w_ldcw_i, w_lconst, w_fconst, w_dconst, w_iload, w_iload_n, w_aload, w_aload_n, w_dload, w_istore, w_istore_n, w_astore_r, w_astore_s, w_astore_n_r, w_astore_n_s, w_dstore, w_iinc, w_iadd, w_isub, w_imul, w_iand, w_iushr, v_idiv, v_irem, w_ineg, w_i2l, w_i2c, w_i2f, w_i2d, v_f2d, w_lcmp, w_dcmp, v_fdiv, v_ddiv, w_dup_i, w_dup_r, w_dup2, w_dup_x2, w_pop_i, w_pop_r, w_goto, w_switch, w_ret_i, v_ret_z, v_ret_c, w_ret_a, w_ret_s, w_ret_f, w_ret_d, w_ret_v, v_iaload, v_baload, v_caload, v_laload, v_aaload, v_iastore, v_bastore, v_castore, v_lastore, v_aastore, v_alen, v_newa, v_anewa, w_new, w_throw, w_dead, v_getf_i, v_getf_z, v_getf_r, v_putf_i, v_putf_z, v_putf_r, w_call0, w_call1, w_callv1, w_calli1, w_callt1, w_call2, w_callv2, w_calli2, w_callt2, w_call3, w_callv3, w_calli3, w_call4, w_callv4, w_calli4, w_call5, w_callv5, w_calli5, w_call6, w_callv6, w_calli6, w_call7, w_callv7, w_calli7, w_call8, w_callv8, w_calli8, c_if0_eq_t, c_if0_eq_f, c_if2_eq_t, c_if2_eq_f, c_if0_ne_t, c_if0_ne_f, c_if2_ne_t, c_if2_ne_f, c_if0_lt_t, c_if0_lt_f, c_if2_lt_t, c_if2_lt_f, c_if0_ge_t, c_if0_ge_f, c_if2_ge_t, c_if2_ge_f, c_if0_gt_t, c_if0_gt_f, c_if2_gt_t, c_if2_gt_f, c_if0_le_t, c_if0_le_f, c_if2_le_t, c_if2_le_f, w_nil, uI_s, uA_r, uA_s, uD_d, mPut_0, mCl_own, mCv_go, mCl_min, mCl_cpy, mCv_obj, mAct_len, mAct_chrc, mAft_v, mAft_n, mAft_x, mGet_0, mSet_0, mGet_1, mSet_1, mGet_2, mSet_2, mGet_3, mSet_3, mGet_4, mSet_4, mGet_5, mSet_5, mGet_6, mSet_6, mGet_7, mSet_7, mGet_8, mSet_8, mGet_9, mSet_9, mGet_10, mSet_10, mGet_11, mSet_11, mGet_12, mSet_12, mGet_13, mSet_13, bk_Mo_nSort_11, ym_k hm, ym_12 hm, ym_k12 hm, ym_l12 hm, e1, ho, wr]
        refine l_ks1 hm hs hI0 hy hr hi hO hS0 c (by omega) (by omega) (fun a ha => by rw [up_fa ha]; exact hf a ha) (fun q q0 q1 => by rw [up_nk (by omega)]; exact h1 q q0 (by omega)) (fun q q0 q1 => ?_) (fun q q0 q1 => ?_) k
        · by_cases hq : q = p
          · rw [up_eq rfl hq, hq]
          · rw [up_nk hq]; exact h2 q (by omega) q1
        · by_cases hq : q = p - 1
          · rw [hq]; exact hold
          · exact h4 q (by omega) q1
      · rw [if_neg hold] at ho
        simp (disch := first | omega | exact Nat.le_of_ble_eq_true rfl | (simp (disch := omega) only [ym_k hm, ym_12 hm, ym_k12 hm, ym_l12 hm] <;> omega)) only [w_iconst, w_bipush, w_sipush, w_ldc_s, w_ldcw_s, w_ldc_i, w_ldcw_i, w_lconst, w_fconst, w_dconst, w_iload, w_iload_n, w_aload, w_aload_n, w_dload, w_istore, w_istore_n, w_astore_r, w_astore_s, w_astore_n_r, w_astore_n_s, w_dstore, w_iinc, w_iadd, w_isub, w_imul, w_iand, w_iushr, v_idiv, v_irem, w_ineg, w_i2l, w_i2c, w_i2f, w_i2d, v_f2d, w_lcmp, w_dcmp, v_fdiv, v_ddiv, w_dup_i, w_dup_r, w_dup2, w_dup_x2, w_pop_i, w_pop_r, w_goto, w_switch, w_ret_i, v_ret_z, v_ret_c, w_ret_a, w_ret_s, w_ret_f, w_ret_d, w_ret_v, v_iaload, v_baload, v_caload, v_laload, v_aaload, v_iastore, v_bastore, v_castore, v_lastore, v_aastore, v_alen, v_newa, v_anewa, w_new, w_throw, w_dead, v_getf_i, v_getf_z, v_getf_r, v_putf_i, v_putf_z, v_putf_r, w_call0, w_call1, w_callv1, w_calli1, w_callt1, w_call2, w_callv2, w_calli2, w_callt2, w_call3, w_callv3, w_calli3, w_call4, w_callv4, w_calli4, w_call5, w_callv5, w_calli5, w_call6, w_callv6, w_calli6, w_call7, w_callv7, w_calli7, w_call8, w_callv8, w_calli8, c_if0_eq_t, c_if0_eq_f, c_if2_eq_t, c_if2_eq_f, c_if0_ne_t, c_if0_ne_f, c_if2_ne_t, c_if2_ne_f, c_if0_lt_t, c_if0_lt_f, c_if2_lt_t, c_if2_lt_f, c_if0_ge_t, c_if0_ge_f, c_if2_ge_t, c_if2_ge_f, c_if0_gt_t, c_if0_gt_f, c_if2_gt_t, c_if2_gt_f, c_if0_le_t, c_if0_le_f, c_if2_le_t, c_if2_le_f, w_nil, uI_s, uA_r, uA_s, uD_d, mPut_0, mCl_own, mCv_go, mCl_min, mCl_cpy, mCv_obj, mAct_len, mAct_chrc, mAft_v, mAft_n, mAft_x, mGet_0, mSet_0, mGet_1, mSet_1, mGet_2, mSet_2, mGet_3, mSet_3, mGet_4, mSet_4, mGet_5, mSet_5, mGet_6, mSet_6, mGet_7, mSet_7, mGet_8, mSet_8, mGet_9, mSet_9, mGet_10, mSet_10, mGet_11, mSet_11, mGet_12, mSet_12, mGet_13, mSet_13, bk_Mo_nSort_11, ym_k hm, ym_12 hm, ym_k12 hm, ym_l12 hm, e1, ho, wr]
        exact fin (fun _ => hold)
theorem l_ks0 {I0 : mN} (hm : yM S m) (hs : kSa S m sA) (hI0 : I0 sA = σ) (h3 : σ 3 ≤ 10) (hy : ∀ i : Int, 0 ≤ i → i < 10 → -100000 ≤ σ (260 + 76 * i) ∧ σ (260 + 76 * i) ≤ 100000) (hr : ∀ i : Int, 0 ≤ i → i < 10 → -100000 ≤ σ (263 + 76 * i) ∧ σ (263 + 76 * i) ≤ 100000) (hS0 : sA ≠ m + 12) (k : ∀ I' : mN, (∀ a : Int, a ≠ m + 12 → I' a = I0 a) → kOr (I' (m + 12)) σ (σ 3).toNat → Q (.inl none) I' S) :
    ∀ (c i : Nat) {I : mN} {x3 : Option mV}, (i : Int) + c = σ 3 → (∀ a : Int, a ≠ m + 12 → I a = I0 a) → kOr (I (m + 12)) σ i → mAt (mRun (D + 2)) 219 2 ([some (mR m), some (mR sA), some (mI (i : Int)), x3], [], I, S) Q
  | 0, i, I, _, hi, hf, hO => by
    have e : I sA 3 = σ 3 := by rw [hf sA hS0, hI0]
    have hi2 : (σ 3).toNat = i := by omega
    obtain ⟨hk, hl, -⟩ := hs
    have hi3 : (i : Int) = σ 3 := by omega
    simp (disch := first | omega | exact Nat.le_of_ble_eq_true rfl | (simp (disch := omega) only [hl, e] <;> omega)) only [w_iconst, w_bipush, w_sipush, w_ldc_s, w_ldcw_s, w_ldc_i, w_ldcw_i, w_lconst, w_fconst, w_dconst, w_iload, w_iload_n, w_aload, w_aload_n, w_dload, w_istore, w_istore_n, w_astore_r, w_astore_s, w_astore_n_r, w_astore_n_s, w_dstore, w_iinc, w_iadd, w_isub, w_imul, w_iand, w_iushr, v_idiv, v_irem, w_ineg, w_i2l, w_i2c, w_i2f, w_i2d, v_f2d, w_lcmp, w_dcmp, v_fdiv, v_ddiv, w_dup_i, w_dup_r, w_dup2, w_dup_x2, w_pop_i, w_pop_r, w_goto, w_switch, w_ret_i, v_ret_z, v_ret_c, w_ret_a, w_ret_s, w_ret_f, w_ret_d, w_ret_v, v_iaload, v_baload, v_caload, v_laload, v_aaload, v_iastore, v_bastore, v_castore, v_lastore, v_aastore, v_alen, v_newa, v_anewa, w_new, w_throw, w_dead, v_getf_i, v_getf_z, v_getf_r, v_putf_i, v_putf_z, v_putf_r, w_call0, w_call1, w_callv1, w_calli1, w_callt1, w_call2, w_callv2, w_calli2, w_callt2, w_call3, w_callv3, w_calli3, w_call4, w_callv4, w_calli4, w_call5, w_callv5, w_calli5, w_call6, w_callv6, w_calli6, w_call7, w_callv7, w_calli7, w_call8, w_callv8, w_calli8, c_if0_eq_t, c_if0_eq_f, c_if2_eq_t, c_if2_eq_f, c_if0_ne_t, c_if0_ne_f, c_if2_ne_t, c_if2_ne_f, c_if0_lt_t, c_if0_lt_f, c_if2_lt_t, c_if2_lt_f, c_if0_ge_t, c_if0_ge_f, c_if2_ge_t, c_if2_ge_f, c_if0_gt_t, c_if0_gt_f, c_if2_gt_t, c_if2_gt_f, c_if0_le_t, c_if0_le_f, c_if2_le_t, c_if2_le_f, w_nil, uI_s, uA_r, uA_s, uD_d, mPut_0, mCl_own, mCv_go, mCl_min, mCl_cpy, mCv_obj, mAct_len, mAct_chrc, mAft_v, mAft_n, mAft_x, mGet_0, mSet_0, mGet_1, mSet_1, mGet_2, mSet_2, mGet_3, mSet_3, mGet_4, mSet_4, mGet_5, mSet_5, mGet_6, mSet_6, mGet_7, mSet_7, mGet_8, mSet_8, mGet_9, mSet_9, mGet_10, mSet_10, mGet_11, mSet_11, mGet_12, mSet_12, mGet_13, mSet_13, a_Mo_nSort_2, bk_Mo_nSort_2, a_Mo_nSort_64, bk_Mo_nSort_64, hl, e]
    exact k I hf (by rw [hi2]; exact hO)
  | c + 1, i, I, _, hi, hf, hO => by
    have e : I sA 3 = σ 3 := by rw [hf sA hS0, hI0]
    have hIs : I sA = σ := by rw [hf sA hS0, hI0]
    obtain ⟨hk, hl, hsa⟩ := id hs
    have hcast : (i : Int) + 1 = ((i + 1 : Nat) : Int) := by omega
    rw [a_Mo_nSort_2]
    simp (disch := first | omega | exact Nat.le_of_ble_eq_true rfl | (simp (disch := omega) only [hl, e] <;> omega)) only [w_iconst, w_bipush, w_sipush, w_ldc_s, w_ldcw_s, w_ldc_i, w_ldcw_i, w_lconst, w_fconst, w_dconst, w_iload, w_iload_n, w_aload, w_aload_n, w_dload, w_istore, w_istore_n, w_astore_r, w_astore_s, w_astore_n_r, w_astore_n_s, w_dstore, w_iinc, w_iadd, w_isub, w_imul, w_iand, w_iushr, v_idiv, v_irem, w_ineg, w_i2l, w_i2c, w_i2f, w_i2d, v_f2d, w_lcmp, w_dcmp, v_fdiv, v_ddiv, w_dup_i, w_dup_r, w_dup2, w_dup_x2, w_pop_i, w_pop_r, w_goto, w_switch, w_ret_i, v_ret_z, v_ret_c, w_ret_a, w_ret_s, w_ret_f, w_ret_d, w_ret_v, v_iaload, v_baload, v_caload, v_laload, v_aaload, v_iastore, v_bastore, v_castore, v_lastore, v_aastore, v_alen, v_newa, v_anewa, w_new, w_throw, w_dead, v_getf_i, v_getf_z, v_getf_r, v_putf_i, v_putf_z, v_putf_r, w_call0, w_call1, w_callv1, w_calli1, w_callt1, w_call2, w_callv2, w_calli2, w_callt2, w_call3, w_callv3, w_calli3, w_call4, w_callv4, w_calli4, w_call5, w_callv5, w_calli5, w_call6, w_callv6, w_calli6, w_call7, w_callv7, w_calli7, w_call8, w_callv8, w_calli8, c_if0_eq_t, c_if0_eq_f, c_if2_eq_t, c_if2_eq_f, c_if0_ne_t, c_if0_ne_f, c_if2_ne_t, c_if2_ne_f, c_if0_lt_t, c_if0_lt_f, c_if2_lt_t, c_if2_lt_f, c_if0_ge_t, c_if0_ge_f, c_if2_ge_t, c_if2_ge_f, c_if0_gt_t, c_if0_gt_f, c_if2_gt_t, c_if2_gt_f, c_if0_le_t, c_if0_le_f, c_if2_le_t, c_if2_le_f, w_nil, uI_s, uA_r, uA_s, uD_d, mPut_0, mCl_own, mCv_go, mCl_min, mCl_cpy, mCv_obj, mAct_len, mAct_chrc, mAft_v, mAft_n, mAft_x, mGet_0, mSet_0, mGet_1, mSet_1, mGet_2, mSet_2, mGet_3, mSet_3, mGet_4, mSet_4, mGet_5, mSet_5, mGet_6, mSet_6, mGet_7, mSet_7, mGet_8, mSet_8, mGet_9, mSet_9, mGet_10, mSet_10, mGet_11, mSet_11, mGet_12, mSet_12, mGet_13, mSet_13, bk_Mo_nSort_2, hl, e]
    refine l_ks1 (I0 := I) D hm hs hIs hy hr (i := i) (by omega) hO hS0 i rfl (Int.le_refl _) (fun _ _ => rfl) (fun _ _ _ => rfl) (fun q q0 q1 => by omega) (fun q q0 q1 => by omega) (fun I' f' hO' => ?_)
    rw [hcast]
    exact l_ks0 hm hs hI0 h3 hy hr hS0 k c (i + 1) (by omega) (fun a ha => by rw [f' a ha]; exact hf a ha) hO'
theorem p_msort {I : mN} (hm : yM S m) (hs : kSa S m sA) (hI : I sA = σ) (hw : sWf σ) (hS0 : sA ≠ m + 12) (k : ∀ I' : mN, (∀ a : Int, a ≠ m + 12 → I' a = I a) → (∀ j : Int, 0 ≤ j → j < σ 3 → I' (m + 12) (sRk σ j) = j) → Q (.inl none) I' S) : mRun (D + 3) 219 [mR m, mR sA] I S Q := by
  have h3 := hw.1.2.2.2
  obtain ⟨-, -, -, -, w5, -, -, -, w9⟩ := hw
  have hy : ∀ i : Int, 0 ≤ i → i < 10 → -100000 ≤ σ (260 + 76 * i) ∧ σ (260 + 76 * i) ≤ 100000 := fun i i0 i1 => by
    by_cases c : i < σ 3
    · have := (w5 i i0 c).2.1; omega
    · have := (w9 i (by omega) i1).1 1 (by omega) (by omega)
      rw [show 259 + 76 * i + 1 = 260 + 76 * i by omega] at this; omega
  have hr : ∀ i : Int, 0 ≤ i → i < 10 → -100000 ≤ σ (263 + 76 * i) ∧ σ (263 + 76 * i) ≤ 100000 := fun i i0 i1 => by
    by_cases c : i < σ 3
    · have := (w5 i i0 c).2.2.2.2.1; omega
    · have := (w9 i (by omega) i1).1 4 (by omega) (by omega)
      rw [show 259 + 76 * i + 4 = 263 + 76 * i by omega] at this; omega
  simp (disch := first | omega | exact Nat.le_of_ble_eq_true rfl) only [w_iconst, w_bipush, w_sipush, w_ldc_s, w_ldcw_s, w_ldc_i, w_ldcw_i, w_lconst, w_fconst, w_dconst, w_iload, w_iload_n, w_aload, w_aload_n, w_dload, w_istore, w_istore_n, w_astore_r, w_astore_s, w_astore_n_r, w_astore_n_s, w_dstore, w_iinc, w_iadd, w_isub, w_imul, w_iand, w_iushr, v_idiv, v_irem, w_ineg, w_i2l, w_i2c, w_i2f, w_i2d, v_f2d, w_lcmp, w_dcmp, v_fdiv, v_ddiv, w_dup_i, w_dup_r, w_dup2, w_dup_x2, w_pop_i, w_pop_r, w_goto, w_switch, w_ret_i, v_ret_z, v_ret_c, w_ret_a, w_ret_s, w_ret_f, w_ret_d, w_ret_v, v_iaload, v_baload, v_caload, v_laload, v_aaload, v_iastore, v_bastore, v_castore, v_lastore, v_aastore, v_alen, v_newa, v_anewa, w_new, w_throw, w_dead, v_getf_i, v_getf_z, v_getf_r, v_putf_i, v_putf_z, v_putf_r, w_call0, w_call1, w_callv1, w_calli1, w_callt1, w_call2, w_callv2, w_calli2, w_callt2, w_call3, w_callv3, w_calli3, w_call4, w_callv4, w_calli4, w_call5, w_callv5, w_calli5, w_call6, w_callv6, w_calli6, w_call7, w_callv7, w_calli7, w_call8, w_callv8, w_calli8, c_if0_eq_t, c_if0_eq_f, c_if2_eq_t, c_if2_eq_f, c_if0_ne_t, c_if0_ne_f, c_if2_ne_t, c_if2_ne_f, c_if0_lt_t, c_if0_lt_f, c_if2_lt_t, c_if2_lt_f, c_if0_ge_t, c_if0_ge_f, c_if2_ge_t, c_if2_ge_f, c_if0_gt_t, c_if0_gt_f, c_if2_gt_t, c_if2_gt_f, c_if0_le_t, c_if0_le_f, c_if2_le_t, c_if2_le_f, w_nil, uI_s, uA_r, uA_s, uD_d, mPut_0, mCl_own, mCv_go, mCl_min, mCl_cpy, mCv_obj, mAct_len, mAct_chrc, mAft_v, mAft_n, mAft_x, mGet_0, mSet_0, mGet_1, mSet_1, mGet_2, mSet_2, mGet_3, mSet_3, mGet_4, mSet_4, mGet_5, mSet_5, mGet_6, mSet_6, mGet_7, mSet_7, mGet_8, mSet_8, mGet_9, mSet_9, mGet_10, mSet_10, mGet_11, mSet_11, mGet_12, mSet_12, mGet_13, mSet_13, e_Mo_nSort, a_Mo_nSort_0, bk_Mo_nSort_0]
  exact l_ks0 (I0 := I) D hm hs hI h3.2 hy hr hS0 (fun I' f hO => k I' f (fun j j0 j1 => hO j j0 (by omega))) (σ 3).toNat 0 (by omega) (fun _ _ => rfl) (fun j j0 j1 => by omega)
end SO
/-- the rest of the heap with the field decreeRow as z -/
def mSx (S : mH) (m z : Int) : mH := (mUp S.1 m 45 z, S.2)
theorem mSx_x {S : mH} {m z z' : Int} : mSx (mSx S m z) m z' = mSx S m z' := by
  unfold mSx
  rw [up_up]
theorem mSx_self {S : mH} {m : Int} : mSx S m (S.1 m 45) = S := by
  unfold mSx
  rw [show mUp S.1 m 45 (S.1 m 45) = S.1 from fn2 (fun b j => by
    by_cases hb : b = m
    · by_cases hj : j = 45
      · rw [up_eq hb hj, hb, hj]
      · rw [up_nk hj]
    · rw [up_na hb])]
theorem yM_x {S : mH} {m z : Int} (h : yM S m) : yM (mSx S m z) m := by
  refine ⟨h.1, fun q hq => ?_⟩
  have h9 := h.2 q hq
  refine ⟨?_, h9.2⟩
  show mUp S.1 m 45 z m q.1 = _
  rw [up_nk]
  · exact h9.1
  · have : ∀ q ∈ yMt, q.1 ≠ 45 := by decide
    exact this q hq
/-- what reading a decree may change -/
def kFk (I I' : mN) (m : Int) : Prop := (∀ a : Int, a ≠ m → (a < m + 33 ∨ m + 39 < a) → I' a = I a) ∧ ∀ k : Int, (k < 46 ∨ 51 < k) → I' m k = I m k
/-- the model's asking -/
def kAsk (S : mH) (D : Nat) (m sA s : Int) (σ : sT) : Prop := ∀ (I : mN) (z r w : Int), I sA = σ → 0 ≤ r → r < σ 3 → 0 ≤ w → w < 8 → ∀ Q : mQ, (∀ (I' : mN) (z' : Int), kFk I I' m → Q (.inl (some (mI (sAk σ s r w)))) I' (mSx S m z')) → mRun D 272 [mR m, mR sA, mI s, mI r, mI w] I (mSx S m z) Q
/-- what the plan may change -/
def kFp (I I' : mN) (m oA : Int) : Prop := (∀ a : Int, a ≠ m → a ≠ oA → (a < m + 2 ∨ m + 12 < a) → (a < m + 33 ∨ m + 39 < a) → I' a = I a) ∧ ∀ k : Int, (k < 46 ∨ 51 < k) → I' m k = I m k
theorem kFp_t {I I' I'' : mN} {m oA : Int} (h : kFp I I' m oA) (h' : kFp I' I'' m oA) : kFp I I'' m oA := ⟨fun a a1 a2 a3 a4 => (h'.1 a a1 a2 a3 a4).trans (h.1 a a1 a2 a3 a4), fun k hk => (h'.2 k hk).trans (h.2 k hk)⟩
abbrev kO (S : mH) (m sA oA : Int) : Prop := S.2.1 oA = 50 ∧ S.2.2.1 oA = 80 ∧ m + 12 < oA ∧ (oA < m + 33 ∨ m + 39 < oA) ∧ oA ≠ sA
abbrev kAm (I : mN) (oA : Int) : Int → Int → Int := fun o t => I oA (8 * o + t)
section MP
variable {m sA oA s : Int} {S : mH} {Q : mQ} (D : Nat) {σ : sT} {fr to rm : Int → Int}
def kPl (I : mN) (m sA oA s : Int) (σ : sT) (fr to rm : Int → Int) (k w : Int) : Prop :=
  (∃ fl fx : Int → Int, kA I m fr to rm fl fx ∧ (∀ a : Int, 0 ≤ a → a < 168 → fx a = 0) ∧ kSt fr to rm fl (zD (σ 3).toNat (σ 0) (sRk σ) (sPo σ) (kAm I oA) k w)) ∧
  zPl (sNet σ s) (σ 3).toNat (σ 0) (sRk σ) (sPo σ) (sAk σ s) (kAm I oA) k w ∧ (∀ j : Int, 0 ≤ j → j < σ 3 → I (m + 12) (sRk σ j) = j) ∧ I sA = σ ∧
  (∀ o t : Int, 0 ≤ o → o < σ 3 → 0 ≤ t → t < 8 → t < σ 0 → (sRk σ o < k ∨ (sRk σ o = k ∧ t < w)) → I oA (8 * o + t) = σ (1067 + 8 * o + t)) ∧ ∀ j : Int, 8 * σ 3 ≤ j → j < 80 → I oA j = 0
theorem kAm_up {I : mN} {o w x : Int} {k : Int} (w0 : 0 ≤ w) (w1 : w < 8) (ho : sRk σ o = k) (o0 : 0 ≤ o) (o1 : o < σ 3) : (∀ o' t : Int, 0 ≤ o' → o' < (σ 3).toNat → σ 0 ≤ t → 0 ≤ t → t < 8 → (sRk σ o' < k ∨ (sRk σ o' = k ∧ t < w)) → kAm I oA o' t = kAm (mUp I oA (8 * o + w) x) oA o' t) ∧ kAm (mUp I oA (8 * o + w) x) oA o w = x := by
  refine ⟨fun o' t a0 a1 t0 t1 t2 hc => ?_, up_eq rfl rfl⟩
  show I oA (8 * o' + t) = (mUp I oA (8 * o + w) x) oA (8 * o' + t)
  by_cases hoo : o' = o
  · rw [hoo] at hc ⊢
    rw [up_nk (by omega)]
  · rw [up_nk (by omega)]
theorem l_mp1 (hm : yM S m) (hs : kSa S m sA) (hsb : sA < m + 33 ∨ m + 39 < sA) (hS0 : sA ≠ m + 12) (hO : kO S m sA oA) (hw : sWf σ) (hask : kAsk S (D + 3) m sA s σ) (s0 : 0 ≤ s) (s1 : s < 3) (htgt : ∀ a : Int, 0 ≤ a → a < 168 → fr a = kF0 σ s a ∧ to a = kT0 σ s a ∧ rm a = kR0 σ s a) {o k : Int} (o0 : 0 ≤ o) (o1 : o < σ 3) (ho : sRk σ o = k) :
    ∀ (c : Nat) {w z : Int} {I : mN} {x7 : Option mV}, 0 ≤ w → w + c = 8 → kPl I m sA oA s σ fr to rm k w →
    (∀ (I' : mN) (z' : Int) (x7 : Option mV), kFp I I' m oA → kPl I' m sA oA s σ fr to rm k 8 → mAt (mRun (D + 3)) 220 127 ([some (mR m), some (mR sA), some (mI s), some (mR oA), some (mI k), some (mI o), some (mI 8), x7], [], I', mSx S m z') Q) →
    mAt (mRun (D + 3)) 220 55 ([some (mR m), some (mR sA), some (mI s), some (mR oA), some (mI k), some (mI o), some (mI w), x7], [], I, mSx S m z) Q
  | 0, w, z, I, _, w0, w1, hP, kk => by
    obtain rfl : w = 8 := by omega
    simp (disch := first | omega | exact Nat.le_of_ble_eq_true rfl) only [w_iconst, w_bipush, w_sipush, w_ldc_s, w_ldcw_s, w_ldc_i, w_ldcw_i, w_lconst, w_fconst, w_dconst, w_iload, w_iload_n, w_aload, w_aload_n, w_dload, w_istore, w_istore_n, w_astore_r, w_astore_s, w_astore_n_r, w_astore_n_s, w_dstore, w_iinc, w_iadd, w_isub, w_imul, w_iand, w_iushr, v_idiv, v_irem, w_ineg, w_i2l, w_i2c, w_i2f, w_i2d, v_f2d, w_lcmp, w_dcmp, v_fdiv, v_ddiv, w_dup_i, w_dup_r, w_dup2, w_dup_x2, w_pop_i, w_pop_r, w_goto, w_switch, w_ret_i, v_ret_z, v_ret_c, w_ret_a, w_ret_s, w_ret_f, w_ret_d, w_ret_v, v_iaload, v_baload, v_caload, v_laload, v_aaload, v_iastore, v_bastore, v_castore, v_lastore, v_aastore, v_alen, v_newa, v_anewa, w_new, w_throw, w_dead, v_getf_i, v_getf_z, v_getf_r, v_putf_i, v_putf_z, v_putf_r, w_call0, w_call1, w_callv1, w_calli1, w_callt1, w_call2, w_callv2, w_calli2, w_callt2, w_call3, w_callv3, w_calli3, w_call4, w_callv4, w_calli4, w_call5, w_callv5, w_calli5, w_call6, w_callv6, w_calli6, w_call7, w_callv7, w_calli7, w_call8, w_callv8, w_calli8, c_if0_eq_t, c_if0_eq_f, c_if2_eq_t, c_if2_eq_f, c_if0_ne_t, c_if0_ne_f, c_if2_ne_t, c_if2_ne_f, c_if0_lt_t, c_if0_lt_f, c_if2_lt_t, c_if2_lt_f, c_if0_ge_t, c_if0_ge_f, c_if2_ge_t, c_if2_ge_f, c_if0_gt_t, c_if0_gt_f, c_if2_gt_t, c_if2_gt_f, c_if0_le_t, c_if0_le_f, c_if2_le_t, c_if2_le_f, w_nil, uI_s, uA_r, uA_s, uD_d, mPut_0, mCl_own, mCv_go, mCl_min, mCl_cpy, mCv_obj, mAct_len, mAct_chrc, mAft_v, mAft_n, mAft_x, mGet_0, mSet_0, mGet_1, mSet_1, mGet_2, mSet_2, mGet_3, mSet_3, mGet_4, mSet_4, mGet_5, mSet_5, mGet_6, mSet_6, mGet_7, mSet_7, mGet_8, mSet_8, mGet_9, mSet_9, mGet_10, mSet_10, mGet_11, mSet_11, mGet_12, mSet_12, mGet_13, mSet_13, a_Mo_plan_55, bk_Mo_plan_55]
    exact kk I z _ ⟨fun _ _ _ _ _ => rfl, fun _ _ => rfl⟩ hP
  | c + 1, w, z, I, _, w0, w1, hP, kk => by
    obtain ⟨⟨fl, fx, p1, p2, p3⟩, p4, p5, p6, p7, p8⟩ := id hP
    obtain ⟨hNt, hWf, hrm⟩ := kNt_0 hw s0 s1 htgt
    have hzw := (sNet_zWf (s := s) hw).1
    obtain ⟨⟨b0, b1, b2, b3⟩, -, -, -, b5, -⟩ := id hw
    obtain ⟨hk, hl, hsa⟩ := id hs
    obtain ⟨ok, ol, od1, od2, od3⟩ := id hO
    have hmz : ∀ z : Int, yM (mSx S m z) m := fun z => yM_x hm
    have hmk : ∀ z : Int, (mSx S m z).2.1 m = 12 := fun z => hm.1
    have hkz : ∀ z : Int, (mSx S m z).2.1 sA = 50 := fun z => hk
    have hlz : ∀ z : Int, (mSx S m z).2.2.1 sA = 1395 := fun z => hl
    have okz : ∀ z : Int, (mSx S m z).2.1 oA = 50 := fun z => ok
    have olz : ∀ z : Int, (mSx S m z).2.2.1 oA = 80 := fun z => ol
    have e0 : I sA 0 = σ 0 := by rw [p6]
    obtain ⟨⟨pl0, pl1⟩, -⟩ := b5 o o0 o1
    have hinj : ∀ o o' : Int, 0 ≤ o → o < (σ 3).toNat → 0 ≤ o' → o' < (σ 3).toNat → sRk σ o = sRk σ o' → o = o' := fun o o' q0 q1 q2 q3 q => sRk_inj q0 (by omega) q2 (by omega) q
    rw [a_Mo_plan_55]
    by_cases hwn : w < σ 0
    · have e1 : I sA (1067 + (8 * o + w)) = σ (1067 + 8 * o + w) := by rw [p6, show 1067 + (8 * o + w) = 1067 + 8 * o + w by omega]
      obtain ⟨g1, g2⟩ := kAm_up (oA := oA) (I := I) (x := σ (1067 + 8 * o + w)) w0 (show w < 8 by omega) ho o0 o1
      simp (disch := first | omega | exact Nat.le_of_ble_eq_true rfl | (simp (disch := omega) only [hkz, hlz, okz, olz] <;> omega)) only [w_iconst, w_bipush, w_sipush, w_ldc_s, w_ldcw_s, w_ldc_i, w_ldcw_i, w_lconst, w_fconst, w_dconst, w_iload, w_iload_n, w_aload, w_aload_n, w_dload, w_istore, w_istore_n, w_astore_r, w_astore_s, w_astore_n_r, w_astore_n_s, w_dstore, w_iinc, w_iadd, w_isub, w_imul, w_iand, w_iushr, v_idiv, v_irem, w_ineg, w_i2l, w_i2c, w_i2f, w_i2d, v_f2d, w_lcmp, w_dcmp, v_fdiv, v_ddiv, w_dup_i, w_dup_r, w_dup2, w_dup_x2, w_pop_i, w_pop_r, w_goto, w_switch, w_ret_i, v_ret_z, v_ret_c, w_ret_a, w_ret_s, w_ret_f, w_ret_d, w_ret_v, v_iaload, v_baload, v_caload, v_laload, v_aaload, v_iastore, v_bastore, v_castore, v_lastore, v_aastore, v_alen, v_newa, v_anewa, w_new, w_throw, w_dead, v_getf_i, v_getf_z, v_getf_r, v_putf_i, v_putf_z, v_putf_r, w_call0, w_call1, w_callv1, w_calli1, w_callt1, w_call2, w_callv2, w_calli2, w_callt2, w_call3, w_callv3, w_calli3, w_call4, w_callv4, w_calli4, w_call5, w_callv5, w_calli5, w_call6, w_callv6, w_calli6, w_call7, w_callv7, w_calli7, w_call8, w_callv8, w_calli8, c_if0_eq_t, c_if0_eq_f, c_if2_eq_t, c_if2_eq_f, c_if0_ne_t, c_if0_ne_f, c_if2_ne_t, c_if2_ne_f, c_if0_lt_t, c_if0_lt_f, c_if2_lt_t, c_if2_lt_f, c_if0_ge_t, c_if0_ge_f, c_if2_ge_t, c_if2_ge_f, c_if0_gt_t, c_if0_gt_f, c_if2_gt_t, c_if2_gt_f, c_if0_le_t, c_if0_le_f, c_if2_le_t, c_if2_le_f, w_nil, uI_s, uA_r, uA_s, uD_d, mPut_0, mCl_own, mCv_go, mCl_min, mCl_cpy, mCv_obj, mAct_len, mAct_chrc, mAft_v, mAft_n, mAft_x, mGet_0, mSet_0, mGet_1, mSet_1, mGet_2, mSet_2, mGet_3, mSet_3, mGet_4, mSet_4, mGet_5, mSet_5, mGet_6, mSet_6, mGet_7, mSet_7, mGet_8, mSet_8, mGet_9, mSet_9, mGet_10, mSet_10, mGet_11, mSet_11, mGet_12, mSet_12, mGet_13, mSet_13, bk_Mo_plan_55, a_Mo_plan_120, bk_Mo_plan_120, hkz, hlz, okz, olz, e0, e1, wr]
      refine l_mp1 hm hs hsb hS0 hO hw hask s0 s1 htgt o0 o1 ho c (by omega) (by omega) ⟨⟨fl, fx, ?_, p2, ?_⟩, ?_, ?_, ?_, fun o' t a0 a1 t0 t1 t2 t3 => ?_, fun j j0 j1 => ?_⟩ (fun I' z' x7 f hP' => kk I' z' x7 (kFp_t ⟨fun a a1 a2 a3 a4 => up_fa a2, fun k _ => by rw [up_na (by omega)]⟩ f) hP')
      · obtain ⟨q1, q2, q3, q4, q5, q6⟩ := p1
        exact ⟨(up_fa (by omega)).trans q1, (up_fa (by omega)).trans q2, (up_fa (by omega)).trans q3, (up_fa (by omega)).trans q4, (up_fa (by omega)).trans q5, kLs_k q6 (up_fa (by omega)) (up_fa (by omega))⟩
      · have e9 : zD (σ 3).toNat (σ 0) (sRk σ) (sPo σ) (kAm (mUp I oA (8 * o + w) (σ (1067 + 8 * o + w))) oA) k (w + 1) = zD (σ 3).toNat (σ 0) (sRk σ) (sPo σ) (kAm I oA) k w := by
          funext v
          rw [zD_congr (am' := kAm (mUp I oA (8 * o + w) (σ (1067 + 8 * o + w))) oA) g1 v]
          unfold zD
          refine sm_congr (fun o' q0 q1 => sm_congr (fun t t0 t1 => ?_))
          by_cases cc : σ 0 ≤ t ∧ (sRk σ o' < k ∨ sRk σ o' = k ∧ t < w) ∧ 8 * sPo σ o' + t = v
          · rw [if_pos cc, if_pos (by omega)]
          · rw [if_neg cc, if_neg (by omega)]
        rw [e9]; exact p3
      · intro o' t a0 a1 t0 t1 t2 hd
        have hd' : sRk σ o' < k ∨ (sRk σ o' = k ∧ t < w) := by omega
        exact (zPl_congr p4 g1) o' t a0 a1 t0 t1 t2 hd'
      · intro j j0 j1; rw [up_fa (by omega)]; exact p5 j j0 j1
      · rw [up_fa (fun h9 => od3 h9.symm)]; exact p6
      · by_cases hc : o' = o ∧ t = w
        · rw [hc.1, hc.2, up_eq rfl rfl]
        · rw [up_nk (by omega)]
          refine p7 o' t a0 a1 t0 t1 t2 ?_
          by_cases hk2 : sRk σ o' = k
          · have : o' = o := hinj o' o a0 (by omega) o0 (by omega) (by omega)
            omega
          · omega
      · rw [up_nk (by omega)]; exact p8 j j0 j1
    · have hof : ∀ (z : Int) (Q : mQ), mRun (D + 3) 206 [mR sA, mI o, mI 0] I (mSx S m z) Q = Q (.inl (some (mI (σ (259 + 76 * o))))) I (mSx S m z) := fun z Q => by rw [r_ofRight (D + 2) (hkz z) (hlz z) (show 259 + 76 * o + 0 = 259 + 76 * o by omega) (by omega) (by omega) (by omega) (by omega), p6]
      have hnn : ∀ (z : Int) (Q : mQ), mRun (D + 3) 209 [mI (σ (259 + 76 * o)), mI w] I (mSx S m z) Q = Q (.inl (some (mI (8 * σ (259 + 76 * o) + w)))) I (mSx S m z) := fun z Q => r_nNode (D + 2) (by omega) (by omega) (by omega) (by omega) Q
      simp (disch := first | omega | exact Nat.le_of_ble_eq_true rfl | (simp (disch := omega) only [hkz, hlz, okz, olz, hmk] <;> omega)) only [w_iconst, w_bipush, w_sipush, w_ldc_s, w_ldcw_s, w_ldc_i, w_ldcw_i, w_lconst, w_fconst, w_dconst, w_iload, w_iload_n, w_aload, w_aload_n, w_dload, w_istore, w_istore_n, w_astore_r, w_astore_s, w_astore_n_r, w_astore_n_s, w_dstore, w_iinc, w_iadd, w_isub, w_imul, w_iand, w_iushr, v_idiv, v_irem, w_ineg, w_i2l, w_i2c, w_i2f, w_i2d, v_f2d, w_lcmp, w_dcmp, v_fdiv, v_ddiv, w_dup_i, w_dup_r, w_dup2, w_dup_x2, w_pop_i, w_pop_r, w_goto, w_switch, w_ret_i, v_ret_z, v_ret_c, w_ret_a, w_ret_s, w_ret_f, w_ret_d, w_ret_v, v_iaload, v_baload, v_caload, v_laload, v_aaload, v_iastore, v_bastore, v_castore, v_lastore, v_aastore, v_alen, v_newa, v_anewa, w_new, w_throw, w_dead, v_getf_i, v_getf_z, v_getf_r, v_putf_i, v_putf_z, v_putf_r, w_call0, w_call1, w_callv1, w_calli1, w_callt1, w_call2, w_callv2, w_calli2, w_callt2, w_call3, w_callv3, w_calli3, w_call4, w_callv4, w_calli4, w_call5, w_callv5, w_calli5, w_call6, w_callv6, w_calli6, w_call7, w_callv7, w_calli7, w_call8, w_callv8, w_calli8, c_if0_eq_t, c_if0_eq_f, c_if2_eq_t, c_if2_eq_f, c_if0_ne_t, c_if0_ne_f, c_if2_ne_t, c_if2_ne_f, c_if0_lt_t, c_if0_lt_f, c_if2_lt_t, c_if2_lt_f, c_if0_ge_t, c_if0_ge_f, c_if2_ge_t, c_if2_ge_f, c_if0_gt_t, c_if0_gt_f, c_if2_gt_t, c_if2_gt_f, c_if0_le_t, c_if0_le_f, c_if2_le_t, c_if2_le_f, w_nil, uI_s, uA_r, uA_s, uD_d, mPut_0, mCl_own, mCv_go, mCl_min, mCl_cpy, mCv_obj, mAct_len, mAct_chrc, mAft_v, mAft_n, mAft_x, mGet_0, mSet_0, mGet_1, mSet_1, mGet_2, mSet_2, mGet_3, mSet_3, mGet_4, mSet_4, mGet_5, mSet_5, mGet_6, mSet_6, mGet_7, mSet_7, mGet_8, mSet_8, mGet_9, mSet_9, mGet_10, mSet_10, mGet_11, mSet_11, mGet_12, mSet_12, mGet_13, mSet_13, bk_Mo_plan_55, a_Mo_plan_94, bk_Mo_plan_94, hkz, hlz, okz, olz, e0, hof, hnn, hmk, wr]
      refine hask I z o w p6 o0 o1 w0 (by omega) _ (fun I1 z1 f1 => ?_)
      have g6 : I1 sA = σ := by rw [f1.1 sA (by omega) hsb]; exact p6
      have gA : kA I1 m fr to rm fl fx := by
        obtain ⟨q1, q2, q3, q4, q5, q6⟩ := p1
        exact ⟨(f1.1 _ (by omega) (by omega)).trans q1, (f1.1 _ (by omega) (by omega)).trans q2, (f1.1 _ (by omega) (by omega)).trans q3, (f1.1 _ (by omega) (by omega)).trans q4, (f1.1 _ (by omega) (by omega)).trans q5, kLs_k q6 (f1.1 _ (by omega) (by omega)) (f1.1 _ (by omega) (by omega))⟩
      have hab := sAk_bd (s := s) hw o0 o1 w0 (show w < 8 by omega)
      have hoe : I1 oA = I oA := f1.1 oA (by omega) (by omega)
      simp (disch := first | omega | exact Nat.le_of_ble_eq_true rfl | (simp (disch := omega) only [hkz, hlz, okz, olz, hmk] <;> omega)) only [w_iconst, w_bipush, w_sipush, w_ldc_s, w_ldcw_s, w_ldc_i, w_ldcw_i, w_lconst, w_fconst, w_dconst, w_iload, w_iload_n, w_aload, w_aload_n, w_dload, w_istore, w_istore_n, w_astore_r, w_astore_s, w_astore_n_r, w_astore_n_s, w_dstore, w_iinc, w_iadd, w_isub, w_imul, w_iand, w_iushr, v_idiv, v_irem, w_ineg, w_i2l, w_i2c, w_i2f, w_i2d, v_f2d, w_lcmp, w_dcmp, v_fdiv, v_ddiv, w_dup_i, w_dup_r, w_dup2, w_dup_x2, w_pop_i, w_pop_r, w_goto, w_switch, w_ret_i, v_ret_z, v_ret_c, w_ret_a, w_ret_s, w_ret_f, w_ret_d, w_ret_v, v_iaload, v_baload, v_caload, v_laload, v_aaload, v_iastore, v_bastore, v_castore, v_lastore, v_aastore, v_alen, v_newa, v_anewa, w_new, w_throw, w_dead, v_getf_i, v_getf_z, v_getf_r, v_putf_i, v_putf_z, v_putf_r, w_call0, w_call1, w_callv1, w_calli1, w_callt1, w_call2, w_callv2, w_calli2, w_callt2, w_call3, w_callv3, w_calli3, w_call4, w_callv4, w_calli4, w_call5, w_callv5, w_calli5, w_call6, w_callv6, w_calli6, w_call7, w_callv7, w_calli7, w_call8, w_callv8, w_calli8, c_if0_eq_t, c_if0_eq_f, c_if2_eq_t, c_if2_eq_f, c_if0_ne_t, c_if0_ne_f, c_if2_ne_t, c_if2_ne_f, c_if0_lt_t, c_if0_lt_f, c_if2_lt_t, c_if2_lt_f, c_if0_ge_t, c_if0_ge_f, c_if2_ge_t, c_if2_ge_f, c_if0_gt_t, c_if0_gt_f, c_if2_gt_t, c_if2_gt_f, c_if0_le_t, c_if0_le_f, c_if2_le_t, c_if2_le_f, w_nil, uI_s, uA_r, uA_s, uD_d, mPut_0, mCl_own, mCv_go, mCl_min, mCl_cpy, mCv_obj, mAct_len, mAct_chrc, mAft_v, mAft_n, mAft_x, mGet_0, mSet_0, mGet_1, mSet_1, mGet_2, mSet_2, mGet_3, mSet_3, mGet_4, mSet_4, mGet_5, mSet_5, mGet_6, mSet_6, mGet_7, mSet_7, mGet_8, mSet_8, mGet_9, mSet_9, mGet_10, mSet_10, mGet_11, mSet_11, mGet_12, mSet_12, mGet_13, mSet_13, hkz, hlz, okz, olz, hmk, wr]
      refine p_mbring (N := sNet σ s) D (hmz z1) hNt hzw hWf (fun v v0 v1 => (sSu_bd hw s0 s1 v0 v1).1) hrm p2 (by omega) (by omega) (by omega) gA p3 (fun x fl' I2 x0 x1 f2 hA2 hS2 hx => ?_)
      have hoe2 : I2 oA = I oA := (f2 oA (by omega) (by omega) (by omega) (by omega)).trans hoe
      have hse2 : I2 sA = σ := (f2 sA (by omega) (by omega) (by omega) (by omega)).trans g6
      obtain ⟨g1, g2⟩ := kAm_up (oA := oA) (I := I2) (x := x) w0 (show w < 8 by omega) ho o0 o1
      have e12 : I2 (m + 12) = I (m + 12) := (f2 _ (by omega) (by omega) (by omega) (by omega)).trans (f1.1 _ (by omega) (by omega))
      have hkI : kAm I oA = kAm I2 oA := by funext a b; show I oA _ = I2 oA _; rw [hoe2]
      rw [hkI] at p3 p4 hS2 hx
      have hDm : zAt (zD (σ 3).toNat (σ 0) (sRk σ) (sPo σ) (kAm I2 oA) k w) (8 * σ (259 + 76 * o) + w) x = zD (σ 3).toNat (σ 0) (sRk σ) (sPo σ) (kAm (mUp I2 oA (8 * o + w) x) oA) k (w + 1) := by
        funext v
        have h9 := zD_step (n := (σ 3).toNat) (td := σ 0) (rk := sRk σ) (pl := sPo σ) (am := kAm (mUp I2 oA (8 * o + w) x) oA) hinj o0 (by omega) (by omega) w0 (show w < 8 by omega) v
        rw [ho, g2] at h9
        rw [h9]
        unfold zAt
        rw [zD_congr g1 v]
      simp (disch := first | omega | exact Nat.le_of_ble_eq_true rfl | (simp (disch := omega) only [hkz, hlz, okz, olz, hmk] <;> omega)) only [w_iconst, w_bipush, w_sipush, w_ldc_s, w_ldcw_s, w_ldc_i, w_ldcw_i, w_lconst, w_fconst, w_dconst, w_iload, w_iload_n, w_aload, w_aload_n, w_dload, w_istore, w_istore_n, w_astore_r, w_astore_s, w_astore_n_r, w_astore_n_s, w_dstore, w_iinc, w_iadd, w_isub, w_imul, w_iand, w_iushr, v_idiv, v_irem, w_ineg, w_i2l, w_i2c, w_i2f, w_i2d, v_f2d, w_lcmp, w_dcmp, v_fdiv, v_ddiv, w_dup_i, w_dup_r, w_dup2, w_dup_x2, w_pop_i, w_pop_r, w_goto, w_switch, w_ret_i, v_ret_z, v_ret_c, w_ret_a, w_ret_s, w_ret_f, w_ret_d, w_ret_v, v_iaload, v_baload, v_caload, v_laload, v_aaload, v_iastore, v_bastore, v_castore, v_lastore, v_aastore, v_alen, v_newa, v_anewa, w_new, w_throw, w_dead, v_getf_i, v_getf_z, v_getf_r, v_putf_i, v_putf_z, v_putf_r, w_call0, w_call1, w_callv1, w_calli1, w_callt1, w_call2, w_callv2, w_calli2, w_callt2, w_call3, w_callv3, w_calli3, w_call4, w_callv4, w_calli4, w_call5, w_callv5, w_calli5, w_call6, w_callv6, w_calli6, w_call7, w_callv7, w_calli7, w_call8, w_callv8, w_calli8, c_if0_eq_t, c_if0_eq_f, c_if2_eq_t, c_if2_eq_f, c_if0_ne_t, c_if0_ne_f, c_if2_ne_t, c_if2_ne_f, c_if0_lt_t, c_if0_lt_f, c_if2_lt_t, c_if2_lt_f, c_if0_ge_t, c_if0_ge_f, c_if2_ge_t, c_if2_ge_f, c_if0_gt_t, c_if0_gt_f, c_if2_gt_t, c_if2_gt_f, c_if0_le_t, c_if0_le_f, c_if2_le_t, c_if2_le_f, w_nil, uI_s, uA_r, uA_s, uD_d, mPut_0, mCl_own, mCv_go, mCl_min, mCl_cpy, mCv_obj, mAct_len, mAct_chrc, mAft_v, mAft_n, mAft_x, mGet_0, mSet_0, mGet_1, mSet_1, mGet_2, mSet_2, mGet_3, mSet_3, mGet_4, mSet_4, mGet_5, mSet_5, mGet_6, mSet_6, mGet_7, mSet_7, mGet_8, mSet_8, mGet_9, mSet_9, mGet_10, mSet_10, mGet_11, mSet_11, mGet_12, mSet_12, mGet_13, mSet_13, a_Mo_plan_120, bk_Mo_plan_120, hkz, hlz, okz, olz, hmk, wr]
      refine l_mp1 hm hs hsb hS0 hO hw hask s0 s1 htgt o0 o1 ho c (by omega) (by omega) ⟨⟨fl', fx, ?_, p2, ?_⟩, ?_, ?_, ?_, fun o' t a0 a1 t0 t1 t2 t3 => ?_, fun j j0 j1 => ?_⟩ (fun I' z' x7 f hP' => kk I' z' x7 (kFp_t ⟨fun a a1 a2 a3 a4 => by rw [up_fa a2, f2 a (by omega) (by omega) (by omega) (by omega), f1.1 a a1 a4], fun k hk => by rw [up_na (by omega), f2 m (by omega) (by omega) (by omega) (by omega), f1.2 k hk]⟩ f) hP')
      · obtain ⟨q1, q2, q3, q4, q5, q6⟩ := hA2
        exact ⟨(up_fa (by omega)).trans q1, (up_fa (by omega)).trans q2, (up_fa (by omega)).trans q3, (up_fa (by omega)).trans q4, (up_fa (by omega)).trans q5, kLs_k q6 (up_fa (by omega)) (up_fa (by omega))⟩
      · rw [← hDm]; exact hS2
      · refine zPl_step (o := o) (zPl_congr p4 g1) hinj o0 (by omega) ho (by rw [g2]; omega) ?_ (fun h9 => ?_)
        · rw [← hDm]; exact ⟨fl', kSt_fl hNt hzw (fun v v0 v1 => (sSu_bd hw s0 s1 v0 v1).1) hS2⟩
        · rw [g2] at h9
          rw [← hDm]; exact hx h9
      · intro j j0 j1; rw [up_fa (by omega), e12]; exact p5 j j0 j1
      · rw [up_fa (fun h9 => od3 h9.symm)]; exact hse2
      · rw [up_nk (by omega), hoe2]
        refine p7 o' t a0 a1 t0 t1 t2 (by omega)
      · rw [up_nk (by omega), hoe2]; exact p8 j j0 j1
end MP
