/-! Append: by the model. -/
def zBk (a b c d e k : Int) : Int := zBy (if k < 4 then a else if k < 8 then b else if k < 12 then c else if k < 16 then d else e) (24 - 8 * (k % 4))
def zMd (a b c d e k : Int) : Int := if zBk a b c d e k = 0 then 0 else 1
def zMc (a b c d e : Int) : Nat → Int
  | 0 => 0
  | n + 1 => zMc a b c d e n + zMd a b c d e (n : Int)
def zMr (a b c d e : Int) : Nat → zTx → zTx
  | 0, p => p
  | n + 1, p => zMr a b c d e n (zA1 (zBk a b c d e (19 - (n : Int))) p)
theorem zMc_20 (a b c d e : Int) : zMc a b c d e 20 = zAc a b c d e := by
  have h0 : zMd a b c d e 0 = zC1 a 24 := rfl
  have h1 : zMd a b c d e 1 = zC1 a 16 := rfl
  have h2 : zMd a b c d e 2 = zC1 a 8 := rfl
  have h3 : zMd a b c d e 3 = zC1 a 0 := rfl
  have h4 : zMd a b c d e 4 = zC1 b 24 := rfl
  have h5 : zMd a b c d e 5 = zC1 b 16 := rfl
  have h6 : zMd a b c d e 6 = zC1 b 8 := rfl
  have h7 : zMd a b c d e 7 = zC1 b 0 := rfl
  have h8 : zMd a b c d e 8 = zC1 c 24 := rfl
  have h9 : zMd a b c d e 9 = zC1 c 16 := rfl
  have h10 : zMd a b c d e 10 = zC1 c 8 := rfl
  have h11 : zMd a b c d e 11 = zC1 c 0 := rfl
  have h12 : zMd a b c d e 12 = zC1 d 24 := rfl
  have h13 : zMd a b c d e 13 = zC1 d 16 := rfl
  have h14 : zMd a b c d e 14 = zC1 d 8 := rfl
  have h15 : zMd a b c d e 15 = zC1 d 0 := rfl
  have h16 : zMd a b c d e 16 = zC1 e 24 := rfl
  have h17 : zMd a b c d e 17 = zC1 e 16 := rfl
  have h18 : zMd a b c d e 18 = zC1 e 8 := rfl
  have h19 : zMd a b c d e 19 = zC1 e 0 := rfl
  have k : ∀ w : Int, zCn w 4 = 0 + zC1 w 0 + zC1 w 8 + zC1 w 16 + zC1 w 24 := fun w => rfl
  have l : zMc a b c d e 20 = 0 + zMd a b c d e 0 + zMd a b c d e 1 + zMd a b c d e 2 + zMd a b c d e 3 + zMd a b c d e 4 + zMd a b c d e 5 + zMd a b c d e 6 + zMd a b c d e 7 + zMd a b c d e 8 + zMd a b c d e 9 + zMd a b c d e 10 + zMd a b c d e 11 + zMd a b c d e 12 + zMd a b c d e 13 + zMd a b c d e 14 + zMd a b c d e 15 + zMd a b c d e 16 + zMd a b c d e 17 + zMd a b c d e 18 + zMd a b c d e 19 := rfl
  unfold zAc
  rw [l, k a, k b, k c, k d, k e]
  omega
theorem zMr_20 (a b c d e : Int) (p : zTx) : zMr a b c d e 20 p = zAp a b c d e p := rfl
theorem zA1_mo (v : Int) (p : zTx) : p.2 ≤ (zA1 v p).2 := by
  unfold zA1
  split
  · exact Int.le_refl _
  · show p.2 ≤ p.2 + 1
    omega
theorem zMr_mo (a b c d e : Int) : ∀ (n : Nat) (p : zTx), p.2 ≤ (zMr a b c d e n p).2
  | 0, p => Int.le_refl _
  | n + 1, p => Int.le_trans (zA1_mo _ p) (zMr_mo a b c d e n _)
section ZB0
variable {S : mH} {I : mN} {m z : Int} {G : gT} {Q : mQ} (D : Nat)
theorem r_textByte {a b c d e k : Int} (k0 : 0 ≤ k) (k1 : k < 20) : mRun (D + 1) 314 [mI a, mI b, mI c, mI d, mI e, mI k] I S Q = Q (.inl (some (mI (zBk a b c d e k)))) I S := by
  have hb : ∀ w s : Int, mAnd (mShr w s) 255 = zBy w s := fun _ _ => rfl
  unfold zBk
  by_cases c1 : k < 4
  · rw [if_pos c1]
    simp (disch := first | omega | exact Nat.le_of_ble_eq_true rfl) only [w_iconst, w_bipush, w_sipush, w_ldc_s, w_ldcw_s, w_ldc_i, w_ldcw_i, w_lconst, w_fconst, w_dconst, w_iload, w_iload_n, w_aload, w_aload_n, w_dload, w_istore, w_istore_n, w_astore_r, w_astore_s, w_astore_n_r, w_astore_n_s, w_dstore, w_iinc, w_iadd, w_isub, w_imul, w_iand, w_iushr, v_idiv, v_irem, w_ineg, w_i2l, w_i2c, w_i2f, w_i2d, v_f2d, w_lcmp, w_dcmp, v_fdiv, v_ddiv, w_dup_i, w_dup_r, w_dup2, w_dup_x2, w_pop_i, w_pop_r, w_goto, w_switch, w_ret_i, v_ret_z, v_ret_c, w_ret_a, w_ret_s, w_ret_f, w_ret_d, w_ret_v, v_iaload, v_baload, v_caload, v_laload, v_aaload, v_iastore, v_bastore, v_castore, v_lastore, v_aastore, v_alen, v_newa, v_anewa, w_new, w_throw, w_dead, v_getf_i, v_getf_z, v_getf_r, v_putf_i, v_putf_z, v_putf_r, w_call0, w_call1, w_callv1, w_calli1, w_callt1, w_call2, w_callv2, w_calli2, w_callt2, w_call3, w_callv3, w_calli3, w_call4, w_callv4, w_calli4, w_call5, w_callv5, w_calli5, w_call6, w_callv6, w_calli6, w_call7, w_callv7, w_calli7, w_call8, w_callv8, w_calli8, c_if0_eq_t, c_if0_eq_f, c_if2_eq_t, c_if2_eq_f, c_if0_ne_t, c_if0_ne_f, c_if2_ne_t, c_if2_ne_f, c_if0_lt_t, c_if0_lt_f, c_if2_lt_t, c_if2_lt_f, c_if0_ge_t, c_if0_ge_f, c_if2_ge_t, c_if2_ge_f, c_if0_gt_t, c_if0_gt_f, c_if2_gt_t, c_if2_gt_f, c_if0_le_t, c_if0_le_f, c_if2_le_t, c_if2_le_f, w_nil, uI_s, uA_r, uA_s, uD_d, mPut_0, mCl_own, mCv_go, mCl_min, mCl_cpy, mCv_obj, mAct_len, mAct_chrc, mAft_v, mAft_n, mAft_x, mGet_0, mSet_0, mGet_1, mSet_1, mGet_2, mSet_2, mGet_3, mSet_3, mGet_4, mSet_4, mGet_5, mSet_5, mGet_6, mSet_6, mGet_7, mSet_7, mGet_8, mSet_8, mGet_9, mSet_9, mGet_10, mSet_10, mGet_11, mSet_11, mGet_12, mSet_12, mGet_13, mSet_13, e_Mo_textByte, a_Mo_textByte_0, bk_Mo_textByte_0, a_Mo_textByte_45, bk_Mo_textByte_45, c1, hb, md, wr]
  · rw [if_neg c1]
    by_cases c2 : k < 8
    · rw [if_pos c2]
      simp (disch := first | omega | exact Nat.le_of_ble_eq_true rfl) only [w_iconst, w_bipush, w_sipush, w_ldc_s, w_ldcw_s, w_ldc_i, w_ldcw_i, w_lconst, w_fconst, w_dconst, w_iload, w_iload_n, w_aload, w_aload_n, w_dload, w_istore, w_istore_n, w_astore_r, w_astore_s, w_astore_n_r, w_astore_n_s, w_dstore, w_iinc, w_iadd, w_isub, w_imul, w_iand, w_iushr, v_idiv, v_irem, w_ineg, w_i2l, w_i2c, w_i2f, w_i2d, v_f2d, w_lcmp, w_dcmp, v_fdiv, v_ddiv, w_dup_i, w_dup_r, w_dup2, w_dup_x2, w_pop_i, w_pop_r, w_goto, w_switch, w_ret_i, v_ret_z, v_ret_c, w_ret_a, w_ret_s, w_ret_f, w_ret_d, w_ret_v, v_iaload, v_baload, v_caload, v_laload, v_aaload, v_iastore, v_bastore, v_castore, v_lastore, v_aastore, v_alen, v_newa, v_anewa, w_new, w_throw, w_dead, v_getf_i, v_getf_z, v_getf_r, v_putf_i, v_putf_z, v_putf_r, w_call0, w_call1, w_callv1, w_calli1, w_callt1, w_call2, w_callv2, w_calli2, w_callt2, w_call3, w_callv3, w_calli3, w_call4, w_callv4, w_calli4, w_call5, w_callv5, w_calli5, w_call6, w_callv6, w_calli6, w_call7, w_callv7, w_calli7, w_call8, w_callv8, w_calli8, c_if0_eq_t, c_if0_eq_f, c_if2_eq_t, c_if2_eq_f, c_if0_ne_t, c_if0_ne_f, c_if2_ne_t, c_if2_ne_f, c_if0_lt_t, c_if0_lt_f, c_if2_lt_t, c_if2_lt_f, c_if0_ge_t, c_if0_ge_f, c_if2_ge_t, c_if2_ge_f, c_if0_gt_t, c_if0_gt_f, c_if2_gt_t, c_if2_gt_f, c_if0_le_t, c_if0_le_f, c_if2_le_t, c_if2_le_f, w_nil, uI_s, uA_r, uA_s, uD_d, mPut_0, mCl_own, mCv_go, mCl_min, mCl_cpy, mCv_obj, mAct_len, mAct_chrc, mAft_v, mAft_n, mAft_x, mGet_0, mSet_0, mGet_1, mSet_1, mGet_2, mSet_2, mGet_3, mSet_3, mGet_4, mSet_4, mGet_5, mSet_5, mGet_6, mSet_6, mGet_7, mSet_7, mGet_8, mSet_8, mGet_9, mSet_9, mGet_10, mSet_10, mGet_11, mSet_11, mGet_12, mSet_12, mGet_13, mSet_13, e_Mo_textByte, a_Mo_textByte_0, bk_Mo_textByte_0, a_Mo_textByte_10, bk_Mo_textByte_10, a_Mo_textByte_45, bk_Mo_textByte_45, c1, c2, hb, md, wr]
    · rw [if_neg c2]
      by_cases c3 : k < 12
      · rw [if_pos c3]
        simp (disch := first | omega | exact Nat.le_of_ble_eq_true rfl) only [w_iconst, w_bipush, w_sipush, w_ldc_s, w_ldcw_s, w_ldc_i, w_ldcw_i, w_lconst, w_fconst, w_dconst, w_iload, w_iload_n, w_aload, w_aload_n, w_dload, w_istore, w_istore_n, w_astore_r, w_astore_s, w_astore_n_r, w_astore_n_s, w_dstore, w_iinc, w_iadd, w_isub, w_imul, w_iand, w_iushr, v_idiv, v_irem, w_ineg, w_i2l, w_i2c, w_i2f, w_i2d, v_f2d, w_lcmp, w_dcmp, v_fdiv, v_ddiv, w_dup_i, w_dup_r, w_dup2, w_dup_x2, w_pop_i, w_pop_r, w_goto, w_switch, w_ret_i, v_ret_z, v_ret_c, w_ret_a, w_ret_s, w_ret_f, w_ret_d, w_ret_v, v_iaload, v_baload, v_caload, v_laload, v_aaload, v_iastore, v_bastore, v_castore, v_lastore, v_aastore, v_alen, v_newa, v_anewa, w_new, w_throw, w_dead, v_getf_i, v_getf_z, v_getf_r, v_putf_i, v_putf_z, v_putf_r, w_call0, w_call1, w_callv1, w_calli1, w_callt1, w_call2, w_callv2, w_calli2, w_callt2, w_call3, w_callv3, w_calli3, w_call4, w_callv4, w_calli4, w_call5, w_callv5, w_calli5, w_call6, w_callv6, w_calli6, w_call7, w_callv7, w_calli7, w_call8, w_callv8, w_calli8, c_if0_eq_t, c_if0_eq_f, c_if2_eq_t, c_if2_eq_f, c_if0_ne_t, c_if0_ne_f, c_if2_ne_t, c_if2_ne_f, c_if0_lt_t, c_if0_lt_f, c_if2_lt_t, c_if2_lt_f, c_if0_ge_t, c_if0_ge_f, c_if2_ge_t, c_if2_ge_f, c_if0_gt_t, c_if0_gt_f, c_if2_gt_t, c_if2_gt_f, c_if0_le_t, c_if0_le_f, c_if2_le_t, c_if2_le_f, w_nil, uI_s, uA_r, uA_s, uD_d, mPut_0, mCl_own, mCv_go, mCl_min, mCl_cpy, mCv_obj, mAct_len, mAct_chrc, mAft_v, mAft_n, mAft_x, mGet_0, mSet_0, mGet_1, mSet_1, mGet_2, mSet_2, mGet_3, mSet_3, mGet_4, mSet_4, mGet_5, mSet_5, mGet_6, mSet_6, mGet_7, mSet_7, mGet_8, mSet_8, mGet_9, mSet_9, mGet_10, mSet_10, mGet_11, mSet_11, mGet_12, mSet_12, mGet_13, mSet_13, e_Mo_textByte, a_Mo_textByte_0, bk_Mo_textByte_0, a_Mo_textByte_10, bk_Mo_textByte_10, a_Mo_textByte_21, bk_Mo_textByte_21, a_Mo_textByte_45, bk_Mo_textByte_45, c1, c2, c3, hb, md, wr]
      · rw [if_neg c3]
        by_cases c4 : k < 16
        · rw [if_pos c4]
          simp (disch := first | omega | exact Nat.le_of_ble_eq_true rfl) only [w_iconst, w_bipush, w_sipush, w_ldc_s, w_ldcw_s, w_ldc_i, w_ldcw_i, w_lconst, w_fconst, w_dconst, w_iload, w_iload_n, w_aload, w_aload_n, w_dload, w_istore, w_istore_n, w_astore_r, w_astore_s, w_astore_n_r, w_astore_n_s, w_dstore, w_iinc, w_iadd, w_isub, w_imul, w_iand, w_iushr, v_idiv, v_irem, w_ineg, w_i2l, w_i2c, w_i2f, w_i2d, v_f2d, w_lcmp, w_dcmp, v_fdiv, v_ddiv, w_dup_i, w_dup_r, w_dup2, w_dup_x2, w_pop_i, w_pop_r, w_goto, w_switch, w_ret_i, v_ret_z, v_ret_c, w_ret_a, w_ret_s, w_ret_f, w_ret_d, w_ret_v, v_iaload, v_baload, v_caload, v_laload, v_aaload, v_iastore, v_bastore, v_castore, v_lastore, v_aastore, v_alen, v_newa, v_anewa, w_new, w_throw, w_dead, v_getf_i, v_getf_z, v_getf_r, v_putf_i, v_putf_z, v_putf_r, w_call0, w_call1, w_callv1, w_calli1, w_callt1, w_call2, w_callv2, w_calli2, w_callt2, w_call3, w_callv3, w_calli3, w_call4, w_callv4, w_calli4, w_call5, w_callv5, w_calli5, w_call6, w_callv6, w_calli6, w_call7, w_callv7, w_calli7, w_call8, w_callv8, w_calli8, c_if0_eq_t, c_if0_eq_f, c_if2_eq_t, c_if2_eq_f, c_if0_ne_t, c_if0_ne_f, c_if2_ne_t, c_if2_ne_f, c_if0_lt_t, c_if0_lt_f, c_if2_lt_t, c_if2_lt_f, c_if0_ge_t, c_if0_ge_f, c_if2_ge_t, c_if2_ge_f, c_if0_gt_t, c_if0_gt_f, c_if2_gt_t, c_if2_gt_f, c_if0_le_t, c_if0_le_f, c_if2_le_t, c_if2_le_f, w_nil, uI_s, uA_r, uA_s, uD_d, mPut_0, mCl_own, mCv_go, mCl_min, mCl_cpy, mCv_obj, mAct_len, mAct_chrc, mAft_v, mAft_n, mAft_x, mGet_0, mSet_0, mGet_1, mSet_1, mGet_2, mSet_2, mGet_3, mSet_3, mGet_4, mSet_4, mGet_5, mSet_5, mGet_6, mSet_6, mGet_7, mSet_7, mGet_8, mSet_8, mGet_9, mSet_9, mGet_10, mSet_10, mGet_11, mSet_11, mGet_12, mSet_12, mGet_13, mSet_13, e_Mo_textByte, a_Mo_textByte_0, bk_Mo_textByte_0, a_Mo_textByte_10, bk_Mo_textByte_10, a_Mo_textByte_21, bk_Mo_textByte_21, a_Mo_textByte_32, bk_Mo_textByte_32, a_Mo_textByte_45, bk_Mo_textByte_45, c1, c2, c3, c4, hb, md, wr]
        · rw [if_neg c4]
          simp (disch := first | omega | exact Nat.le_of_ble_eq_true rfl) only [w_iconst, w_bipush, w_sipush, w_ldc_s, w_ldcw_s, w_ldc_i, w_ldcw_i, w_lconst, w_fconst, w_dconst, w_iload, w_iload_n, w_aload, w_aload_n, w_dload, w_istore, w_istore_n, w_astore_r, w_astore_s, w_astore_n_r, w_astore_n_s, w_dstore, w_iinc, w_iadd, w_isub, w_imul, w_iand, w_iushr, v_idiv, v_irem, w_ineg, w_i2l, w_i2c, w_i2f, w_i2d, v_f2d, w_lcmp, w_dcmp, v_fdiv, v_ddiv, w_dup_i, w_dup_r, w_dup2, w_dup_x2, w_pop_i, w_pop_r, w_goto, w_switch, w_ret_i, v_ret_z, v_ret_c, w_ret_a, w_ret_s, w_ret_f, w_ret_d, w_ret_v, v_iaload, v_baload, v_caload, v_laload, v_aaload, v_iastore, v_bastore, v_castore, v_lastore, v_aastore, v_alen, v_newa, v_anewa, w_new, w_throw, w_dead, v_getf_i, v_getf_z, v_getf_r, v_putf_i, v_putf_z, v_putf_r, w_call0, w_call1, w_callv1, w_calli1, w_callt1, w_call2, w_callv2, w_calli2, w_callt2, w_call3, w_callv3, w_calli3, w_call4, w_callv4, w_calli4, w_call5, w_callv5, w_calli5, w_call6, w_callv6, w_calli6, w_call7, w_callv7, w_calli7, w_call8, w_callv8, w_calli8, c_if0_eq_t, c_if0_eq_f, c_if2_eq_t, c_if2_eq_f, c_if0_ne_t, c_if0_ne_f, c_if2_ne_t, c_if2_ne_f, c_if0_lt_t, c_if0_lt_f, c_if2_lt_t, c_if2_lt_f, c_if0_ge_t, c_if0_ge_f, c_if2_ge_t, c_if2_ge_f, c_if0_gt_t, c_if0_gt_f, c_if2_gt_t, c_if2_gt_f, c_if0_le_t, c_if0_le_f, c_if2_le_t, c_if2_le_f, w_nil, uI_s, uA_r, uA_s, uD_d, mPut_0, mCl_own, mCv_go, mCl_min, mCl_cpy, mCv_obj, mAct_len, mAct_chrc, mAft_v, mAft_n, mAft_x, mGet_0, mSet_0, mGet_1, mSet_1, mGet_2, mSet_2, mGet_3, mSet_3, mGet_4, mSet_4, mGet_5, mSet_5, mGet_6, mSet_6, mGet_7, mSet_7, mGet_8, mSet_8, mGet_9, mSet_9, mGet_10, mSet_10, mGet_11, mSet_11, mGet_12, mSet_12, mGet_13, mSet_13, e_Mo_textByte, a_Mo_textByte_0, bk_Mo_textByte_0, a_Mo_textByte_10, bk_Mo_textByte_10, a_Mo_textByte_21, bk_Mo_textByte_21, a_Mo_textByte_32, bk_Mo_textByte_32, a_Mo_textByte_43, bk_Mo_textByte_43, a_Mo_textByte_45, bk_Mo_textByte_45, c1, c2, c3, c4, hb, md, wr]
theorem zMc_b (a b c d e : Int) : ∀ n : Nat, 0 ≤ zMc a b c d e n ∧ zMc a b c d e n ≤ n
  | 0 => ⟨Int.le_refl 0, Int.le_refl 0⟩
  | n + 1 => by
    have h := zMc_b a b c d e n
    have h1 : zMd a b c d e (n : Int) = 0 ∨ zMd a b c d e (n : Int) = 1 := by
      unfold zMd
      split
      · exact Or.inl rfl
      · exact Or.inr rfl
    have h2 : zMc a b c d e (n + 1) = zMc a b c d e n + zMd a b c d e (n : Int) := rfl
    omega
theorem l_oap {a b c d e : Int} {x8 : Option mV} (k : mAt (mRun (D + 1)) 315 44 ([some (mR m), some (mI a), some (mI b), some (mI c), some (mI d), some (mI e), some (mI (zMc a b c d e 20)), some (mI 20), x8], [], I, S) Q) :
    ∀ (cc n : Nat) (q : Int), n + cc = 20 → q = zMc a b c d e n → mAt (mRun (D + 1)) 315 6 ([some (mR m), some (mI a), some (mI b), some (mI c), some (mI d), some (mI e), some (mI q), some (mI (n : Int)), x8], [], I, S) Q
  | 0, n, q, hc, hq => by
    obtain rfl : n = 20 := by omega
    rw [hq, a_Mo_append_6]
    simp (disch := first | omega | exact Nat.le_of_ble_eq_true rfl) only [w_iconst, w_bipush, w_sipush, w_ldc_s, w_ldcw_s, w_ldc_i, w_ldcw_i, w_lconst, w_fconst, w_dconst, w_iload, w_iload_n, w_aload, w_aload_n, w_dload, w_istore, w_istore_n, w_astore_r, w_astore_s, w_astore_n_r, w_astore_n_s, w_dstore, w_iinc, w_iadd, w_isub, w_imul, w_iand, w_iushr, v_idiv, v_irem, w_ineg, w_i2l, w_i2c, w_i2f, w_i2d, v_f2d, w_lcmp, w_dcmp, v_fdiv, v_ddiv, w_dup_i, w_dup_r, w_dup2, w_dup_x2, w_pop_i, w_pop_r, w_goto, w_switch, w_ret_i, v_ret_z, v_ret_c, w_ret_a, w_ret_s, w_ret_f, w_ret_d, w_ret_v, v_iaload, v_baload, v_caload, v_laload, v_aaload, v_iastore, v_bastore, v_castore, v_lastore, v_aastore, v_alen, v_newa, v_anewa, w_new, w_throw, w_dead, v_getf_i, v_getf_z, v_getf_r, v_putf_i, v_putf_z, v_putf_r, w_call0, w_call1, w_callv1, w_calli1, w_callt1, w_call2, w_callv2, w_calli2, w_callt2, w_call3, w_callv3, w_calli3, w_call4, w_callv4, w_calli4, w_call5, w_callv5, w_calli5, w_call6, w_callv6, w_calli6, w_call7, w_callv7, w_calli7, w_call8, w_callv8, w_calli8, c_if0_eq_t, c_if0_eq_f, c_if2_eq_t, c_if2_eq_f, c_if0_ne_t, c_if0_ne_f, c_if2_ne_t, c_if2_ne_f, c_if0_lt_t, c_if0_lt_f, c_if2_lt_t, c_if2_lt_f, c_if0_ge_t, c_if0_ge_f, c_if2_ge_t, c_if2_ge_f, c_if0_gt_t, c_if0_gt_f, c_if2_gt_t, c_if2_gt_f, c_if0_le_t, c_if0_le_f, c_if2_le_t, c_if2_le_f, w_nil, uI_s, uA_r, uA_s, uD_d, mPut_0, mCl_own, mCv_go, mCl_min, mCl_cpy, mCv_obj, mAct_len, mAct_chrc, mAft_v, mAft_n, mAft_x, mGet_0, mSet_0, mGet_1, mSet_1, mGet_2, mSet_2, mGet_3, mSet_3, mGet_4, mSet_4, mGet_5, mSet_5, mGet_6, mSet_6, mGet_7, mSet_7, mGet_8, mSet_8, mGet_9, mSet_9, mGet_10, mSet_10, mGet_11, mSet_11, mGet_12, mSet_12, mGet_13, mSet_13, bk_Mo_append_6]
    exact k
  | cc + 1, n, q, hc, hq => by
    have hb := zMc_b a b c d e n
    have h2 : zMc a b c d e (n + 1) = zMc a b c d e n + zMd a b c d e (n : Int) := rfl
    have hcast : (n : Int) + 1 = ((n + 1 : Nat) : Int) := by omega
    have ht : ∀ Q : mQ, mRun (D + 1) 314 [mI a, mI b, mI c, mI d, mI e, mI (n : Int)] I S Q = Q (.inl (some (mI (zBk a b c d e n)))) I S := fun Q => r_textByte D (by omega) (by omega)
    rw [a_Mo_append_6]
    by_cases c1 : zBk a b c d e (n : Int) = 0
    · have h3 : zMd a b c d e (n : Int) = 0 := if_pos c1
      simp (disch := first | omega | exact Nat.le_of_ble_eq_true rfl) only [w_iconst, w_bipush, w_sipush, w_ldc_s, w_ldcw_s, w_ldc_i, w_ldcw_i, w_lconst, w_fconst, w_dconst, w_iload, w_iload_n, w_aload, w_aload_n, w_dload, w_istore, w_istore_n, w_astore_r, w_astore_s, w_astore_n_r, w_astore_n_s, w_dstore, w_iinc, w_iadd, w_isub, w_imul, w_iand, w_iushr, v_idiv, v_irem, w_ineg, w_i2l, w_i2c, w_i2f, w_i2d, v_f2d, w_lcmp, w_dcmp, v_fdiv, v_ddiv, w_dup_i, w_dup_r, w_dup2, w_dup_x2, w_pop_i, w_pop_r, w_goto, w_switch, w_ret_i, v_ret_z, v_ret_c, w_ret_a, w_ret_s, w_ret_f, w_ret_d, w_ret_v, v_iaload, v_baload, v_caload, v_laload, v_aaload, v_iastore, v_bastore, v_castore, v_lastore, v_aastore, v_alen, v_newa, v_anewa, w_new, w_throw, w_dead, v_getf_i, v_getf_z, v_getf_r, v_putf_i, v_putf_z, v_putf_r, w_call0, w_call1, w_callv1, w_calli1, w_callt1, w_call2, w_callv2, w_calli2, w_callt2, w_call3, w_callv3, w_calli3, w_call4, w_callv4, w_calli4, w_call5, w_callv5, w_calli5, w_call6, w_callv6, w_calli6, w_call7, w_callv7, w_calli7, w_call8, w_callv8, w_calli8, c_if0_eq_t, c_if0_eq_f, c_if2_eq_t, c_if2_eq_f, c_if0_ne_t, c_if0_ne_f, c_if2_ne_t, c_if2_ne_f, c_if0_lt_t, c_if0_lt_f, c_if2_lt_t, c_if2_lt_f, c_if0_ge_t, c_if0_ge_f, c_if2_ge_t, c_if2_ge_f, c_if0_gt_t, c_if0_gt_f, c_if2_gt_t, c_if2_gt_f, c_if0_le_t, c_if0_le_f, c_if2_le_t, c_if2_le_f, w_nil, uI_s, uA_r, uA_s, uD_d, mPut_0, mCl_own, mCv_go, mCl_min, mCl_cpy, mCv_obj, mAct_len, mAct_chrc, mAft_v, mAft_n, mAft_x, mGet_0, mSet_0, mGet_1, mSet_1, mGet_2, mSet_2, mGet_3, mSet_3, mGet_4, mSet_4, mGet_5, mSet_5, mGet_6, mSet_6, mGet_7, mSet_7, mGet_8, mSet_8, mGet_9, mSet_9, mGet_10, mSet_10, mGet_11, mSet_11, mGet_12, mSet_12, mGet_13, mSet_13, bk_Mo_append_6, ht, c1, a_Mo_append_35, bk_Mo_append_35, wr]
      rw [hcast]
      exact l_oap k cc (n + 1) _ (by omega) (by omega)
    · have h3 : zMd a b c d e (n : Int) = 1 := if_neg c1
      simp (disch := first | omega | exact Nat.le_of_ble_eq_true rfl) only [w_iconst, w_bipush, w_sipush, w_ldc_s, w_ldcw_s, w_ldc_i, w_ldcw_i, w_lconst, w_fconst, w_dconst, w_iload, w_iload_n, w_aload, w_aload_n, w_dload, w_istore, w_istore_n, w_astore_r, w_astore_s, w_astore_n_r, w_astore_n_s, w_dstore, w_iinc, w_iadd, w_isub, w_imul, w_iand, w_iushr, v_idiv, v_irem, w_ineg, w_i2l, w_i2c, w_i2f, w_i2d, v_f2d, w_lcmp, w_dcmp, v_fdiv, v_ddiv, w_dup_i, w_dup_r, w_dup2, w_dup_x2, w_pop_i, w_pop_r, w_goto, w_switch, w_ret_i, v_ret_z, v_ret_c, w_ret_a, w_ret_s, w_ret_f, w_ret_d, w_ret_v, v_iaload, v_baload, v_caload, v_laload, v_aaload, v_iastore, v_bastore, v_castore, v_lastore, v_aastore, v_alen, v_newa, v_anewa, w_new, w_throw, w_dead, v_getf_i, v_getf_z, v_getf_r, v_putf_i, v_putf_z, v_putf_r, w_call0, w_call1, w_callv1, w_calli1, w_callt1, w_call2, w_callv2, w_calli2, w_callt2, w_call3, w_callv3, w_calli3, w_call4, w_callv4, w_calli4, w_call5, w_callv5, w_calli5, w_call6, w_callv6, w_calli6, w_call7, w_callv7, w_calli7, w_call8, w_callv8, w_calli8, c_if0_eq_t, c_if0_eq_f, c_if2_eq_t, c_if2_eq_f, c_if0_ne_t, c_if0_ne_f, c_if2_ne_t, c_if2_ne_f, c_if0_lt_t, c_if0_lt_f, c_if2_lt_t, c_if2_lt_f, c_if0_ge_t, c_if0_ge_f, c_if2_ge_t, c_if2_ge_f, c_if0_gt_t, c_if0_gt_f, c_if2_gt_t, c_if2_gt_f, c_if0_le_t, c_if0_le_f, c_if2_le_t, c_if2_le_f, w_nil, uI_s, uA_r, uA_s, uD_d, mPut_0, mCl_own, mCv_go, mCl_min, mCl_cpy, mCv_obj, mAct_len, mAct_chrc, mAft_v, mAft_n, mAft_x, mGet_0, mSet_0, mGet_1, mSet_1, mGet_2, mSet_2, mGet_3, mSet_3, mGet_4, mSet_4, mGet_5, mSet_5, mGet_6, mSet_6, mGet_7, mSet_7, mGet_8, mSet_8, mGet_9, mSet_9, mGet_10, mSet_10, mGet_11, mSet_11, mGet_12, mSet_12, mGet_13, mSet_13, bk_Mo_append_6, ht, c1, a_Mo_append_34, bk_Mo_append_34, a_Mo_append_35, bk_Mo_append_35, wr]
      rw [hcast]
      exact l_oap k cc (n + 1) _ (by omega) (by omega)
def oTx (I : mN) (m : Int) (p : zTx) : Prop := I m 55 = p.2 ∧ I (m + 40) = p.1
def oTf (I I' : mN) (m : Int) : Prop := (∀ a : Int, a ≠ m → a ≠ m + 40 → I' a = I a) ∧ ∀ k : Int, k ≠ 55 → I' m k = I m k
theorem l_oaq {a b c d e : Int} {q : Int} (hm : yM S m) {I0 : mN} : ∀ (cc : Nat) (I : mN) (p : zTx) (x8 : Option mV), cc ≤ 20 → oTx I m p → 0 ≤ p.2 → p.2 + cc ≤ 10000 → (zMr a b c d e cc p).2 ≤ 900 → oTf I0 I m → (∀ I' : mN, oTx I' m (zMr a b c d e cc p) → oTf I0 I' m → Q (.inl (some (mI (zMr a b c d e cc p).2))) I' S) → mAt (mRun (D + 1)) 315 74 ([some (mR m), some (mI a), some (mI b), some (mI c), some (mI d), some (mI e), some (mI q), some (mI (20 - (cc : Int))), x8], [], I, S) Q
  | 0, I, p, x8, hc, hp, p0, p1, p9, hf, k => by
    have h1 := hp.1
    rw [a_Mo_append_74]
    have k' := k I hp hf
    have e0 : (zMr a b c d e 0 p).2 = p.2 := rfl
    rw [e0] at k'
    simp (disch := first | omega | exact Nat.le_of_ble_eq_true rfl | (simp (disch := omega) only [ym_k hm, h1] <;> omega)) only [w_iconst, w_bipush, w_sipush, w_ldc_s, w_ldcw_s, w_ldc_i, w_ldcw_i, w_lconst, w_fconst, w_dconst, w_iload, w_iload_n, w_aload, w_aload_n, w_dload, w_istore, w_istore_n, w_astore_r, w_astore_s, w_astore_n_r, w_astore_n_s, w_dstore, w_iinc, w_iadd, w_isub, w_imul, w_iand, w_iushr, v_idiv, v_irem, w_ineg, w_i2l, w_i2c, w_i2f, w_i2d, v_f2d, w_lcmp, w_dcmp, v_fdiv, v_ddiv, w_dup_i, w_dup_r, w_dup2, w_dup_x2, w_pop_i, w_pop_r, w_goto, w_switch, w_ret_i, v_ret_z, v_ret_c, w_ret_a, w_ret_s, w_ret_f, w_ret_d, w_ret_v, v_iaload, v_baload, v_caload, v_laload, v_aaload, v_iastore, v_bastore, v_castore, v_lastore, v_aastore, v_alen, v_newa, v_anewa, w_new, w_throw, w_dead, v_getf_i, v_getf_z, v_getf_r, v_putf_i, v_putf_z, v_putf_r, w_call0, w_call1, w_callv1, w_calli1, w_callt1, w_call2, w_callv2, w_calli2, w_callt2, w_call3, w_callv3, w_calli3, w_call4, w_callv4, w_calli4, w_call5, w_callv5, w_calli5, w_call6, w_callv6, w_calli6, w_call7, w_callv7, w_calli7, w_call8, w_callv8, w_calli8, c_if0_eq_t, c_if0_eq_f, c_if2_eq_t, c_if2_eq_f, c_if0_ne_t, c_if0_ne_f, c_if2_ne_t, c_if2_ne_f, c_if0_lt_t, c_if0_lt_f, c_if2_lt_t, c_if2_lt_f, c_if0_ge_t, c_if0_ge_f, c_if2_ge_t, c_if2_ge_f, c_if0_gt_t, c_if0_gt_f, c_if2_gt_t, c_if2_gt_f, c_if0_le_t, c_if0_le_f, c_if2_le_t, c_if2_le_f, w_nil, uI_s, uA_r, uA_s, uD_d, mPut_0, mCl_own, mCv_go, mCl_min, mCl_cpy, mCv_obj, mAct_len, mAct_chrc, mAft_v, mAft_n, mAft_x, mGet_0, mSet_0, mGet_1, mSet_1, mGet_2, mSet_2, mGet_3, mSet_3, mGet_4, mSet_4, mGet_5, mSet_5, mGet_6, mSet_6, mGet_7, mSet_7, mGet_8, mSet_8, mGet_9, mSet_9, mGet_10, mSet_10, mGet_11, mSet_11, mGet_12, mSet_12, mGet_13, mSet_13, bk_Mo_append_74, a_Mo_append_130, bk_Mo_append_130, ym_k hm, h1]
    exact k'
  | cc + 1, I, p, x8, hc, hp, p0, p1, p9, hf, k => by
    obtain ⟨h1, h2⟩ := id hp
    have ek : 20 - ((cc + 1 : Nat) : Int) = 19 - (cc : Int) := by omega
    have ek2 : 19 - (cc : Int) + 1 = 20 - (cc : Int) := by omega
    have ht : ∀ Q : mQ, mRun (D + 1) 314 [mI a, mI b, mI c, mI d, mI e, mI (19 - (cc : Int))] I S Q = Q (.inl (some (mI (zBk a b c d e (19 - (cc : Int)))))) I S := fun Q => r_textByte D (by omega) (by omega)
    have hz : zMr a b c d e (cc + 1) p = zMr a b c d e cc (zA1 (zBk a b c d e (19 - (cc : Int))) p) := rfl
    have hb : 0 ≤ zBk a b c d e (19 - (cc : Int)) ∧ zBk a b c d e (19 - (cc : Int)) ≤ 255 := zBy_b _ _
    have hmo := zMr_mo a b c d e cc (zA1 (zBk a b c d e (19 - (cc : Int))) p)
    rw [a_Mo_append_74, ek]
    rw [hz] at k p9
    by_cases c1 : zBk a b c d e (19 - (cc : Int)) = 0
    · have e0 : zA1 (zBk a b c d e (19 - (cc : Int))) p = p := if_pos c1
      rw [e0] at k p9
      simp (disch := first | omega | exact Nat.le_of_ble_eq_true rfl) only [w_iconst, w_bipush, w_sipush, w_ldc_s, w_ldcw_s, w_ldc_i, w_ldcw_i, w_lconst, w_fconst, w_dconst, w_iload, w_iload_n, w_aload, w_aload_n, w_dload, w_istore, w_istore_n, w_astore_r, w_astore_s, w_astore_n_r, w_astore_n_s, w_dstore, w_iinc, w_iadd, w_isub, w_imul, w_iand, w_iushr, v_idiv, v_irem, w_ineg, w_i2l, w_i2c, w_i2f, w_i2d, v_f2d, w_lcmp, w_dcmp, v_fdiv, v_ddiv, w_dup_i, w_dup_r, w_dup2, w_dup_x2, w_pop_i, w_pop_r, w_goto, w_switch, w_ret_i, v_ret_z, v_ret_c, w_ret_a, w_ret_s, w_ret_f, w_ret_d, w_ret_v, v_iaload, v_baload, v_caload, v_laload, v_aaload, v_iastore, v_bastore, v_castore, v_lastore, v_aastore, v_alen, v_newa, v_anewa, w_new, w_throw, w_dead, v_getf_i, v_getf_z, v_getf_r, v_putf_i, v_putf_z, v_putf_r, w_call0, w_call1, w_callv1, w_calli1, w_callt1, w_call2, w_callv2, w_calli2, w_callt2, w_call3, w_callv3, w_calli3, w_call4, w_callv4, w_calli4, w_call5, w_callv5, w_calli5, w_call6, w_callv6, w_calli6, w_call7, w_callv7, w_calli7, w_call8, w_callv8, w_calli8, c_if0_eq_t, c_if0_eq_f, c_if2_eq_t, c_if2_eq_f, c_if0_ne_t, c_if0_ne_f, c_if2_ne_t, c_if2_ne_f, c_if0_lt_t, c_if0_lt_f, c_if2_lt_t, c_if2_lt_f, c_if0_ge_t, c_if0_ge_f, c_if2_ge_t, c_if2_ge_f, c_if0_gt_t, c_if0_gt_f, c_if2_gt_t, c_if2_gt_f, c_if0_le_t, c_if0_le_f, c_if2_le_t, c_if2_le_f, w_nil, uI_s, uA_r, uA_s, uD_d, mPut_0, mCl_own, mCv_go, mCl_min, mCl_cpy, mCv_obj, mAct_len, mAct_chrc, mAft_v, mAft_n, mAft_x, mGet_0, mSet_0, mGet_1, mSet_1, mGet_2, mSet_2, mGet_3, mSet_3, mGet_4, mSet_4, mGet_5, mSet_5, mGet_6, mSet_6, mGet_7, mSet_7, mGet_8, mSet_8, mGet_9, mSet_9, mGet_10, mSet_10, mGet_11, mSet_11, mGet_12, mSet_12, mGet_13, mSet_13, bk_Mo_append_74, ht, c1, a_Mo_append_124, bk_Mo_append_124, wr]
      rw [ek2]
      exact l_oaq hm cc I p _ (by omega) hp p0 (by omega) p9 hf k
    · have e0 : zA1 (zBk a b c d e (19 - (cc : Int))) p = (zU p.1 p.2 (zBk a b c d e (19 - (cc : Int))), p.2 + 1) := if_neg c1
      rw [e0] at k p9 hmo
      have hmo : p.2 + 1 ≤ (zMr a b c d e cc (zU p.1 p.2 (zBk a b c d e (19 - (cc : Int))), p.2 + 1)).2 := hmo
      simp (disch := first | omega | exact Nat.le_of_ble_eq_true rfl | (simp (disch := omega) only [ym_k hm, ym_52 hm, ym_k52 hm, ym_l52 hm, h1, up_fa] <;> omega)) only [w_iconst, w_bipush, w_sipush, w_ldc_s, w_ldcw_s, w_ldc_i, w_ldcw_i, w_lconst, w_fconst, w_dconst, w_iload, w_iload_n, w_aload, w_aload_n, w_dload, w_istore, w_istore_n, w_astore_r, w_astore_s, w_astore_n_r, w_astore_n_s, w_dstore, w_iinc, w_iadd, w_isub, w_imul, w_iand, w_iushr, v_idiv, v_irem, w_ineg, w_i2l, w_i2c, w_i2f, w_i2d, v_f2d, w_lcmp, w_dcmp, v_fdiv, v_ddiv, w_dup_i, w_dup_r, w_dup2, w_dup_x2, w_pop_i, w_pop_r, w_goto, w_switch, w_ret_i, v_ret_z, v_ret_c, w_ret_a, w_ret_s, w_ret_f, w_ret_d, w_ret_v, v_iaload, v_baload, v_caload, v_laload, v_aaload, v_iastore, v_bastore, v_castore, v_lastore, v_aastore, v_alen, v_newa, v_anewa, w_new, w_throw, w_dead, v_getf_i, v_getf_z, v_getf_r, v_putf_i, v_putf_z, v_putf_r, w_call0, w_call1, w_callv1, w_calli1, w_callt1, w_call2, w_callv2, w_calli2, w_callt2, w_call3, w_callv3, w_calli3, w_call4, w_callv4, w_calli4, w_call5, w_callv5, w_calli5, w_call6, w_callv6, w_calli6, w_call7, w_callv7, w_calli7, w_call8, w_callv8, w_calli8, c_if0_eq_t, c_if0_eq_f, c_if2_eq_t, c_if2_eq_f, c_if0_ne_t, c_if0_ne_f, c_if2_ne_t, c_if2_ne_f, c_if0_lt_t, c_if0_lt_f, c_if2_lt_t, c_if2_lt_f, c_if0_ge_t, c_if0_ge_f, c_if2_ge_t, c_if2_ge_f, c_if0_gt_t, c_if0_gt_f, c_if2_gt_t, c_if2_gt_f, c_if0_le_t, c_if0_le_f, c_if2_le_t, c_if2_le_f, w_nil, uI_s, uA_r, uA_s, uD_d, mPut_0, mCl_own, mCv_go, mCl_min, mCl_cpy, mCv_obj, mAct_len, mAct_chrc, mAft_v, mAft_n, mAft_x, mGet_0, mSet_0, mGet_1, mSet_1, mGet_2, mSet_2, mGet_3, mSet_3, mGet_4, mSet_4, mGet_5, mSet_5, mGet_6, mSet_6, mGet_7, mSet_7, mGet_8, mSet_8, mGet_9, mSet_9, mGet_10, mSet_10, mGet_11, mSet_11, mGet_12, mSet_12, mGet_13, mSet_13, bk_Mo_append_74, ht, c1, a_Mo_append_103, bk_Mo_append_103, a_Mo_append_124, bk_Mo_append_124, ym_k hm, ym_52 hm, ym_k52 hm, ym_l52 hm, h1, up_fa, wr]
      rw [ek2]
      refine l_oaq hm cc _ _ _ (by omega) ⟨?_, ?_⟩ (by show 0 ≤ p.2 + 1; omega) (by show p.2 + 1 + (cc : Int) ≤ 10000; omega) p9 ⟨fun q q0 q1 => by rw [up_fa q0, up_fa q1]; exact hf.1 q q0 q1, fun j hj => by rw [up_nk hj, up_fa (by omega)]; exact hf.2 j hj⟩ k
      · rw [up_eq rfl rfl]
      · rw [up_fa (by omega), up_zU, h2]
theorem gO_tx {p : zTx} (hg : gWf G) : ((gTx G p).2.1 ((gTx G p).1 1) ((gTx G p).1 (10 + (gTx G p).1 1))) = (G.2.1 (G.1 1) (G.1 (10 + G.1 1))) := by
  have hc := hg.2.1.1
  have e1 : (gTx G p).1 1 = G.1 1 := gTx_1 (by decide)
  have e2 : (gTx G p).1 (10 + G.1 1) = G.1 (10 + G.1 1) := gTx_1 (by omega)
  rw [e1, e2]
  rfl
theorem oR_tx {I' : mN} {p : zTx} (hg : gWf G) (h : oR S I m G) (hf : oTf I I' m) (h1 : I' m 55 = p.2) (h2 : ∀ i : Int, 0 ≤ i → i < p.2 → I' (m + 40) i = p.1 i) : oR S I' m (gTx G p) := by
  obtain ⟨hm, hC, h3, h4, ⟨h50, h51, h52, h53⟩, h6, h7, h8, h9⟩ := h
  have e := hf.1
  rw [← gO_tx (p := p) hg] at hC
  refine ⟨hm, ⟨by rw [e (m + 1) (by omega) (by omega)]; exact hC.1, fun s s0 s1 => ?_, kWo_k hC.2.2 (hf.2 17 (by decide)) (e _ (by omega) (by omega)) (e _ (by omega) (by omega)) (e _ (by omega) (by omega))⟩, ?_, ?_, ⟨?_, ?_, ?_, ?_⟩, ?_, ⟨h1, ?_, h2⟩, ?_, ?_⟩
  · rw [e (m + 16) (by omega) (by omega), e (m + 13 + s) (by omega) (by omega)]; exact hC.2.1 s s0 s1
  · rw [e (m + 22) (by omega) (by omega)]
    intro k j k0 k1 j0 j1 hkj
    have e2 : (gTx G p).1 (20 + k) = G.1 (20 + k) := gTx_1 (by omega)
    have e3 : (gTx G p).1 (10 + k) = G.1 (10 + k) := gTx_1 (by omega)
    rw [e2] at j1
    rw [e3] at hkj
    exact h3 k j k0 k1 j0 j1 hkj
  · intro k k0 k1
    have e2 : (gTx G p).1 (20 + k) = G.1 (20 + k) := gTx_1 (by omega)
    have e3 : (gTx G p).1 (10 + k) = G.1 (10 + k) := gTx_1 (by omega)
    rw [e2, e3, e (m + 23) (by omega) (by omega), e (m + 24) (by omega) (by omega)]
    exact h4 k k0 k1
  · rw [hf.2 26 (by decide)]; exact h50
  · rw [hf.2 27 (by decide)]; exact h51
  · rw [hf.2 28 (by decide)]; exact h52
  · rw [hf.2 29 (by decide)]; exact h53
  · rw [e (m + 20) (by omega) (by omega)]; exact h6
  · rw [hf.2 61 (by decide)]; exact h7.2.1
  · rw [hf.2 64 (by decide), e (m + 43) (by omega) (by omega)]; exact h8
  · rw [e (m + 25) (by omega) (by omega), e (m + 42) (by omega) (by omega), e (m + 44) (by omega) (by omega)]; exact h9
theorem cm_0 {a b c d e : Int} (hg : gWf G) (h : oR (mSx S m z) I m G) (kk : oK S I m Q [0] (r0 G a b c d e)) : mRun (D + 50) 315 [mR m, mI a, mI b, mI c, mI d, mI e] I (mSx S m z) Q := by
  have hmz := h.1
  obtain ⟨t1, t2, t3⟩ := h.2.2.2.2.2.2.1
  have tb := hg.2.2.2.2.1.1
  have hz := zMc_20 a b c d e
  have hb := zMc_b a b c d e 20
  unfold r0 at kk
  simp (disch := first | omega | exact Nat.le_of_ble_eq_true rfl) only [w_iconst, w_bipush, w_sipush, w_ldc_s, w_ldcw_s, w_ldc_i, w_ldcw_i, w_lconst, w_fconst, w_dconst, w_iload, w_iload_n, w_aload, w_aload_n, w_dload, w_istore, w_istore_n, w_astore_r, w_astore_s, w_astore_n_r, w_astore_n_s, w_dstore, w_iinc, w_iadd, w_isub, w_imul, w_iand, w_iushr, v_idiv, v_irem, w_ineg, w_i2l, w_i2c, w_i2f, w_i2d, v_f2d, w_lcmp, w_dcmp, v_fdiv, v_ddiv, w_dup_i, w_dup_r, w_dup2, w_dup_x2, w_pop_i, w_pop_r, w_goto, w_switch, w_ret_i, v_ret_z, v_ret_c, w_ret_a, w_ret_s, w_ret_f, w_ret_d, w_ret_v, v_iaload, v_baload, v_caload, v_laload, v_aaload, v_iastore, v_bastore, v_castore, v_lastore, v_aastore, v_alen, v_newa, v_anewa, w_new, w_throw, w_dead, v_getf_i, v_getf_z, v_getf_r, v_putf_i, v_putf_z, v_putf_r, w_call0, w_call1, w_callv1, w_calli1, w_callt1, w_call2, w_callv2, w_calli2, w_callt2, w_call3, w_callv3, w_calli3, w_call4, w_callv4, w_calli4, w_call5, w_callv5, w_calli5, w_call6, w_callv6, w_calli6, w_call7, w_callv7, w_calli7, w_call8, w_callv8, w_calli8, c_if0_eq_t, c_if0_eq_f, c_if2_eq_t, c_if2_eq_f, c_if0_ne_t, c_if0_ne_f, c_if2_ne_t, c_if2_ne_f, c_if0_lt_t, c_if0_lt_f, c_if2_lt_t, c_if2_lt_f, c_if0_ge_t, c_if0_ge_f, c_if2_ge_t, c_if2_ge_f, c_if0_gt_t, c_if0_gt_f, c_if2_gt_t, c_if2_gt_f, c_if0_le_t, c_if0_le_f, c_if2_le_t, c_if2_le_f, w_nil, uI_s, uA_r, uA_s, uD_d, mPut_0, mCl_own, mCv_go, mCl_min, mCl_cpy, mCv_obj, mAct_len, mAct_chrc, mAft_v, mAft_n, mAft_x, mGet_0, mSet_0, mGet_1, mSet_1, mGet_2, mSet_2, mGet_3, mSet_3, mGet_4, mSet_4, mGet_5, mSet_5, mGet_6, mSet_6, mGet_7, mSet_7, mGet_8, mSet_8, mGet_9, mSet_9, mGet_10, mSet_10, mGet_11, mSet_11, mGet_12, mSet_12, mGet_13, mSet_13, e_Mo_append, a_Mo_append_0, bk_Mo_append_0]
  refine l_oap (D + 48) ?_ 20 0 0 (by omega) rfl
  rw [hz] at hb ⊢
  rw [a_Mo_append_44]
  by_cases c1 : (G.1 2) + zAc a b c d e ≤ 900
  · rw [if_pos c1] at kk
    simp (disch := first | omega | exact Nat.le_of_ble_eq_true rfl | (simp (disch := omega) only [ym_k hmz, t1] <;> omega)) only [w_iconst, w_bipush, w_sipush, w_ldc_s, w_ldcw_s, w_ldc_i, w_ldcw_i, w_lconst, w_fconst, w_dconst, w_iload, w_iload_n, w_aload, w_aload_n, w_dload, w_istore, w_istore_n, w_astore_r, w_astore_s, w_astore_n_r, w_astore_n_s, w_dstore, w_iinc, w_iadd, w_isub, w_imul, w_iand, w_iushr, v_idiv, v_irem, w_ineg, w_i2l, w_i2c, w_i2f, w_i2d, v_f2d, w_lcmp, w_dcmp, v_fdiv, v_ddiv, w_dup_i, w_dup_r, w_dup2, w_dup_x2, w_pop_i, w_pop_r, w_goto, w_switch, w_ret_i, v_ret_z, v_ret_c, w_ret_a, w_ret_s, w_ret_f, w_ret_d, w_ret_v, v_iaload, v_baload, v_caload, v_laload, v_aaload, v_iastore, v_bastore, v_castore, v_lastore, v_aastore, v_alen, v_newa, v_anewa, w_new, w_throw, w_dead, v_getf_i, v_getf_z, v_getf_r, v_putf_i, v_putf_z, v_putf_r, w_call0, w_call1, w_callv1, w_calli1, w_callt1, w_call2, w_callv2, w_calli2, w_callt2, w_call3, w_callv3, w_calli3, w_call4, w_callv4, w_calli4, w_call5, w_callv5, w_calli5, w_call6, w_callv6, w_calli6, w_call7, w_callv7, w_calli7, w_call8, w_callv8, w_calli8, c_if0_eq_t, c_if0_eq_f, c_if2_eq_t, c_if2_eq_f, c_if0_ne_t, c_if0_ne_f, c_if2_ne_t, c_if2_ne_f, c_if0_lt_t, c_if0_lt_f, c_if2_lt_t, c_if2_lt_f, c_if0_ge_t, c_if0_ge_f, c_if2_ge_t, c_if2_ge_f, c_if0_gt_t, c_if0_gt_f, c_if2_gt_t, c_if2_gt_f, c_if0_le_t, c_if0_le_f, c_if2_le_t, c_if2_le_f, w_nil, uI_s, uA_r, uA_s, uD_d, mPut_0, mCl_own, mCv_go, mCl_min, mCl_cpy, mCv_obj, mAct_len, mAct_chrc, mAft_v, mAft_n, mAft_x, mGet_0, mSet_0, mGet_1, mSet_1, mGet_2, mSet_2, mGet_3, mSet_3, mGet_4, mSet_4, mGet_5, mSet_5, mGet_6, mSet_6, mGet_7, mSet_7, mGet_8, mSet_8, mGet_9, mSet_9, mGet_10, mSet_10, mGet_11, mSet_11, mGet_12, mSet_12, mGet_13, mSet_13, bk_Mo_append_44, a_Mo_append_63, bk_Mo_append_63, a_Mo_append_71, bk_Mo_append_71, ym_k hmz, t1, wr, c1, r_f1_1 (D + 48) hmz]
    have hp2 := zAp_2 a b c d e (I (m + 40), I m 55)
    have hp2' : (zAp a b c d e (I (m + 40), I m 55)).2 = I m 55 + zAc a b c d e := hp2
    have hte : zTe (I (m + 40), I m 55) ((G.2.2 1), (G.1 2)) := ⟨t1, fun i i0 i1 => t3 i i0 (by rw [← t1]; exact i1)⟩
    have hte9 : zTe (zAp a b c d e (I (m + 40), I m 55)) (zAp a b c d e ((G.2.2 1), (G.1 2))) := zTe_b 4 (zTe_b 4 (zTe_b 4 (zTe_b 4 (zTe_b 4 hte))))
    refine l_oaq (D + 48) hmz (I0 := mUp I m 1 0) 20 (mUp I m 1 0) (I (m + 40), I m 55) _ (Nat.le_refl 20) ⟨up_nk (by decide), up_fa (by omega)⟩ (by show 0 ≤ I m 55; omega) (by show I m 55 + 20 ≤ 10000; omega) (by rw [zMr_20]; omega) ⟨fun _ _ _ => rfl, fun _ _ => rfl⟩ (fun I' hp hf => ?_)
    rw [zMr_20] at hp ⊢
    have hR := oR_tx (p := zAp a b c d e ((G.2.2 1), (G.1 2))) hg (oR_1 (v := 0) h) hf (hp.1.trans hte9.1) (fun i i0 i1 => by
      rw [← hte9.1] at i1
      rw [hp.2]
      exact hte9.2 i i0 i1)
    rw [hp2', t1]
    exact kk I' z _ hR (fun q hq => by rw [hf.1 q (by omega) (by omega), up_fa (by omega)]) (by rw [hf.2 1 (by decide), up_eq rfl rfl]; rfl) (fun u hu => oV hu)
  · rw [if_neg c1] at kk
    simp (disch := first | omega | exact Nat.le_of_ble_eq_true rfl | (simp (disch := omega) only [ym_k hmz, t1] <;> omega)) only [w_iconst, w_bipush, w_sipush, w_ldc_s, w_ldcw_s, w_ldc_i, w_ldcw_i, w_lconst, w_fconst, w_dconst, w_iload, w_iload_n, w_aload, w_aload_n, w_dload, w_istore, w_istore_n, w_astore_r, w_astore_s, w_astore_n_r, w_astore_n_s, w_dstore, w_iinc, w_iadd, w_isub, w_imul, w_iand, w_iushr, v_idiv, v_irem, w_ineg, w_i2l, w_i2c, w_i2f, w_i2d, v_f2d, w_lcmp, w_dcmp, v_fdiv, v_ddiv, w_dup_i, w_dup_r, w_dup2, w_dup_x2, w_pop_i, w_pop_r, w_goto, w_switch, w_ret_i, v_ret_z, v_ret_c, w_ret_a, w_ret_s, w_ret_f, w_ret_d, w_ret_v, v_iaload, v_baload, v_caload, v_laload, v_aaload, v_iastore, v_bastore, v_castore, v_lastore, v_aastore, v_alen, v_newa, v_anewa, w_new, w_throw, w_dead, v_getf_i, v_getf_z, v_getf_r, v_putf_i, v_putf_z, v_putf_r, w_call0, w_call1, w_callv1, w_calli1, w_callt1, w_call2, w_callv2, w_calli2, w_callt2, w_call3, w_callv3, w_calli3, w_call4, w_callv4, w_calli4, w_call5, w_callv5, w_calli5, w_call6, w_callv6, w_calli6, w_call7, w_callv7, w_calli7, w_call8, w_callv8, w_calli8, c_if0_eq_t, c_if0_eq_f, c_if2_eq_t, c_if2_eq_f, c_if0_ne_t, c_if0_ne_f, c_if2_ne_t, c_if2_ne_f, c_if0_lt_t, c_if0_lt_f, c_if2_lt_t, c_if2_lt_f, c_if0_ge_t, c_if0_ge_f, c_if2_ge_t, c_if2_ge_f, c_if0_gt_t, c_if0_gt_f, c_if2_gt_t, c_if2_gt_f, c_if0_le_t, c_if0_le_f, c_if2_le_t, c_if2_le_f, w_nil, uI_s, uA_r, uA_s, uD_d, mPut_0, mCl_own, mCv_go, mCl_min, mCl_cpy, mCv_obj, mAct_len, mAct_chrc, mAft_v, mAft_n, mAft_x, mGet_0, mSet_0, mGet_1, mSet_1, mGet_2, mSet_2, mGet_3, mSet_3, mGet_4, mSet_4, mGet_5, mSet_5, mGet_6, mSet_6, mGet_7, mSet_7, mGet_8, mSet_8, mGet_9, mSet_9, mGet_10, mSet_10, mGet_11, mSet_11, mGet_12, mSet_12, mGet_13, mSet_13, bk_Mo_append_44, a_Mo_append_62, bk_Mo_append_62, a_Mo_append_63, bk_Mo_append_63, ym_k hmz, t1, wr, c1, r_f1_0 (D + 48) hmz]
    exact oSay h (oFm_r I m) rfl (fun u hu => oNo hu) kk
end ZB0
