/-! Writing inflows, by the office. -/
def wNs (f : Int → Int) : Nat → Int → zTx → zTx
  | 0, _, p => p
  | n + 1, t, p => wNs f n (t + 1) (wN (f t) p)
def wIn (s pl : Int) (f : Int → Int) (p : zTx) : zTx := if sm 8 f = 0 then p else wC 59 (wNs f 8 0 (wN pl (wN s (wW 19 p))))
theorem wNs_2 {f : Int → Int} (hf : wB99 f) : ∀ (n : Nat) (t : Int) (p : zTx), 0 ≤ t → t + n ≤ 8 → p.2 ≤ (wNs f n t p).2 ∧ (wNs f n t p).2 ≤ p.2 + 3 * n
  | 0, t, p, t0, t1 => ⟨Int.le_refl _, by show p.2 ≤ _; omega⟩
  | n + 1, t, p, t0, t1 => by
    have ih := wNs_2 hf n (t + 1) (wN (f t) p) (by omega) (by omega)
    have z := zNl_3 (hf t t0 (by omega)).2
    rw [wN_2] at ih
    show p.2 ≤ (wNs f n (t + 1) (wN (f t) p)).2 ∧ (wNs f n (t + 1) (wN (f t) p)).2 ≤ _
    omega
theorem wIn_2 {s pl : Int} {f : Int → Int} (p : zTx) (hf : wB99 f) (b : s ≤ 9 ∧ pl ≤ 9) : p.2 ≤ (wIn s pl f p).2 ∧ (wIn s pl f p).2 ≤ p.2 + 35 := by
  unfold wIn
  have z1 := zNl_2 b.1
  have z2 := zNl_2 b.2
  have h := wNs_2 hf 8 0 (wN pl (wN s (wW 19 p))) (Int.le_refl 0) (by decide)
  rw [wN_2, wN_2, wW_2, wl_19] at h
  by_cases c : sm 8 f = 0
  · rw [if_pos c]; omega
  · rw [if_neg c, wC_2]; omega
section WF
variable {S : mH} {I : mN} {Q : mQ} (D : Nat) {w q : Int} {p : zTx}
theorem l_wIs {f : Int → Int} {s pl : Int} (hq : yPl S q) (s0 : 0 ≤ s) (s1 : s < 3) (hf : wB99 f) (hI : ∀ j : Int, 0 ≤ j → j < 8 → I (q + 3) (s * 8 + j) = f j) (kk : mAt (mRun D) 109 36 ([some (mR w), some (mR q), some (mI s), some (mI pl), some (mI (sm 8 f)), some (mI 8)], [], I, S) Q) : ∀ (c n : Nat), n + c = 8 → mAt (mRun D) 109 6 ([some (mR w), some (mR q), some (mI s), some (mI pl), some (mI (sm n f)), some (mI (n : Int))], [], I, S) Q
  | 0, n, hc => by
    obtain rfl : n = 8 := by omega
    rw [a_Wr_writeInflow_6]
    simp (disch := first | omega | exact Nat.le_of_ble_eq_true rfl) only [w_iconst, w_bipush, w_sipush, w_ldc_s, w_ldcw_s, w_ldc_i, w_ldcw_i, w_lconst, w_fconst, w_dconst, w_iload, w_iload_n, w_aload, w_aload_n, w_dload, w_istore, w_istore_n, w_astore_r, w_astore_s, w_astore_n_r, w_astore_n_s, w_dstore, w_iinc, w_iadd, w_isub, w_imul, w_iand, w_iushr, v_idiv, v_irem, w_ineg, w_i2l, w_i2c, w_i2f, w_i2d, v_f2d, w_lcmp, w_dcmp, v_fdiv, v_ddiv, w_dup_i, w_dup_r, w_dup2, w_dup_x2, w_pop_i, w_pop_r, w_goto, w_switch, w_ret_i, v_ret_z, v_ret_c, w_ret_a, w_ret_s, w_ret_f, w_ret_d, w_ret_v, v_iaload, v_baload, v_caload, v_laload, v_aaload, v_iastore, v_bastore, v_castore, v_lastore, v_aastore, v_alen, v_newa, v_anewa, w_new, w_throw, w_dead, v_getf_i, v_getf_z, v_getf_r, v_putf_i, v_putf_z, v_putf_r, w_call0, w_call1, w_callv1, w_calli1, w_callt1, w_call2, w_callv2, w_calli2, w_callt2, w_call3, w_callv3, w_calli3, w_call4, w_callv4, w_calli4, w_call5, w_callv5, w_calli5, w_call6, w_callv6, w_calli6, w_call7, w_callv7, w_calli7, w_call8, w_callv8, w_calli8, c_if0_eq_t, c_if0_eq_f, c_if2_eq_t, c_if2_eq_f, c_if0_ne_t, c_if0_ne_f, c_if2_ne_t, c_if2_ne_f, c_if0_lt_t, c_if0_lt_f, c_if2_lt_t, c_if2_lt_f, c_if0_ge_t, c_if0_ge_f, c_if2_ge_t, c_if2_ge_f, c_if0_gt_t, c_if0_gt_f, c_if2_gt_t, c_if2_gt_f, c_if0_le_t, c_if0_le_f, c_if2_le_t, c_if2_le_f, w_nil, uI_s, uA_r, uA_s, uD_d, mPut_0, mCl_own, mCv_go, mCl_min, mCl_cpy, mCv_obj, mAct_len, mAct_chrc, mAft_v, mAft_n, mAft_x, mGet_0, mSet_0, mGet_1, mSet_1, mGet_2, mSet_2, mGet_3, mSet_3, mGet_4, mSet_4, mGet_5, mSet_5, mGet_6, mSet_6, mGet_7, mSet_7, mGet_8, mSet_8, mGet_9, mSet_9, mGet_10, mSet_10, mGet_11, mSet_11, mGet_12, mSet_12, mGet_13, mSet_13, bk_Wr_writeInflow_6]
    exact kk
  | c + 1, n, hc => by
    have h1 := hI (n : Int) (by omega) (by omega)
    have b1 := hf (n : Int) (by omega) (by omega)
    have sb := sm_bd3 (M := 99) (n := n) (f := f) (fun i i0 i1 => hf i i0 (by omega))
    have e : sm n f + f (n : Int) = sm (n + 1) f := rfl
    have hcast : (n : Int) + 1 = ((n + 1 : Nat) : Int) := by omega
    rw [a_Wr_writeInflow_6]
    simp (disch := first | omega | exact Nat.le_of_ble_eq_true rfl | (simp (disch := omega) only [yp_k hq, yp_1 hq, yp_k1 hq, yp_l1 hq, yp_2 hq, yp_k2 hq, yp_l2 hq, yp_3 hq, yp_k3 hq, yp_l3 hq, h1] <;> omega)) only [w_iconst, w_bipush, w_sipush, w_ldc_s, w_ldcw_s, w_ldc_i, w_ldcw_i, w_lconst, w_fconst, w_dconst, w_iload, w_iload_n, w_aload, w_aload_n, w_dload, w_istore, w_istore_n, w_astore_r, w_astore_s, w_astore_n_r, w_astore_n_s, w_dstore, w_iinc, w_iadd, w_isub, w_imul, w_iand, w_iushr, v_idiv, v_irem, w_ineg, w_i2l, w_i2c, w_i2f, w_i2d, v_f2d, w_lcmp, w_dcmp, v_fdiv, v_ddiv, w_dup_i, w_dup_r, w_dup2, w_dup_x2, w_pop_i, w_pop_r, w_goto, w_switch, w_ret_i, v_ret_z, v_ret_c, w_ret_a, w_ret_s, w_ret_f, w_ret_d, w_ret_v, v_iaload, v_baload, v_caload, v_laload, v_aaload, v_iastore, v_bastore, v_castore, v_lastore, v_aastore, v_alen, v_newa, v_anewa, w_new, w_throw, w_dead, v_getf_i, v_getf_z, v_getf_r, v_putf_i, v_putf_z, v_putf_r, w_call0, w_call1, w_callv1, w_calli1, w_callt1, w_call2, w_callv2, w_calli2, w_callt2, w_call3, w_callv3, w_calli3, w_call4, w_callv4, w_calli4, w_call5, w_callv5, w_calli5, w_call6, w_callv6, w_calli6, w_call7, w_callv7, w_calli7, w_call8, w_callv8, w_calli8, c_if0_eq_t, c_if0_eq_f, c_if2_eq_t, c_if2_eq_f, c_if0_ne_t, c_if0_ne_f, c_if2_ne_t, c_if2_ne_f, c_if0_lt_t, c_if0_lt_f, c_if2_lt_t, c_if2_lt_f, c_if0_ge_t, c_if0_ge_f, c_if2_ge_t, c_if2_ge_f, c_if0_gt_t, c_if0_gt_f, c_if2_gt_t, c_if2_gt_f, c_if0_le_t, c_if0_le_f, c_if2_le_t, c_if2_le_f, w_nil, uI_s, uA_r, uA_s, uD_d, mPut_0, mCl_own, mCv_go, mCl_min, mCl_cpy, mCv_obj, mAct_len, mAct_chrc, mAft_v, mAft_n, mAft_x, mGet_0, mSet_0, mGet_1, mSet_1, mGet_2, mSet_2, mGet_3, mSet_3, mGet_4, mSet_4, mGet_5, mSet_5, mGet_6, mSet_6, mGet_7, mSet_7, mGet_8, mSet_8, mGet_9, mSet_9, mGet_10, mSet_10, mGet_11, mSet_11, mGet_12, mSet_12, mGet_13, mSet_13, bk_Wr_writeInflow_6, yp_k hq, yp_1 hq, yp_k1 hq, yp_l1 hq, yp_2 hq, yp_k2 hq, yp_l2 hq, yp_3 hq, yp_k3 hq, yp_l3 hq, h1, wr]
    rw [e, hcast]
    exact l_wIs hq s0 s1 hf hI kk c (n + 1) (by omega)
theorem l_wIw {f : Int → Int} {s pl : Int} {o : Option mV} (hw : yWr S w) (hq : yPl S q) (hqw : q + 4 ≤ w ∨ w + 2 ≤ q) (s0 : 0 ≤ s) (s1 : s < 3) (hf : wB99 f) : ∀ (n : Nat) (t : Int) (I : mN) (p : zTx), t + n = 8 → 0 ≤ t → (∀ j : Int, 0 ≤ j → j < 8 → I (q + 3) (s * 8 + j) = f j) → wRl I w p → 0 ≤ p.2 → p.2 + 3 * n + 1 ≤ 6400 → (∀ I' : mN, wRl I' w (wC 59 (wNs f n t p)) → wFr I I' w → Q (.inl none) I' S) → mAt (mRun (D + 3)) 109 61 ([some (mR w), some (mR q), some (mI s), some (mI pl), o, some (mI t)], [], I, S) Q
  | 0, t, I, p, hn, t0, hI, hp, p0, p9, kk => by
    obtain rfl : t = 8 := by omega
    rw [a_Wr_writeInflow_61]
    simp (disch := first | omega | exact Nat.le_of_ble_eq_true rfl | (simp (disch := omega) only [yw_k hw, yw_0 hw, yw_k0 hw, yw_l0 hw, yw_2 hw] <;> omega)) only [w_iconst, w_bipush, w_sipush, w_ldc_s, w_ldcw_s, w_ldc_i, w_ldcw_i, w_lconst, w_fconst, w_dconst, w_iload, w_iload_n, w_aload, w_aload_n, w_dload, w_istore, w_istore_n, w_astore_r, w_astore_s, w_astore_n_r, w_astore_n_s, w_dstore, w_iinc, w_iadd, w_isub, w_imul, w_iand, w_iushr, v_idiv, v_irem, w_ineg, w_i2l, w_i2c, w_i2f, w_i2d, v_f2d, w_lcmp, w_dcmp, v_fdiv, v_ddiv, w_dup_i, w_dup_r, w_dup2, w_dup_x2, w_pop_i, w_pop_r, w_goto, w_switch, w_ret_i, v_ret_z, v_ret_c, w_ret_a, w_ret_s, w_ret_f, w_ret_d, w_ret_v, v_iaload, v_baload, v_caload, v_laload, v_aaload, v_iastore, v_bastore, v_castore, v_lastore, v_aastore, v_alen, v_newa, v_anewa, w_new, w_throw, w_dead, v_getf_i, v_getf_z, v_getf_r, v_putf_i, v_putf_z, v_putf_r, w_call0, w_call1, w_callv1, w_calli1, w_callt1, w_call2, w_callv2, w_calli2, w_callt2, w_call3, w_callv3, w_calli3, w_call4, w_callv4, w_calli4, w_call5, w_callv5, w_calli5, w_call6, w_callv6, w_calli6, w_call7, w_callv7, w_calli7, w_call8, w_callv8, w_calli8, c_if0_eq_t, c_if0_eq_f, c_if2_eq_t, c_if2_eq_f, c_if0_ne_t, c_if0_ne_f, c_if2_ne_t, c_if2_ne_f, c_if0_lt_t, c_if0_lt_f, c_if2_lt_t, c_if2_lt_f, c_if0_ge_t, c_if0_ge_f, c_if2_ge_t, c_if2_ge_f, c_if0_gt_t, c_if0_gt_f, c_if2_gt_t, c_if2_gt_f, c_if0_le_t, c_if0_le_f, c_if2_le_t, c_if2_le_f, w_nil, uI_s, uA_r, uA_s, uD_d, mPut_0, mCl_own, mCv_go, mCl_min, mCl_cpy, mCv_obj, mAct_len, mAct_chrc, mAft_v, mAft_n, mAft_x, mGet_0, mSet_0, mGet_1, mSet_1, mGet_2, mSet_2, mGet_3, mSet_3, mGet_4, mSet_4, mGet_5, mSet_5, mGet_6, mSet_6, mGet_7, mSet_7, mGet_8, mSet_8, mGet_9, mSet_9, mGet_10, mSet_10, mGet_11, mSet_11, mGet_12, mSet_12, mGet_13, mSet_13, bk_Wr_writeInflow_61, a_Wr_writeInflow_90, bk_Wr_writeInflow_90, yw_k hw, yw_0 hw, yw_k0 hw, yw_l0 hw, yw_2 hw]
    refine p_putC (D + 2) hw hp p0 (by omega) (by decide) (by decide) (fun I' h' f' => ?_)
    simp (disch := first | omega | exact Nat.le_of_ble_eq_true rfl) only [w_iconst, w_bipush, w_sipush, w_ldc_s, w_ldcw_s, w_ldc_i, w_ldcw_i, w_lconst, w_fconst, w_dconst, w_iload, w_iload_n, w_aload, w_aload_n, w_dload, w_istore, w_istore_n, w_astore_r, w_astore_s, w_astore_n_r, w_astore_n_s, w_dstore, w_iinc, w_iadd, w_isub, w_imul, w_iand, w_iushr, v_idiv, v_irem, w_ineg, w_i2l, w_i2c, w_i2f, w_i2d, v_f2d, w_lcmp, w_dcmp, v_fdiv, v_ddiv, w_dup_i, w_dup_r, w_dup2, w_dup_x2, w_pop_i, w_pop_r, w_goto, w_switch, w_ret_i, v_ret_z, v_ret_c, w_ret_a, w_ret_s, w_ret_f, w_ret_d, w_ret_v, v_iaload, v_baload, v_caload, v_laload, v_aaload, v_iastore, v_bastore, v_castore, v_lastore, v_aastore, v_alen, v_newa, v_anewa, w_new, w_throw, w_dead, v_getf_i, v_getf_z, v_getf_r, v_putf_i, v_putf_z, v_putf_r, w_call0, w_call1, w_callv1, w_calli1, w_callt1, w_call2, w_callv2, w_calli2, w_callt2, w_call3, w_callv3, w_calli3, w_call4, w_callv4, w_calli4, w_call5, w_callv5, w_calli5, w_call6, w_callv6, w_calli6, w_call7, w_callv7, w_calli7, w_call8, w_callv8, w_calli8, c_if0_eq_t, c_if0_eq_f, c_if2_eq_t, c_if2_eq_f, c_if0_ne_t, c_if0_ne_f, c_if2_ne_t, c_if2_ne_f, c_if0_lt_t, c_if0_lt_f, c_if2_lt_t, c_if2_lt_f, c_if0_ge_t, c_if0_ge_f, c_if2_ge_t, c_if2_ge_f, c_if0_gt_t, c_if0_gt_f, c_if2_gt_t, c_if2_gt_f, c_if0_le_t, c_if0_le_f, c_if2_le_t, c_if2_le_f, w_nil, uI_s, uA_r, uA_s, uD_d, mPut_0, mCl_own, mCv_go, mCl_min, mCl_cpy, mCv_obj, mAct_len, mAct_chrc, mAft_v, mAft_n, mAft_x, mGet_0, mSet_0, mGet_1, mSet_1, mGet_2, mSet_2, mGet_3, mSet_3, mGet_4, mSet_4, mGet_5, mSet_5, mGet_6, mSet_6, mGet_7, mSet_7, mGet_8, mSet_8, mGet_9, mSet_9, mGet_10, mSet_10, mGet_11, mSet_11, mGet_12, mSet_12, mGet_13, mSet_13]
    exact kk I' h' f'
  | n + 1, t, I, p, hn, t0, hI, hp, p0, p9, kk => by
    have h1 := hI t t0 (by omega)
    have b1 := hf t t0 (by omega)
    have z := zNl_3 b1.2
    have eW : wNs f (n + 1) t p = wNs f n (t + 1) (wN (f t) p) := rfl
    rw [eW] at kk
    rw [a_Wr_writeInflow_61]
    simp (disch := first | omega | exact Nat.le_of_ble_eq_true rfl | (simp (disch := omega) only [yw_k hw, yw_0 hw, yw_k0 hw, yw_l0 hw, yw_2 hw, yp_k hq, yp_1 hq, yp_k1 hq, yp_l1 hq, yp_2 hq, yp_k2 hq, yp_l2 hq, yp_3 hq, yp_k3 hq, yp_l3 hq, h1] <;> omega)) only [w_iconst, w_bipush, w_sipush, w_ldc_s, w_ldcw_s, w_ldc_i, w_ldcw_i, w_lconst, w_fconst, w_dconst, w_iload, w_iload_n, w_aload, w_aload_n, w_dload, w_istore, w_istore_n, w_astore_r, w_astore_s, w_astore_n_r, w_astore_n_s, w_dstore, w_iinc, w_iadd, w_isub, w_imul, w_iand, w_iushr, v_idiv, v_irem, w_ineg, w_i2l, w_i2c, w_i2f, w_i2d, v_f2d, w_lcmp, w_dcmp, v_fdiv, v_ddiv, w_dup_i, w_dup_r, w_dup2, w_dup_x2, w_pop_i, w_pop_r, w_goto, w_switch, w_ret_i, v_ret_z, v_ret_c, w_ret_a, w_ret_s, w_ret_f, w_ret_d, w_ret_v, v_iaload, v_baload, v_caload, v_laload, v_aaload, v_iastore, v_bastore, v_castore, v_lastore, v_aastore, v_alen, v_newa, v_anewa, w_new, w_throw, w_dead, v_getf_i, v_getf_z, v_getf_r, v_putf_i, v_putf_z, v_putf_r, w_call0, w_call1, w_callv1, w_calli1, w_callt1, w_call2, w_callv2, w_calli2, w_callt2, w_call3, w_callv3, w_calli3, w_call4, w_callv4, w_calli4, w_call5, w_callv5, w_calli5, w_call6, w_callv6, w_calli6, w_call7, w_callv7, w_calli7, w_call8, w_callv8, w_calli8, c_if0_eq_t, c_if0_eq_f, c_if2_eq_t, c_if2_eq_f, c_if0_ne_t, c_if0_ne_f, c_if2_ne_t, c_if2_ne_f, c_if0_lt_t, c_if0_lt_f, c_if2_lt_t, c_if2_lt_f, c_if0_ge_t, c_if0_ge_f, c_if2_ge_t, c_if2_ge_f, c_if0_gt_t, c_if0_gt_f, c_if2_gt_t, c_if2_gt_f, c_if0_le_t, c_if0_le_f, c_if2_le_t, c_if2_le_f, w_nil, uI_s, uA_r, uA_s, uD_d, mPut_0, mCl_own, mCv_go, mCl_min, mCl_cpy, mCv_obj, mAct_len, mAct_chrc, mAft_v, mAft_n, mAft_x, mGet_0, mSet_0, mGet_1, mSet_1, mGet_2, mSet_2, mGet_3, mSet_3, mGet_4, mSet_4, mGet_5, mSet_5, mGet_6, mSet_6, mGet_7, mSet_7, mGet_8, mSet_8, mGet_9, mSet_9, mGet_10, mSet_10, mGet_11, mSet_11, mGet_12, mSet_12, mGet_13, mSet_13, bk_Wr_writeInflow_61, yw_k hw, yw_0 hw, yw_k0 hw, yw_l0 hw, yw_2 hw, yp_k hq, yp_1 hq, yp_k1 hq, yp_l1 hq, yp_2 hq, yp_k2 hq, yp_l2 hq, yp_3 hq, yp_k3 hq, yp_l3 hq, h1, wr]
    refine p_putN (D + 1) hw hp p0 (by first | omega | (simp only [wN_2, wW_2, wC_2, wl_11, wl_12, wl_13, wl_14, wl_15, wl_16, wl_17, wl_18, wl_19]; omega)) (by omega) (by omega) (fun I1 q1 f1 => ?_)
    simp (disch := first | omega | exact Nat.le_of_ble_eq_true rfl) only [w_iconst, w_bipush, w_sipush, w_ldc_s, w_ldcw_s, w_ldc_i, w_ldcw_i, w_lconst, w_fconst, w_dconst, w_iload, w_iload_n, w_aload, w_aload_n, w_dload, w_istore, w_istore_n, w_astore_r, w_astore_s, w_astore_n_r, w_astore_n_s, w_dstore, w_iinc, w_iadd, w_isub, w_imul, w_iand, w_iushr, v_idiv, v_irem, w_ineg, w_i2l, w_i2c, w_i2f, w_i2d, v_f2d, w_lcmp, w_dcmp, v_fdiv, v_ddiv, w_dup_i, w_dup_r, w_dup2, w_dup_x2, w_pop_i, w_pop_r, w_goto, w_switch, w_ret_i, v_ret_z, v_ret_c, w_ret_a, w_ret_s, w_ret_f, w_ret_d, w_ret_v, v_iaload, v_baload, v_caload, v_laload, v_aaload, v_iastore, v_bastore, v_castore, v_lastore, v_aastore, v_alen, v_newa, v_anewa, w_new, w_throw, w_dead, v_getf_i, v_getf_z, v_getf_r, v_putf_i, v_putf_z, v_putf_r, w_call0, w_call1, w_callv1, w_calli1, w_callt1, w_call2, w_callv2, w_calli2, w_callt2, w_call3, w_callv3, w_calli3, w_call4, w_callv4, w_calli4, w_call5, w_callv5, w_calli5, w_call6, w_callv6, w_calli6, w_call7, w_callv7, w_calli7, w_call8, w_callv8, w_calli8, c_if0_eq_t, c_if0_eq_f, c_if2_eq_t, c_if2_eq_f, c_if0_ne_t, c_if0_ne_f, c_if2_ne_t, c_if2_ne_f, c_if0_lt_t, c_if0_lt_f, c_if2_lt_t, c_if2_lt_f, c_if0_ge_t, c_if0_ge_f, c_if2_ge_t, c_if2_ge_f, c_if0_gt_t, c_if0_gt_f, c_if2_gt_t, c_if2_gt_f, c_if0_le_t, c_if0_le_f, c_if2_le_t, c_if2_le_f, w_nil, uI_s, uA_r, uA_s, uD_d, mPut_0, mCl_own, mCv_go, mCl_min, mCl_cpy, mCv_obj, mAct_len, mAct_chrc, mAft_v, mAft_n, mAft_x, mGet_0, mSet_0, mGet_1, mSet_1, mGet_2, mSet_2, mGet_3, mSet_3, mGet_4, mSet_4, mGet_5, mSet_5, mGet_6, mSet_6, mGet_7, mSet_7, mGet_8, mSet_8, mGet_9, mSet_9, mGet_10, mSet_10, mGet_11, mSet_11, mGet_12, mSet_12, mGet_13, mSet_13, wr]
    exact l_wIw hw hq hqw s0 s1 hf n (t + 1) I1 _ (by omega) (by omega) (fun j j0 j1 => by rw [f1 _ (by omega) (by omega)]; exact hI j j0 j1) q1 (by first | omega | (simp only [wN_2, wW_2, wC_2, wl_11, wl_12, wl_13, wl_14, wl_15, wl_16, wl_17, wl_18, wl_19]; omega)) (by first | omega | (simp only [wN_2, wW_2, wC_2, wl_11, wl_12, wl_13, wl_14, wl_15, wl_16, wl_17, wl_18, wl_19]; omega)) (fun I' h' f' => kk I' h' (wFr_t f1 f'))
theorem p_wIn {f : Int → Int} {s pl : Int} (hw : yWr S w) (hq : yPl S q) (hqw : q + 4 ≤ w ∨ w + 2 ≤ q) (s0 : 0 ≤ s) (s1 : s < 3) (b0 : 0 ≤ pl) (b1 : pl ≤ 9) (hf : wB99 f) (hI : ∀ j : Int, 0 ≤ j → j < 8 → I (q + 3) (s * 8 + j) = f j) (hp : wRl I w p) (p0 : 0 ≤ p.2) (p9 : p.2 + 35 ≤ 6400) (kk : ∀ I' : mN, wRl I' w (wIn s pl f p) → wFr I I' w → Q (.inl none) I' S) : mRun (D + 4) 109 [mR w, mR q, mI s, mI pl] I S Q := by
  have z1 := zNl_2 (v := s) (by omega)
  have z2 := zNl_2 b1
  unfold wIn at kk
  have at36 : mAt (mRun (D + 3)) 109 36 ([some (mR w), some (mR q), some (mI s), some (mI pl), some (mI (sm 8 f)), some (mI 8)], [], I, S) Q := by
    rw [a_Wr_writeInflow_36]
    by_cases c : sm 8 f = 0
    · rw [if_pos c] at kk
      rw [c]
      simp (disch := first | omega | exact Nat.le_of_ble_eq_true rfl) only [w_iconst, w_bipush, w_sipush, w_ldc_s, w_ldcw_s, w_ldc_i, w_ldcw_i, w_lconst, w_fconst, w_dconst, w_iload, w_iload_n, w_aload, w_aload_n, w_dload, w_istore, w_istore_n, w_astore_r, w_astore_s, w_astore_n_r, w_astore_n_s, w_dstore, w_iinc, w_iadd, w_isub, w_imul, w_iand, w_iushr, v_idiv, v_irem, w_ineg, w_i2l, w_i2c, w_i2f, w_i2d, v_f2d, w_lcmp, w_dcmp, v_fdiv, v_ddiv, w_dup_i, w_dup_r, w_dup2, w_dup_x2, w_pop_i, w_pop_r, w_goto, w_switch, w_ret_i, v_ret_z, v_ret_c, w_ret_a, w_ret_s, w_ret_f, w_ret_d, w_ret_v, v_iaload, v_baload, v_caload, v_laload, v_aaload, v_iastore, v_bastore, v_castore, v_lastore, v_aastore, v_alen, v_newa, v_anewa, w_new, w_throw, w_dead, v_getf_i, v_getf_z, v_getf_r, v_putf_i, v_putf_z, v_putf_r, w_call0, w_call1, w_callv1, w_calli1, w_callt1, w_call2, w_callv2, w_calli2, w_callt2, w_call3, w_callv3, w_calli3, w_call4, w_callv4, w_calli4, w_call5, w_callv5, w_calli5, w_call6, w_callv6, w_calli6, w_call7, w_callv7, w_calli7, w_call8, w_callv8, w_calli8, c_if0_eq_t, c_if0_eq_f, c_if2_eq_t, c_if2_eq_f, c_if0_ne_t, c_if0_ne_f, c_if2_ne_t, c_if2_ne_f, c_if0_lt_t, c_if0_lt_f, c_if2_lt_t, c_if2_lt_f, c_if0_ge_t, c_if0_ge_f, c_if2_ge_t, c_if2_ge_f, c_if0_gt_t, c_if0_gt_f, c_if2_gt_t, c_if2_gt_f, c_if0_le_t, c_if0_le_f, c_if2_le_t, c_if2_le_f, w_nil, uI_s, uA_r, uA_s, uD_d, mPut_0, mCl_own, mCv_go, mCl_min, mCl_cpy, mCv_obj, mAct_len, mAct_chrc, mAft_v, mAft_n, mAft_x, mGet_0, mSet_0, mGet_1, mSet_1, mGet_2, mSet_2, mGet_3, mSet_3, mGet_4, mSet_4, mGet_5, mSet_5, mGet_6, mSet_6, mGet_7, mSet_7, mGet_8, mSet_8, mGet_9, mSet_9, mGet_10, mSet_10, mGet_11, mSet_11, mGet_12, mSet_12, mGet_13, mSet_13, bk_Wr_writeInflow_36]
      exact kk I hp (wFr_r I w)
    · rw [if_neg c] at kk
      simp (disch := first | omega | exact Nat.le_of_ble_eq_true rfl | (simp (disch := omega) only [yw_k hw, yw_0 hw, yw_k0 hw, yw_l0 hw, yw_2 hw] <;> omega)) only [w_iconst, w_bipush, w_sipush, w_ldc_s, w_ldcw_s, w_ldc_i, w_ldcw_i, w_lconst, w_fconst, w_dconst, w_iload, w_iload_n, w_aload, w_aload_n, w_dload, w_istore, w_istore_n, w_astore_r, w_astore_s, w_astore_n_r, w_astore_n_s, w_dstore, w_iinc, w_iadd, w_isub, w_imul, w_iand, w_iushr, v_idiv, v_irem, w_ineg, w_i2l, w_i2c, w_i2f, w_i2d, v_f2d, w_lcmp, w_dcmp, v_fdiv, v_ddiv, w_dup_i, w_dup_r, w_dup2, w_dup_x2, w_pop_i, w_pop_r, w_goto, w_switch, w_ret_i, v_ret_z, v_ret_c, w_ret_a, w_ret_s, w_ret_f, w_ret_d, w_ret_v, v_iaload, v_baload, v_caload, v_laload, v_aaload, v_iastore, v_bastore, v_castore, v_lastore, v_aastore, v_alen, v_newa, v_anewa, w_new, w_throw, w_dead, v_getf_i, v_getf_z, v_getf_r, v_putf_i, v_putf_z, v_putf_r, w_call0, w_call1, w_callv1, w_calli1, w_callt1, w_call2, w_callv2, w_calli2, w_callt2, w_call3, w_callv3, w_calli3, w_call4, w_callv4, w_calli4, w_call5, w_callv5, w_calli5, w_call6, w_callv6, w_calli6, w_call7, w_callv7, w_calli7, w_call8, w_callv8, w_calli8, c_if0_eq_t, c_if0_eq_f, c_if2_eq_t, c_if2_eq_f, c_if0_ne_t, c_if0_ne_f, c_if2_ne_t, c_if2_ne_f, c_if0_lt_t, c_if0_lt_f, c_if2_lt_t, c_if2_lt_f, c_if0_ge_t, c_if0_ge_f, c_if2_ge_t, c_if2_ge_f, c_if0_gt_t, c_if0_gt_f, c_if2_gt_t, c_if2_gt_f, c_if0_le_t, c_if0_le_f, c_if2_le_t, c_if2_le_f, w_nil, uI_s, uA_r, uA_s, uD_d, mPut_0, mCl_own, mCv_go, mCl_min, mCl_cpy, mCv_obj, mAct_len, mAct_chrc, mAft_v, mAft_n, mAft_x, mGet_0, mSet_0, mGet_1, mSet_1, mGet_2, mSet_2, mGet_3, mSet_3, mGet_4, mSet_4, mGet_5, mSet_5, mGet_6, mSet_6, mGet_7, mSet_7, mGet_8, mSet_8, mGet_9, mSet_9, mGet_10, mSet_10, mGet_11, mSet_11, mGet_12, mSet_12, mGet_13, mSet_13, bk_Wr_writeInflow_36, a_Wr_writeInflow_42, bk_Wr_writeInflow_42, yw_k hw, yw_0 hw, yw_k0 hw, yw_l0 hw, yw_2 hw]
      refine p_putT (D + 1) (k := 19) (by decide) (by decide) hw hp p0 (by first | omega | (simp only [wN_2, wW_2, wC_2, wl_11, wl_12, wl_13, wl_14, wl_15, wl_16, wl_17, wl_18, wl_19]; omega)) (fun I1 h1 f1 => ?_)
      simp (disch := first | omega | exact Nat.le_of_ble_eq_true rfl | (simp (disch := omega) only [yw_k hw, yw_0 hw, yw_k0 hw, yw_l0 hw, yw_2 hw] <;> omega)) only [w_iconst, w_bipush, w_sipush, w_ldc_s, w_ldcw_s, w_ldc_i, w_ldcw_i, w_lconst, w_fconst, w_dconst, w_iload, w_iload_n, w_aload, w_aload_n, w_dload, w_istore, w_istore_n, w_astore_r, w_astore_s, w_astore_n_r, w_astore_n_s, w_dstore, w_iinc, w_iadd, w_isub, w_imul, w_iand, w_iushr, v_idiv, v_irem, w_ineg, w_i2l, w_i2c, w_i2f, w_i2d, v_f2d, w_lcmp, w_dcmp, v_fdiv, v_ddiv, w_dup_i, w_dup_r, w_dup2, w_dup_x2, w_pop_i, w_pop_r, w_goto, w_switch, w_ret_i, v_ret_z, v_ret_c, w_ret_a, w_ret_s, w_ret_f, w_ret_d, w_ret_v, v_iaload, v_baload, v_caload, v_laload, v_aaload, v_iastore, v_bastore, v_castore, v_lastore, v_aastore, v_alen, v_newa, v_anewa, w_new, w_throw, w_dead, v_getf_i, v_getf_z, v_getf_r, v_putf_i, v_putf_z, v_putf_r, w_call0, w_call1, w_callv1, w_calli1, w_callt1, w_call2, w_callv2, w_calli2, w_callt2, w_call3, w_callv3, w_calli3, w_call4, w_callv4, w_calli4, w_call5, w_callv5, w_calli5, w_call6, w_callv6, w_calli6, w_call7, w_callv7, w_calli7, w_call8, w_callv8, w_calli8, c_if0_eq_t, c_if0_eq_f, c_if2_eq_t, c_if2_eq_f, c_if0_ne_t, c_if0_ne_f, c_if2_ne_t, c_if2_ne_f, c_if0_lt_t, c_if0_lt_f, c_if2_lt_t, c_if2_lt_f, c_if0_ge_t, c_if0_ge_f, c_if2_ge_t, c_if2_ge_f, c_if0_gt_t, c_if0_gt_f, c_if2_gt_t, c_if2_gt_f, c_if0_le_t, c_if0_le_f, c_if2_le_t, c_if2_le_f, w_nil, uI_s, uA_r, uA_s, uD_d, mPut_0, mCl_own, mCv_go, mCl_min, mCl_cpy, mCv_obj, mAct_len, mAct_chrc, mAft_v, mAft_n, mAft_x, mGet_0, mSet_0, mGet_1, mSet_1, mGet_2, mSet_2, mGet_3, mSet_3, mGet_4, mSet_4, mGet_5, mSet_5, mGet_6, mSet_6, mGet_7, mSet_7, mGet_8, mSet_8, mGet_9, mSet_9, mGet_10, mSet_10, mGet_11, mSet_11, mGet_12, mSet_12, mGet_13, mSet_13, yw_k hw, yw_0 hw, yw_k0 hw, yw_l0 hw, yw_2 hw]
      refine p_putN (D + 1) hw h1 (by first | omega | (simp only [wN_2, wW_2, wC_2, wl_11, wl_12, wl_13, wl_14, wl_15, wl_16, wl_17, wl_18, wl_19]; omega)) (by first | omega | (simp only [wN_2, wW_2, wC_2, wl_11, wl_12, wl_13, wl_14, wl_15, wl_16, wl_17, wl_18, wl_19]; omega)) (by omega) (by omega) (fun I2 h2 f2 => ?_)
      simp (disch := first | omega | exact Nat.le_of_ble_eq_true rfl | (simp (disch := omega) only [yw_k hw, yw_0 hw, yw_k0 hw, yw_l0 hw, yw_2 hw] <;> omega)) only [w_iconst, w_bipush, w_sipush, w_ldc_s, w_ldcw_s, w_ldc_i, w_ldcw_i, w_lconst, w_fconst, w_dconst, w_iload, w_iload_n, w_aload, w_aload_n, w_dload, w_istore, w_istore_n, w_astore_r, w_astore_s, w_astore_n_r, w_astore_n_s, w_dstore, w_iinc, w_iadd, w_isub, w_imul, w_iand, w_iushr, v_idiv, v_irem, w_ineg, w_i2l, w_i2c, w_i2f, w_i2d, v_f2d, w_lcmp, w_dcmp, v_fdiv, v_ddiv, w_dup_i, w_dup_r, w_dup2, w_dup_x2, w_pop_i, w_pop_r, w_goto, w_switch, w_ret_i, v_ret_z, v_ret_c, w_ret_a, w_ret_s, w_ret_f, w_ret_d, w_ret_v, v_iaload, v_baload, v_caload, v_laload, v_aaload, v_iastore, v_bastore, v_castore, v_lastore, v_aastore, v_alen, v_newa, v_anewa, w_new, w_throw, w_dead, v_getf_i, v_getf_z, v_getf_r, v_putf_i, v_putf_z, v_putf_r, w_call0, w_call1, w_callv1, w_calli1, w_callt1, w_call2, w_callv2, w_calli2, w_callt2, w_call3, w_callv3, w_calli3, w_call4, w_callv4, w_calli4, w_call5, w_callv5, w_calli5, w_call6, w_callv6, w_calli6, w_call7, w_callv7, w_calli7, w_call8, w_callv8, w_calli8, c_if0_eq_t, c_if0_eq_f, c_if2_eq_t, c_if2_eq_f, c_if0_ne_t, c_if0_ne_f, c_if2_ne_t, c_if2_ne_f, c_if0_lt_t, c_if0_lt_f, c_if2_lt_t, c_if2_lt_f, c_if0_ge_t, c_if0_ge_f, c_if2_ge_t, c_if2_ge_f, c_if0_gt_t, c_if0_gt_f, c_if2_gt_t, c_if2_gt_f, c_if0_le_t, c_if0_le_f, c_if2_le_t, c_if2_le_f, w_nil, uI_s, uA_r, uA_s, uD_d, mPut_0, mCl_own, mCv_go, mCl_min, mCl_cpy, mCv_obj, mAct_len, mAct_chrc, mAft_v, mAft_n, mAft_x, mGet_0, mSet_0, mGet_1, mSet_1, mGet_2, mSet_2, mGet_3, mSet_3, mGet_4, mSet_4, mGet_5, mSet_5, mGet_6, mSet_6, mGet_7, mSet_7, mGet_8, mSet_8, mGet_9, mSet_9, mGet_10, mSet_10, mGet_11, mSet_11, mGet_12, mSet_12, mGet_13, mSet_13, yw_k hw, yw_0 hw, yw_k0 hw, yw_l0 hw, yw_2 hw]
      refine p_putN (D + 1) hw h2 (by first | omega | (simp only [wN_2, wW_2, wC_2, wl_11, wl_12, wl_13, wl_14, wl_15, wl_16, wl_17, wl_18, wl_19]; omega)) (by first | omega | (simp only [wN_2, wW_2, wC_2, wl_11, wl_12, wl_13, wl_14, wl_15, wl_16, wl_17, wl_18, wl_19]; omega)) (by omega) (by omega) (fun I3 h3 f3 => ?_)
      have f13 := wFr_t f1 (wFr_t f2 f3)
      simp (disch := first | omega | exact Nat.le_of_ble_eq_true rfl) only [w_iconst, w_bipush, w_sipush, w_ldc_s, w_ldcw_s, w_ldc_i, w_ldcw_i, w_lconst, w_fconst, w_dconst, w_iload, w_iload_n, w_aload, w_aload_n, w_dload, w_istore, w_istore_n, w_astore_r, w_astore_s, w_astore_n_r, w_astore_n_s, w_dstore, w_iinc, w_iadd, w_isub, w_imul, w_iand, w_iushr, v_idiv, v_irem, w_ineg, w_i2l, w_i2c, w_i2f, w_i2d, v_f2d, w_lcmp, w_dcmp, v_fdiv, v_ddiv, w_dup_i, w_dup_r, w_dup2, w_dup_x2, w_pop_i, w_pop_r, w_goto, w_switch, w_ret_i, v_ret_z, v_ret_c, w_ret_a, w_ret_s, w_ret_f, w_ret_d, w_ret_v, v_iaload, v_baload, v_caload, v_laload, v_aaload, v_iastore, v_bastore, v_castore, v_lastore, v_aastore, v_alen, v_newa, v_anewa, w_new, w_throw, w_dead, v_getf_i, v_getf_z, v_getf_r, v_putf_i, v_putf_z, v_putf_r, w_call0, w_call1, w_callv1, w_calli1, w_callt1, w_call2, w_callv2, w_calli2, w_callt2, w_call3, w_callv3, w_calli3, w_call4, w_callv4, w_calli4, w_call5, w_callv5, w_calli5, w_call6, w_callv6, w_calli6, w_call7, w_callv7, w_calli7, w_call8, w_callv8, w_calli8, c_if0_eq_t, c_if0_eq_f, c_if2_eq_t, c_if2_eq_f, c_if0_ne_t, c_if0_ne_f, c_if2_ne_t, c_if2_ne_f, c_if0_lt_t, c_if0_lt_f, c_if2_lt_t, c_if2_lt_f, c_if0_ge_t, c_if0_ge_f, c_if2_ge_t, c_if2_ge_f, c_if0_gt_t, c_if0_gt_f, c_if2_gt_t, c_if2_gt_f, c_if0_le_t, c_if0_le_f, c_if2_le_t, c_if2_le_f, w_nil, uI_s, uA_r, uA_s, uD_d, mPut_0, mCl_own, mCv_go, mCl_min, mCl_cpy, mCv_obj, mAct_len, mAct_chrc, mAft_v, mAft_n, mAft_x, mGet_0, mSet_0, mGet_1, mSet_1, mGet_2, mSet_2, mGet_3, mSet_3, mGet_4, mSet_4, mGet_5, mSet_5, mGet_6, mSet_6, mGet_7, mSet_7, mGet_8, mSet_8, mGet_9, mSet_9, mGet_10, mSet_10, mGet_11, mSet_11, mGet_12, mSet_12, mGet_13, mSet_13]
      exact l_wIw D hw hq hqw s0 s1 hf 8 0 I3 _ (by decide) (Int.le_refl 0) (fun j j0 j1 => by rw [f13 _ (by omega) (by omega)]; exact hI j j0 j1) h3 (by first | omega | (simp only [wN_2, wW_2, wC_2, wl_11, wl_12, wl_13, wl_14, wl_15, wl_16, wl_17, wl_18, wl_19]; omega)) (by first | omega | (simp only [wN_2, wW_2, wC_2, wl_11, wl_12, wl_13, wl_14, wl_15, wl_16, wl_17, wl_18, wl_19]; omega)) (fun I' h' f' => kk I' h' (wFr_t f13 f'))
  simp (disch := first | omega | exact Nat.le_of_ble_eq_true rfl) only [w_iconst, w_bipush, w_sipush, w_ldc_s, w_ldcw_s, w_ldc_i, w_ldcw_i, w_lconst, w_fconst, w_dconst, w_iload, w_iload_n, w_aload, w_aload_n, w_dload, w_istore, w_istore_n, w_astore_r, w_astore_s, w_astore_n_r, w_astore_n_s, w_dstore, w_iinc, w_iadd, w_isub, w_imul, w_iand, w_iushr, v_idiv, v_irem, w_ineg, w_i2l, w_i2c, w_i2f, w_i2d, v_f2d, w_lcmp, w_dcmp, v_fdiv, v_ddiv, w_dup_i, w_dup_r, w_dup2, w_dup_x2, w_pop_i, w_pop_r, w_goto, w_switch, w_ret_i, v_ret_z, v_ret_c, w_ret_a, w_ret_s, w_ret_f, w_ret_d, w_ret_v, v_iaload, v_baload, v_caload, v_laload, v_aaload, v_iastore, v_bastore, v_castore, v_lastore, v_aastore, v_alen, v_newa, v_anewa, w_new, w_throw, w_dead, v_getf_i, v_getf_z, v_getf_r, v_putf_i, v_putf_z, v_putf_r, w_call0, w_call1, w_callv1, w_calli1, w_callt1, w_call2, w_callv2, w_calli2, w_callt2, w_call3, w_callv3, w_calli3, w_call4, w_callv4, w_calli4, w_call5, w_callv5, w_calli5, w_call6, w_callv6, w_calli6, w_call7, w_callv7, w_calli7, w_call8, w_callv8, w_calli8, c_if0_eq_t, c_if0_eq_f, c_if2_eq_t, c_if2_eq_f, c_if0_ne_t, c_if0_ne_f, c_if2_ne_t, c_if2_ne_f, c_if0_lt_t, c_if0_lt_f, c_if2_lt_t, c_if2_lt_f, c_if0_ge_t, c_if0_ge_f, c_if2_ge_t, c_if2_ge_f, c_if0_gt_t, c_if0_gt_f, c_if2_gt_t, c_if2_gt_f, c_if0_le_t, c_if0_le_f, c_if2_le_t, c_if2_le_f, w_nil, uI_s, uA_r, uA_s, uD_d, mPut_0, mCl_own, mCv_go, mCl_min, mCl_cpy, mCv_obj, mAct_len, mAct_chrc, mAft_v, mAft_n, mAft_x, mGet_0, mSet_0, mGet_1, mSet_1, mGet_2, mSet_2, mGet_3, mSet_3, mGet_4, mSet_4, mGet_5, mSet_5, mGet_6, mSet_6, mGet_7, mSet_7, mGet_8, mSet_8, mGet_9, mSet_9, mGet_10, mSet_10, mGet_11, mSet_11, mGet_12, mSet_12, mGet_13, mSet_13, e_Wr_writeInflow, a_Wr_writeInflow_0, bk_Wr_writeInflow_0]
  exact l_wIs (D + 3) hq s0 s1 hf hI at36 8 0 (by decide)
end WF
/-! A basin written, purely. -/
def wPls (σ : sT) : Nat → Int → zTx → zTx
  | 0, _, p => p
  | n + 1, i, p => wPls σ n (i + 1) (wC 59 (wN (σ (5 + 2 * i)) (wN (σ (4 + 2 * i)) (wW 12 p))))
def wRes (σ : sT) : Nat → Int → zTx → zTx
  | 0, _, p => p
  | n + 1, i, p => wRes σ n (i + 1) (wRe (σ (16 + 11 * i)) (σ (17 + 11 * i)) (σ (18 + 11 * i)) (fun j => σ (19 + 11 * i + j)) p)
def wRis (σ : sT) : Nat → Int → zTx → zTx
  | 0, _, p => p
  | n + 1, i, p => wRis σ n (i + 1) (wRi (σ (259 + 76 * i)) (σ (260 + 76 * i)) (σ (261 + 76 * i)) (σ (262 + 76 * i)) (σ (266 + 76 * i)) (fun j => σ (267 + 76 * i + j)) (fun k => σ (275 + 76 * i + k)) p)
def wIns (σ : sT) (s : Int) : Nat → Int → zTx → zTx
  | 0, _, p => p
  | n + 1, i, p => wIns σ s n (i + 1) (wIn s i (fun j => σ (115 + 48 * s + 8 * i + j)) p)
def wIss (σ : sT) : Nat → Int → zTx → zTx
  | 0, _, p => p
  | n + 1, s, p => wIss σ n (s + 1) (wIns σ s (σ 1).toNat 0 p)
def wHd : zTx := wC 59 (wW 11 (fun _ => 0, 0))
def wB1 (σ : sT) : zTx := wPls σ (σ 1).toNat 0 wHd
def wB2 (σ : sT) : zTx := wRes σ (σ 2).toNat 0 (wB1 σ)
def wB3 (σ : sT) : zTx := wRis σ (σ 3).toNat 0 (wB2 σ)
def wBas (σ : sT) : zTx := wIss σ 3 0 (wB3 σ)
theorem wHd_2 : wHd.2 = 6 := by unfold wHd; rw [wC_2, wW_2, wl_11]; rfl
section WG
variable {σ : sT}
theorem wPl_1 (hw : sWf σ) {i : Int} (i0 : 0 ≤ i) (i1 : i < 6) (p : zTx) : p.2 ≤ (wC 59 (wN (σ (5 + 2 * i)) (wN (σ (4 + 2 * i)) (wW 12 p)))).2 ∧ (wC 59 (wN (σ (5 + 2 * i)) (wN (σ (4 + 2 * i)) (wW 12 p)))).2 ≤ p.2 + 14 := by
  have b := hw.2.1 i i0 i1
  have z1 := zNl_3 (v := σ (4 + 2 * i)) (by omega)
  have z2 := zNl_5 (σ (5 + 2 * i))
  rw [wC_2, wN_2, wN_2, wW_2, wl_12]
  omega
theorem wPls_2 (hw : sWf σ) : ∀ (n : Nat) (i : Int) (p : zTx), 0 ≤ i → i + n ≤ 6 → p.2 ≤ (wPls σ n i p).2 ∧ (wPls σ n i p).2 ≤ p.2 + 14 * n
  | 0, i, p, i0, i1 => ⟨Int.le_refl _, by show p.2 ≤ _; omega⟩
  | n + 1, i, p, i0, i1 => by
    have h := wPl_1 hw i0 (by omega) p
    have ih := wPls_2 hw n (i + 1) (wC 59 (wN (σ (5 + 2 * i)) (wN (σ (4 + 2 * i)) (wW 12 p)))) (by omega) (by omega)
    show p.2 ≤ (wPls σ n (i + 1) (wC 59 (wN (σ (5 + 2 * i)) (wN (σ (4 + 2 * i)) (wW 12 p))))).2 ∧ (wPls σ n (i + 1) (wC 59 (wN (σ (5 + 2 * i)) (wN (σ (4 + 2 * i)) (wW 12 p))))).2 ≤ _
    omega
theorem wRe_B (hw : sWf σ) {i : Int} (i0 : 0 ≤ i) (i1 : i < σ 2) : wB99 (fun j => σ (19 + 11 * i + j)) ∧ (0 ≤ σ (16 + 11 * i) ∧ σ (16 + 11 * i) ≤ 9) ∧ (0 ≤ σ (17 + 11 * i) ∧ σ (17 + 11 * i) ≤ 9) ∧ 0 ≤ σ (18 + 11 * i) ∧ σ (18 + 11 * i) ≤ 9 := by
  have hb := hw.1
  have b1 := hw.2.2.1 i i0 (by omega)
  have b2 := hw.2.2.2.1 i i0 i1
  refine ⟨fun j j0 j1 => ?_, by omega, by omega, by omega⟩
  have := (b1.2 j j0 j1).1
  show 0 ≤ σ (19 + 11 * i + j) ∧ σ (19 + 11 * i + j) ≤ 99
  omega
theorem wRes_2 (hw : sWf σ) : ∀ (n : Nat) (i : Int) (p : zTx), 0 ≤ i → i + n ≤ σ 2 → p.2 ≤ (wRes σ n i p).2 ∧ (wRes σ n i p).2 ≤ p.2 + 85 * n
  | 0, i, p, i0, i1 => ⟨Int.le_refl _, by show p.2 ≤ _; omega⟩
  | n + 1, i, p, i0, i1 => by
    have b := wRe_B hw i0 (by omega)
    have h := wRe_2 (fr := σ (16 + 11 * i)) (to := σ (17 + 11 * i)) (tm := σ (18 + 11 * i)) p b.1 ⟨b.2.1.2, b.2.2.1.2, b.2.2.2.2⟩
    have ih := wRes_2 hw n (i + 1) (wRe (σ (16 + 11 * i)) (σ (17 + 11 * i)) (σ (18 + 11 * i)) (fun j => σ (19 + 11 * i + j)) p) (by omega) (by omega)
    show p.2 ≤ (wRes σ n (i + 1) (wRe (σ (16 + 11 * i)) (σ (17 + 11 * i)) (σ (18 + 11 * i)) (fun j => σ (19 + 11 * i + j)) p)).2 ∧ (wRes σ n (i + 1) (wRe (σ (16 + 11 * i)) (σ (17 + 11 * i)) (σ (18 + 11 * i)) (fun j => σ (19 + 11 * i + j)) p)).2 ≤ _
    omega
theorem wRi_B (hw : sWf σ) {i : Int} (i0 : 0 ≤ i) (i1 : i < σ 3) : wB99 (fun j => σ (267 + 76 * i + j)) ∧ (∀ k : Int, 0 ≤ k → k < 60 → 0 ≤ σ (275 + 76 * i + k) ∧ σ (275 + 76 * i + k) ≤ 10017) ∧ (0 ≤ σ (259 + 76 * i) ∧ σ (259 + 76 * i) ≤ 9) ∧ (0 ≤ σ (260 + 76 * i) ∧ σ (260 + 76 * i) ≤ 9999) ∧ (0 ≤ σ (261 + 76 * i) ∧ σ (261 + 76 * i) ≤ 9) ∧ (-100000000 ≤ σ (262 + 76 * i) ∧ σ (262 + 76 * i) ≤ 100000000) ∧ 0 ≤ σ (266 + 76 * i) ∧ σ (266 + 76 * i) ≤ 60 := by
  have hb := hw.1
  obtain ⟨a0, a1, a2, a3, a4, a5, a6, a7, a8, a9, a10⟩ := hw.2.2.2.2.1 i i0 i1
  refine ⟨fun j j0 j1 => ?_, a8, by omega, by omega, by omega, by omega, a7⟩
  have := (a10 j j0 j1).1
  show 0 ≤ σ (267 + 76 * i + j) ∧ σ (267 + 76 * i + j) ≤ 99
  omega
theorem wRis_2 (hw : sWf σ) : ∀ (n : Nat) (i : Int) (p : zTx), 0 ≤ i → i + n ≤ σ 3 → p.2 ≤ (wRis σ n i p).2 ∧ (wRis σ n i p).2 ≤ p.2 + 481 * n
  | 0, i, p, i0, i1 => ⟨Int.le_refl _, by show p.2 ≤ _; omega⟩
  | n + 1, i, p, i0, i1 => by
    obtain ⟨b1, b2, b3, b4, b5, b6, b7⟩ := wRi_B hw i0 (show i < σ 3 by omega)
    have h := wRi_2 (pl := σ (259 + 76 * i)) (yr := σ (260 + 76 * i)) (pr := σ (261 + 76 * i)) (bl := σ (262 + 76 * i)) (ln := σ (266 + 76 * i)) (tk := fun k => σ (275 + 76 * i + k)) p b1 (fun k k0 k1 => (b2 k k0 k1).2) ⟨b3.2, b5.2, b7.2⟩
    have ih := wRis_2 hw n (i + 1) (wRi (σ (259 + 76 * i)) (σ (260 + 76 * i)) (σ (261 + 76 * i)) (σ (262 + 76 * i)) (σ (266 + 76 * i)) (fun j => σ (267 + 76 * i + j)) (fun k => σ (275 + 76 * i + k)) p) (by omega) (by omega)
    show p.2 ≤ (wRis σ n (i + 1) (wRi (σ (259 + 76 * i)) (σ (260 + 76 * i)) (σ (261 + 76 * i)) (σ (262 + 76 * i)) (σ (266 + 76 * i)) (fun j => σ (267 + 76 * i + j)) (fun k => σ (275 + 76 * i + k)) p)).2 ∧ (wRis σ n (i + 1) (wRi (σ (259 + 76 * i)) (σ (260 + 76 * i)) (σ (261 + 76 * i)) (σ (262 + 76 * i)) (σ (266 + 76 * i)) (fun j => σ (267 + 76 * i + j)) (fun k => σ (275 + 76 * i + k)) p)).2 ≤ _
    omega
theorem wIn_B (hw : sWf σ) {s i : Int} (s0 : 0 ≤ s) (s1 : s < 3) (i0 : 0 ≤ i) (i1 : i < 6) : wB99 (fun j => σ (115 + 48 * s + 8 * i + j)) ∧ ∀ j : Int, 0 ≤ j → j < 8 → 0 ≤ σ (115 + 48 * s + 8 * i + j) := by
  have b := (hw.2.1 i i0 i1).2.2.2
  refine ⟨fun j j0 j1 => ?_, fun j j0 j1 => (b s j s0 s1 j0 j1).1⟩
  have := b s j s0 s1 j0 j1
  show 0 ≤ σ (115 + 48 * s + 8 * i + j) ∧ σ (115 + 48 * s + 8 * i + j) ≤ 99
  omega
theorem wIns_2 (hw : sWf σ) {s : Int} (s0 : 0 ≤ s) (s1 : s < 3) : ∀ (n : Nat) (i : Int) (p : zTx), 0 ≤ i → i + n ≤ 6 → p.2 ≤ (wIns σ s n i p).2 ∧ (wIns σ s n i p).2 ≤ p.2 + 35 * n
  | 0, i, p, i0, i1 => ⟨Int.le_refl _, by show p.2 ≤ _; omega⟩
  | n + 1, i, p, i0, i1 => by
    have h := wIn_2 (s := s) (pl := i) p (wIn_B hw s0 s1 i0 (show i < 6 by omega)).1 ⟨by omega, by omega⟩
    have ih := wIns_2 hw s0 s1 n (i + 1) (wIn s i (fun j => σ (115 + 48 * s + 8 * i + j)) p) (by omega) (by omega)
    show p.2 ≤ (wIns σ s n (i + 1) (wIn s i (fun j => σ (115 + 48 * s + 8 * i + j)) p)).2 ∧ (wIns σ s n (i + 1) (wIn s i (fun j => σ (115 + 48 * s + 8 * i + j)) p)).2 ≤ _
    omega
theorem wIss_2 (hw : sWf σ) : ∀ (n : Nat) (s : Int) (p : zTx), 0 ≤ s → s + n ≤ 3 → p.2 ≤ (wIss σ n s p).2 ∧ (wIss σ n s p).2 ≤ p.2 + 210 * n
  | 0, s, p, s0, s1 => ⟨Int.le_refl _, by show p.2 ≤ _; omega⟩
  | n + 1, s, p, s0, s1 => by
    have hb := hw.1
    have h := wIns_2 hw s0 (show s < 3 by omega) (σ 1).toNat 0 p (Int.le_refl 0) (by omega)
    have ih := wIss_2 hw n (s + 1) (wIns σ s (σ 1).toNat 0 p) (by omega) (by omega)
    show p.2 ≤ (wIss σ n (s + 1) (wIns σ s (σ 1).toNat 0 p)).2 ∧ (wIss σ n (s + 1) (wIns σ s (σ 1).toNat 0 p)).2 ≤ _
    omega
theorem wB1_2 (hw : sWf σ) : 6 ≤ (wB1 σ).2 ∧ (wB1 σ).2 ≤ 90 := by
  have hb := hw.1
  have h := wPls_2 hw (σ 1).toNat 0 wHd (Int.le_refl 0) (by omega)
  rw [wHd_2] at h
  unfold wB1
  omega
theorem wB2_2 (hw : sWf σ) : 6 ≤ (wB2 σ).2 ∧ (wB2 σ).2 ≤ 855 := by
  have hb := hw.1
  have h1 := wB1_2 hw
  have h := wRes_2 hw (σ 2).toNat 0 (wB1 σ) (Int.le_refl 0) (by omega)
  unfold wB2
  omega
theorem wB3_2 (hw : sWf σ) : 6 ≤ (wB3 σ).2 ∧ (wB3 σ).2 ≤ 5665 := by
  have hb := hw.1
  have h1 := wB2_2 hw
  have h := wRis_2 hw (σ 3).toNat 0 (wB2 σ) (Int.le_refl 0) (by omega)
  unfold wB3
  omega
theorem wBas_2 (hw : sWf σ) : 6 ≤ (wBas σ).2 ∧ (wBas σ).2 ≤ 6295 := by
  have h1 := wB3_2 hw
  have h := wIss_2 hw 3 0 (wB3 σ) (Int.le_refl 0) (by decide)
  unfold wBas
  omega
end WG
