/-! A basin's text by the model: rights, statements. -/
section QW2
variable {S : mH} {I : mN} {Q : mQ} (D : Nat) {m : Int} {tx : Int → Int} {N t : Int} {σ : sT}
/-- the end of a right -/
theorem l_mri0 {S : mH} {I : mN} {v : Int} (hv : v = 0) {x1 x2 x3 : Option mV} : mAt (mRun D) 331 89 ([some (mR m), x1, x2, x3, some (mI v)], [], I, S) Q = Q (.inl (some (mI 0))) I S := by
  subst hv
  rw [a_Mo_readsRight_89]
  simp (disch := first | omega | exact Nat.le_of_ble_eq_true rfl) only [w_iconst, w_bipush, w_sipush, w_ldc_s, w_ldcw_s, w_ldc_i, w_ldcw_i, w_lconst, w_fconst, w_dconst, w_iload, w_iload_n, w_aload, w_aload_n, w_dload, w_istore, w_istore_n, w_astore_r, w_astore_s, w_astore_n_r, w_astore_n_s, w_dstore, w_iinc, w_iadd, w_isub, w_imul, w_iand, w_iushr, v_idiv, v_irem, w_ineg, w_i2l, w_i2c, w_i2f, w_i2d, v_f2d, w_lcmp, w_dcmp, v_fdiv, v_ddiv, w_dup_i, w_dup_r, w_dup2, w_dup_x2, w_pop_i, w_pop_r, w_goto, w_switch, w_ret_i, v_ret_z, w_ret_a, w_ret_s, w_ret_f, w_ret_d, w_ret_v, v_iaload, v_baload, v_caload, v_laload, v_aaload, v_iastore, v_bastore, v_castore, v_lastore, v_aastore, v_alen, v_newa, v_anewa, w_new, w_throw, w_dead, v_getf_i, v_getf_z, v_getf_r, v_putf_i, v_putf_z, v_putf_r, w_call0, w_call1, w_callv1, w_calli1, w_callt1, w_call2, w_callv2, w_calli2, w_callt2, w_call3, w_callv3, w_calli3, w_call4, w_callv4, w_calli4, w_call5, w_callv5, w_calli5, w_call6, w_callv6, w_calli6, w_call7, w_callv7, w_calli7, w_call8, w_callv8, w_calli8, c_if0_eq_t, c_if0_eq_f, c_if2_eq_t, c_if2_eq_f, c_if0_ne_t, c_if0_ne_f, c_if2_ne_t, c_if2_ne_f, c_if0_lt_t, c_if0_lt_f, c_if2_lt_t, c_if2_lt_f, c_if0_ge_t, c_if0_ge_f, c_if2_ge_t, c_if2_ge_f, c_if0_gt_t, c_if0_gt_f, c_if2_gt_t, c_if2_gt_f, c_if0_le_t, c_if0_le_f, c_if2_le_t, c_if2_le_f, w_nil, uI_s, uA_r, uA_s, uD_d, mPut_0, mCl_own, mCv_go, mCl_min, mCl_cpy, mCv_obj, mAct_len, mAct_chrc, mAft_v, mAft_n, mAft_x, mGet_0, mSet_0, mGet_1, mSet_1, mGet_2, mSet_2, mGet_3, mSet_3, mGet_4, mSet_4, mGet_5, mSet_5, mGet_6, mSet_6, mGet_7, mSet_7, mGet_8, mSet_8, mGet_9, mSet_9, mGet_10, mSet_10, mGet_11, mSet_11, mGet_12, mSet_12, mGet_13, mSet_13, bk_Mo_readsRight_89, a_Mo_readsRight_134, bk_Mo_readsRight_134]
theorem l_mri (hm : yM S m) (n0 : 0 ≤ N) (n9 : N ≤ 900) {i : Int} (i0 : 0 ≤ i) {x1 x2 : Option mV} : ∀ (n : Nat) (z : Int) (I : mN) (σ : sT) (t : Int), N ≤ t + n → i < σ 3 → oDs I m tx N σ t → oM S m tx N I Q (qPa tx N i n σ t) → mAt (mRun (D + 9)) 331 89 ([some (mR m), x1, x2, some (mI i), some (mI 1)], [], I, mSx S m z) Q := by
  have words : ∀ (z : Int) (I : mN) (t : Int), zTk9 I m tx N t → zK tx N t ≠ 19 → zK tx N t ≠ 20 → zK tx N t ≠ 21 → mAt (mRun (D + 9)) 331 89 ([some (mR m), x1, x2, some (mI i), some (mI 1)], [], I, mSx S m z) Q = Q (.inl (some (mI 1))) I (mSx S m z) := fun z I t h c19 c20 c21 => by
    have hmz := yM_x (z := z) hm
    have wz : ∀ (k : Nat), 11 ≤ k → k ≤ 26 → zK tx N t ≠ (k : Int) + 3 → ∀ Q : mQ, mRun (D + 9) 319 [mR m, mS k] I (mSx S m z) Q = Q (.inl (some (mI 0))) I (mSx S m z) := fun k q0 q1 e Q => by rw [r_isWord (D + 8) hmz n0 n9 h q0 q1, zWd_0 e]
    have g16 := wz 16 (by decide) (by decide) (by omega)
    have g17 := wz 17 (by decide) (by decide) (by omega)
    have g18 := wz 18 (by decide) (by decide) (by omega)
    rw [a_Mo_readsRight_89]
    simp (disch := first | omega | exact Nat.le_of_ble_eq_true rfl | (simp (disch := omega) only [ym_k hmz, ym_54 hmz, ym_k54 hmz, ym_l54 hmz] <;> omega)) only [w_iconst, w_bipush, w_sipush, w_ldc_s, w_ldcw_s, w_ldc_i, w_ldcw_i, w_lconst, w_fconst, w_dconst, w_iload, w_iload_n, w_aload, w_aload_n, w_dload, w_istore, w_istore_n, w_astore_r, w_astore_s, w_astore_n_r, w_astore_n_s, w_dstore, w_iinc, w_iadd, w_isub, w_imul, w_iand, w_iushr, v_idiv, v_irem, w_ineg, w_i2l, w_i2c, w_i2f, w_i2d, v_f2d, w_lcmp, w_dcmp, v_fdiv, v_ddiv, w_dup_i, w_dup_r, w_dup2, w_dup_x2, w_pop_i, w_pop_r, w_goto, w_switch, w_ret_i, v_ret_z, w_ret_a, w_ret_s, w_ret_f, w_ret_d, w_ret_v, v_iaload, v_baload, v_caload, v_laload, v_aaload, v_iastore, v_bastore, v_castore, v_lastore, v_aastore, v_alen, v_newa, v_anewa, w_new, w_throw, w_dead, v_getf_i, v_getf_z, v_getf_r, v_putf_i, v_putf_z, v_putf_r, w_call0, w_call1, w_callv1, w_calli1, w_callt1, w_call2, w_callv2, w_calli2, w_callt2, w_call3, w_callv3, w_calli3, w_call4, w_callv4, w_calli4, w_call5, w_callv5, w_calli5, w_call6, w_callv6, w_calli6, w_call7, w_callv7, w_calli7, w_call8, w_callv8, w_calli8, c_if0_eq_t, c_if0_eq_f, c_if2_eq_t, c_if2_eq_f, c_if0_ne_t, c_if0_ne_f, c_if2_ne_t, c_if2_ne_f, c_if0_lt_t, c_if0_lt_f, c_if2_lt_t, c_if2_lt_f, c_if0_ge_t, c_if0_ge_f, c_if2_ge_t, c_if2_ge_f, c_if0_gt_t, c_if0_gt_f, c_if2_gt_t, c_if2_gt_f, c_if0_le_t, c_if0_le_f, c_if2_le_t, c_if2_le_f, w_nil, uI_s, uA_r, uA_s, uD_d, mPut_0, mCl_own, mCv_go, mCl_min, mCl_cpy, mCv_obj, mAct_len, mAct_chrc, mAft_v, mAft_n, mAft_x, mGet_0, mSet_0, mGet_1, mSet_1, mGet_2, mSet_2, mGet_3, mSet_3, mGet_4, mSet_4, mGet_5, mSet_5, mGet_6, mSet_6, mGet_7, mSet_7, mGet_8, mSet_8, mGet_9, mSet_9, mGet_10, mSet_10, mGet_11, mSet_11, mGet_12, mSet_12, mGet_13, mSet_13, bk_Mo_readsRight_89, a_Mo_readsRight_134, bk_Mo_readsRight_134, ym_k hmz, ym_54 hmz, ym_k54 hmz, ym_l54 hmz, g16, g17, g18]
  intro n
  induction n with
  | zero =>
    intro z I σ t hn hi h kk
    have c0 : zK tx N t = 0 := by
      by_cases c : zK tx N t = 0
      · exact c
      · have := zK_t (tx := tx) (t := t) n0 n9 h.2.1 c
        omega
    rw [words z I t h.1 (by omega) (by omega) (by omega)]
    exact oM_1 kk (zFb_r I m) h
  | succ n ih =>
    intro z I σ t hn hi h kk
    have hmz := yM_x (z := z) hm
    by_cases cw : zK tx N t = 19 ∨ zK tx N t = 20 ∨ zK tx N t = 21
    · have wz : ∀ (k : Nat) (v : Int), 11 ≤ k → k ≤ 26 → zWd tx N t k = v → ∀ Q : mQ, mRun (D + 9) 319 [mR m, mS k] I (mSx S m z) Q = Q (.inl (some (mI v))) I (mSx S m z) := fun k v q0 q1 e Q => by rw [r_isWord (D + 8) hmz n0 n9 h.1 q0 q1, e]
      have onward : mRun (D + 9) 332 [mR m, mI i] I (mSx S m z) (fun v I' S' => mAt (mRun (D + 9)) 331 89 ([some (mR m), x1, x2, some (mI i), some (match v with | .inl (some w) => w | _ => mI 0)], [], I', S') Q) := by
        refine p_mMore D z hm n0 n9 i0 hi n h cw (fun I' z' σ' t' h' e hi' ht' f' => ?_) (fun I' z' t' e h' hd' f' => ?_)
        · rw [e] at kk
          exact ih z' I' σ' t' (by omega) hi' h' (oM_t kk f')
        · rw [e] at kk
          show mAt (mRun (D + 9)) 331 89 ([some (mR m), x1, x2, some (mI i), some (mI 0)], [], I', mSx S m z') Q
          rw [l_mri0 (D + 9) rfl]
          exact oM_0 kk f' h' hd'
      sorry
    · rw [words z I t h.1 (fun q => cw (Or.inl q)) (fun q => cw (Or.inr (Or.inl q))) (fun q => cw (Or.inr (Or.inr q)))]
      have e9 : qPa tx N i (n + 1) σ t = (1, t, σ) := by
        rw [qPa_e, if_neg (fun q => cw (Or.inl q)), if_neg (fun q => cw (Or.inr (Or.inl q))), if_neg (fun q => cw (Or.inr (Or.inr q)))]
      rw [e9] at kk
      exact oM_1 kk (zFb_r I m) h
end QW2
