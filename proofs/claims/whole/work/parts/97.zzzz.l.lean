/-! Call 2 by the model. -/
section QH
variable {S : mH} {I : mN} {m z : Int} {G : gT} {Q : mQ} (D : Nat)
theorem oR_cl2 {I' : mN} {z' e : Int} (hg : gWf G) (h : oR (mSx S m z) I m G) (hf : (∀ a : Int, a ≠ m → (a < m + 33 ∨ m + 39 < a) → a ≠ m + 41 → a ≠ m + 42 → I' a = I a) ∧ ∀ k : Int, k ≠ 1 → (k < 46 ∨ 51 < k) → (k < 55 ∨ 62 < k) → I' m k = I m k) (hdr : zDra (I' (m + 42))) (h1 : I' m 55 = 0) (h2 : I' m 61 = e) : oR (mSx S m z') I' m (gCl G e) := by
  obtain ⟨hm, hC, h3, h4, ⟨h50, h51, h52, h53⟩, h6, h7, h8, h9⟩ := h
  have ee : ∀ a : Int, a ≠ m → (a < m + 33 ∨ m + 39 < a) → (a ≠ m + 41 ∧ a ≠ m + 42) → I' a = I a := fun a a0 a1 a2 => hf.1 a a0 a1 a2.1 a2.2
  have ef : ∀ k : Int, k ≠ 1 → k < 46 → I' m k = I m k := fun k k0 k1 => hf.2 k k0 (by omega) (by omega)
  rw [← gO_cl (e := e) hg] at hC
  refine ⟨yM_x (yM_u hm), ⟨by rw [ee (m + 1) (by omega) (by omega) (by omega)]; exact hC.1, fun s s0 s1 => ?_, kWo_k hC.2.2 (ef 17 (by decide) (by decide)) (ee _ (by omega) (by omega) (by omega)) (ee _ (by omega) (by omega) (by omega)) (ee _ (by omega) (by omega) (by omega))⟩, ?_, ?_, ⟨?_, ?_, ?_, ?_⟩, ?_, ⟨h1, h2, fun i i0 i1 => ?_⟩, ?_, ?_⟩
  · rw [ee (m + 16) (by omega) (by omega) (by omega), ee (m + 13 + s) (by omega) (by omega) (by omega)]; exact hC.2.1 s s0 s1
  · rw [ee (m + 22) (by omega) (by omega) (by omega)]
    intro k j k0 k1 j0 j1 hkj
    have e2 : (gCl G e).1 (20 + k) = G.1 (20 + k) := gCl_1 (by omega) (by omega)
    have e3 : (gCl G e).1 (10 + k) = G.1 (10 + k) := gCl_1 (by omega) (by omega)
    rw [e2] at j1
    rw [e3] at hkj
    exact h3 k j k0 k1 j0 j1 hkj
  · intro k k0 k1
    have e2 : (gCl G e).1 (20 + k) = G.1 (20 + k) := gCl_1 (by omega) (by omega)
    have e3 : (gCl G e).1 (10 + k) = G.1 (10 + k) := gCl_1 (by omega) (by omega)
    rw [e2, e3, ee (m + 23) (by omega) (by omega) (by omega), ee (m + 24) (by omega) (by omega) (by omega)]
    exact h4 k k0 k1
  · rw [ef 26 (by decide) (by decide)]; exact h50
  · rw [ef 27 (by decide) (by decide)]; exact h51
  · rw [ef 28 (by decide) (by decide)]; exact h52
  · rw [ef 29 (by decide) (by decide)]; exact h53
  · rw [ee (m + 20) (by omega) (by omega) (by omega)]; exact h6
  · have i1 : i < 0 := i1
    omega
  · rw [hf.2 64 (by decide) (by decide) (by decide), ee (m + 43) (by omega) (by omega) (by omega)]; exact h8
  · intro c hc
    rw [ee (m + 25) (by omega) (by omega) (by omega), ee (m + 44) (by omega) (by omega) (by omega)]
    exact ⟨(h9 c hc).1, hdr, (h9 c hc).2.2⟩
theorem l_clrD (hm : yM S m) {I0 : mN} (k : ∀ I' : mN, (∀ q : Int, q ≠ m + 42 → I' q = I0 q) → (∀ j : Int, I' (m + 42) j = if 0 ≤ j ∧ j < 1395 then 0 else I0 (m + 42) j) → mAt (mRun D) 338 22 ([some (mR m), some (mI 1395)], [], I', S) Q) : ∀ (c : Nat) (i : Int) (I : mN), i + c = 1395 → 0 ≤ i → (∀ q : Int, q ≠ m + 42 → I q = I0 q) → (∀ j : Int, I (m + 42) j = if 0 ≤ j ∧ j < i then 0 else I0 (m + 42) j) → mAt (mRun D) 338 2 ([some (mR m), some (mI i)], [], I, S) Q
  | 0, i, I, hc, i0, ho, hv => by
    obtain rfl : i = 1395 := by omega
    rw [a_Mo_readsBuffer_2]
    simp (disch := first | omega | exact Nat.le_of_ble_eq_true rfl) only [w_iconst, w_bipush, w_sipush, w_ldc_s, w_ldcw_s, w_ldc_i, w_ldcw_i, w_lconst, w_fconst, w_dconst, w_iload, w_iload_n, w_aload, w_aload_n, w_dload, w_istore, w_istore_n, w_astore_r, w_astore_s, w_astore_n_r, w_astore_n_s, w_dstore, w_iinc, w_iadd, w_isub, w_imul, w_iand, w_iushr, v_idiv, v_irem, w_ineg, w_i2l, w_i2c, w_i2f, w_i2d, v_f2d, w_lcmp, w_dcmp, v_fdiv, v_ddiv, w_dup_i, w_dup_r, w_dup2, w_dup_x2, w_pop_i, w_pop_r, w_goto, w_switch, w_ret_i, v_ret_z, v_ret_c, w_ret_a, w_ret_s, w_ret_f, w_ret_d, w_ret_v, v_iaload, v_baload, v_caload, v_laload, v_aaload, v_iastore, v_bastore, v_castore, v_lastore, v_aastore, v_alen, v_newa, v_anewa, w_new, w_throw, w_dead, v_getf_i, v_getf_z, v_getf_r, v_putf_i, v_putf_z, v_putf_r, w_call0, w_call1, w_callv1, w_calli1, w_callt1, w_call2, w_callv2, w_calli2, w_callt2, w_call3, w_callv3, w_calli3, w_call4, w_callv4, w_calli4, w_call5, w_callv5, w_calli5, w_call6, w_callv6, w_calli6, w_call7, w_callv7, w_calli7, w_call8, w_callv8, w_calli8, c_if0_eq_t, c_if0_eq_f, c_if2_eq_t, c_if2_eq_f, c_if0_ne_t, c_if0_ne_f, c_if2_ne_t, c_if2_ne_f, c_if0_lt_t, c_if0_lt_f, c_if2_lt_t, c_if2_lt_f, c_if0_ge_t, c_if0_ge_f, c_if2_ge_t, c_if2_ge_f, c_if0_gt_t, c_if0_gt_f, c_if2_gt_t, c_if2_gt_f, c_if0_le_t, c_if0_le_f, c_if2_le_t, c_if2_le_f, w_nil, uI_s, uA_r, uA_s, uD_d, mPut_0, mCl_own, mCv_go, mCl_min, mCl_cpy, mCv_obj, mAct_len, mAct_chrc, mAft_v, mAft_n, mAft_x, mGet_0, mSet_0, mGet_1, mSet_1, mGet_2, mSet_2, mGet_3, mSet_3, mGet_4, mSet_4, mGet_5, mSet_5, mGet_6, mSet_6, mGet_7, mSet_7, mGet_8, mSet_8, mGet_9, mSet_9, mGet_10, mSet_10, mGet_11, mSet_11, mGet_12, mSet_12, mGet_13, mSet_13, bk_Mo_readsBuffer_2]
    exact k I ho hv
  | c + 1, i, I, hc, i0, ho, hv => by
    rw [a_Mo_readsBuffer_2]
    simp (disch := first | omega | exact Nat.le_of_ble_eq_true rfl | (simp (disch := omega) only [ym_k hm, ym_54 hm, ym_k54 hm, ym_l54 hm] <;> omega)) only [w_iconst, w_bipush, w_sipush, w_ldc_s, w_ldcw_s, w_ldc_i, w_ldcw_i, w_lconst, w_fconst, w_dconst, w_iload, w_iload_n, w_aload, w_aload_n, w_dload, w_istore, w_istore_n, w_astore_r, w_astore_s, w_astore_n_r, w_astore_n_s, w_dstore, w_iinc, w_iadd, w_isub, w_imul, w_iand, w_iushr, v_idiv, v_irem, w_ineg, w_i2l, w_i2c, w_i2f, w_i2d, v_f2d, w_lcmp, w_dcmp, v_fdiv, v_ddiv, w_dup_i, w_dup_r, w_dup2, w_dup_x2, w_pop_i, w_pop_r, w_goto, w_switch, w_ret_i, v_ret_z, v_ret_c, w_ret_a, w_ret_s, w_ret_f, w_ret_d, w_ret_v, v_iaload, v_baload, v_caload, v_laload, v_aaload, v_iastore, v_bastore, v_castore, v_lastore, v_aastore, v_alen, v_newa, v_anewa, w_new, w_throw, w_dead, v_getf_i, v_getf_z, v_getf_r, v_putf_i, v_putf_z, v_putf_r, w_call0, w_call1, w_callv1, w_calli1, w_callt1, w_call2, w_callv2, w_calli2, w_callt2, w_call3, w_callv3, w_calli3, w_call4, w_callv4, w_calli4, w_call5, w_callv5, w_calli5, w_call6, w_callv6, w_calli6, w_call7, w_callv7, w_calli7, w_call8, w_callv8, w_calli8, c_if0_eq_t, c_if0_eq_f, c_if2_eq_t, c_if2_eq_f, c_if0_ne_t, c_if0_ne_f, c_if2_ne_t, c_if2_ne_f, c_if0_lt_t, c_if0_lt_f, c_if2_lt_t, c_if2_lt_f, c_if0_ge_t, c_if0_ge_f, c_if2_ge_t, c_if2_ge_f, c_if0_gt_t, c_if0_gt_f, c_if2_gt_t, c_if2_gt_f, c_if0_le_t, c_if0_le_f, c_if2_le_t, c_if2_le_f, w_nil, uI_s, uA_r, uA_s, uD_d, mPut_0, mCl_own, mCv_go, mCl_min, mCl_cpy, mCv_obj, mAct_len, mAct_chrc, mAft_v, mAft_n, mAft_x, mGet_0, mSet_0, mGet_1, mSet_1, mGet_2, mSet_2, mGet_3, mSet_3, mGet_4, mSet_4, mGet_5, mSet_5, mGet_6, mSet_6, mGet_7, mSet_7, mGet_8, mSet_8, mGet_9, mSet_9, mGet_10, mSet_10, mGet_11, mSet_11, mGet_12, mSet_12, mGet_13, mSet_13, bk_Mo_readsBuffer_2, ym_k hm, ym_54 hm, ym_k54 hm, ym_l54 hm, wr]
    refine l_clrD hm k c (i + 1) _ (by omega) (by omega) (fun q hq => by rw [up_fa hq]; exact ho q hq) (fun j => ?_)
    by_cases e : j = i
    · rw [up_eq rfl e, if_pos (by omega)]
    · rw [up_nk e, hv j]
      by_cases e2 : 0 ≤ j ∧ j < i
      · rw [if_pos e2, if_pos (by omega)]
      · rw [if_neg e2, if_neg (by omega)]
theorem l_cpD (hm : yM S m) {I0 : mN} (k : ∀ I' : mN, (∀ q : Int, q ≠ m + 1 → I' q = I0 q) → (∀ j : Int, I' (m + 1) j = if 0 ≤ j ∧ j < 1395 then I0 (m + 42) j else I0 (m + 1) j) → Q (.inl none) I' S) : ∀ (c : Nat) (i : Int) (I : mN), i + c = 1395 → 0 ≤ i → (∀ q : Int, q ≠ m + 1 → I q = I0 q) → (∀ j : Int, I (m + 1) j = if 0 ≤ j ∧ j < i then I0 (m + 42) j else I0 (m + 1) j) → mAt (mRun D) 339 2 ([some (mR m), some (mI i)], [], I, S) Q
  | 0, i, I, hc, i0, ho, hv => by
    obtain rfl : i = 1395 := by omega
    rw [a_Mo_copiesDraft_2]
    simp (disch := first | omega | exact Nat.le_of_ble_eq_true rfl) only [w_iconst, w_bipush, w_sipush, w_ldc_s, w_ldcw_s, w_ldc_i, w_ldcw_i, w_lconst, w_fconst, w_dconst, w_iload, w_iload_n, w_aload, w_aload_n, w_dload, w_istore, w_istore_n, w_astore_r, w_astore_s, w_astore_n_r, w_astore_n_s, w_dstore, w_iinc, w_iadd, w_isub, w_imul, w_iand, w_iushr, v_idiv, v_irem, w_ineg, w_i2l, w_i2c, w_i2f, w_i2d, v_f2d, w_lcmp, w_dcmp, v_fdiv, v_ddiv, w_dup_i, w_dup_r, w_dup2, w_dup_x2, w_pop_i, w_pop_r, w_goto, w_switch, w_ret_i, v_ret_z, v_ret_c, w_ret_a, w_ret_s, w_ret_f, w_ret_d, w_ret_v, v_iaload, v_baload, v_caload, v_laload, v_aaload, v_iastore, v_bastore, v_castore, v_lastore, v_aastore, v_alen, v_newa, v_anewa, w_new, w_throw, w_dead, v_getf_i, v_getf_z, v_getf_r, v_putf_i, v_putf_z, v_putf_r, w_call0, w_call1, w_callv1, w_calli1, w_callt1, w_call2, w_callv2, w_calli2, w_callt2, w_call3, w_callv3, w_calli3, w_call4, w_callv4, w_calli4, w_call5, w_callv5, w_calli5, w_call6, w_callv6, w_calli6, w_call7, w_callv7, w_calli7, w_call8, w_callv8, w_calli8, c_if0_eq_t, c_if0_eq_f, c_if2_eq_t, c_if2_eq_f, c_if0_ne_t, c_if0_ne_f, c_if2_ne_t, c_if2_ne_f, c_if0_lt_t, c_if0_lt_f, c_if2_lt_t, c_if2_lt_f, c_if0_ge_t, c_if0_ge_f, c_if2_ge_t, c_if2_ge_f, c_if0_gt_t, c_if0_gt_f, c_if2_gt_t, c_if2_gt_f, c_if0_le_t, c_if0_le_f, c_if2_le_t, c_if2_le_f, w_nil, uI_s, uA_r, uA_s, uD_d, mPut_0, mCl_own, mCv_go, mCl_min, mCl_cpy, mCv_obj, mAct_len, mAct_chrc, mAft_v, mAft_n, mAft_x, mGet_0, mSet_0, mGet_1, mSet_1, mGet_2, mSet_2, mGet_3, mSet_3, mGet_4, mSet_4, mGet_5, mSet_5, mGet_6, mSet_6, mGet_7, mSet_7, mGet_8, mSet_8, mGet_9, mSet_9, mGet_10, mSet_10, mGet_11, mSet_11, mGet_12, mSet_12, mGet_13, mSet_13, bk_Mo_copiesDraft_2, a_Mo_copiesDraft_27, bk_Mo_copiesDraft_27]
    exact k I ho hv
  | c + 1, i, I, hc, i0, ho, hv => by
    have e42 : I (m + 42) i = I0 (m + 42) i := by rw [ho (m + 42) (by omega)]
    rw [a_Mo_copiesDraft_2]
    simp (disch := first | omega | exact Nat.le_of_ble_eq_true rfl | (simp (disch := omega) only [ym_k hm, ym_0 hm, ym_k0 hm, ym_l0 hm, ym_54 hm, ym_k54 hm, ym_l54 hm, e42] <;> omega)) only [w_iconst, w_bipush, w_sipush, w_ldc_s, w_ldcw_s, w_ldc_i, w_ldcw_i, w_lconst, w_fconst, w_dconst, w_iload, w_iload_n, w_aload, w_aload_n, w_dload, w_istore, w_istore_n, w_astore_r, w_astore_s, w_astore_n_r, w_astore_n_s, w_dstore, w_iinc, w_iadd, w_isub, w_imul, w_iand, w_iushr, v_idiv, v_irem, w_ineg, w_i2l, w_i2c, w_i2f, w_i2d, v_f2d, w_lcmp, w_dcmp, v_fdiv, v_ddiv, w_dup_i, w_dup_r, w_dup2, w_dup_x2, w_pop_i, w_pop_r, w_goto, w_switch, w_ret_i, v_ret_z, v_ret_c, w_ret_a, w_ret_s, w_ret_f, w_ret_d, w_ret_v, v_iaload, v_baload, v_caload, v_laload, v_aaload, v_iastore, v_bastore, v_castore, v_lastore, v_aastore, v_alen, v_newa, v_anewa, w_new, w_throw, w_dead, v_getf_i, v_getf_z, v_getf_r, v_putf_i, v_putf_z, v_putf_r, w_call0, w_call1, w_callv1, w_calli1, w_callt1, w_call2, w_callv2, w_calli2, w_callt2, w_call3, w_callv3, w_calli3, w_call4, w_callv4, w_calli4, w_call5, w_callv5, w_calli5, w_call6, w_callv6, w_calli6, w_call7, w_callv7, w_calli7, w_call8, w_callv8, w_calli8, c_if0_eq_t, c_if0_eq_f, c_if2_eq_t, c_if2_eq_f, c_if0_ne_t, c_if0_ne_f, c_if2_ne_t, c_if2_ne_f, c_if0_lt_t, c_if0_lt_f, c_if2_lt_t, c_if2_lt_f, c_if0_ge_t, c_if0_ge_f, c_if2_ge_t, c_if2_ge_f, c_if0_gt_t, c_if0_gt_f, c_if2_gt_t, c_if2_gt_f, c_if0_le_t, c_if0_le_f, c_if2_le_t, c_if2_le_f, w_nil, uI_s, uA_r, uA_s, uD_d, mPut_0, mCl_own, mCv_go, mCl_min, mCl_cpy, mCv_obj, mAct_len, mAct_chrc, mAft_v, mAft_n, mAft_x, mGet_0, mSet_0, mGet_1, mSet_1, mGet_2, mSet_2, mGet_3, mSet_3, mGet_4, mSet_4, mGet_5, mSet_5, mGet_6, mSet_6, mGet_7, mSet_7, mGet_8, mSet_8, mGet_9, mSet_9, mGet_10, mSet_10, mGet_11, mSet_11, mGet_12, mSet_12, mGet_13, mSet_13, bk_Mo_copiesDraft_2, ym_k hm, ym_0 hm, ym_k0 hm, ym_l0 hm, ym_54 hm, ym_k54 hm, ym_l54 hm, e42, wr]
    refine l_cpD hm k c (i + 1) _ (by omega) (by omega) (fun q hq => by rw [up_fa hq]; exact ho q hq) (fun j => ?_)
    by_cases e : j = i
    · rw [up_eq rfl e, if_pos (by omega), e]
    · rw [up_nk e, hv j]
      by_cases e2 : 0 ≤ j ∧ j < i
      · rw [if_pos e2, if_pos (by omega)]
      · rw [if_neg e2, if_neg (by omega)]
end QH
