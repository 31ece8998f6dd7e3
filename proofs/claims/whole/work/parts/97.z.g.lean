/-! Undo, redo, branches. -/
def gMv (G : gT) (d : Int) : gT := (fun i => if i = 5 then (G.1 1) else if i = 6 then -d else if i = 10 + (G.1 1) then (G.1 (10 + G.1 1)) + d else G.1 i, G.2)
def gBr (G : gT) : gT := (zU G.1 0 ((G.1 0) + 1), fun k j => if k = (G.1 0) ∧ j = 0 then (G.2.1 (G.1 1) (G.1 (10 + G.1 1))) else G.2.1 k j, G.2.2)
def r19 (G : gT) : mZ × gT := if (G.1 (10 + G.1 1)) = 0 then (.inl (some (mI (-1))), G) else (.inl (some (mI ((G.1 (10 + G.1 1)) - 1))), gMv G (-1))
def r20 (G : gT) : mZ × gT := if (G.1 (20 + ((G.1 1)))) = (G.1 (10 + G.1 1)) then (.inl (some (mI (-1))), G) else (.inl (some (mI ((G.1 (20 + ((G.1 1)))) - (G.1 (10 + G.1 1)) - 1))), gMv G 1)
def r21 (G : gT) : mZ × gT := if (G.1 0) < 3 then (.inl (some (mI ((G.1 0)))), gBr G) else (.inr 0, G)
def r22 (G : gT) (a : Int) : mZ × gT := if 0 ≤ a ∧ a < (G.1 0) then (.inl (some (mI ((G.1 1)))), gSet G 1 a) else (.inr 2, G)
section XV
variable {S : mH} {I : mN} {x m z : Int} {π : Int → Int → Int} {G : gT} {Q : mQ} (D : Nat)
theorem gMv_1 {d i : Int} (h5 : i ≠ 5) (h6 : i ≠ 6) (h : i ≠ 10 + (G.1 1)) : (gMv G d).1 i = G.1 i := by
  unfold gMv
  dsimp only
  rw [if_neg h5, if_neg h6, if_neg h]
theorem gMv_5 {d : Int} : (gMv G d).1 5 = (G.1 1) := by
  unfold gMv
  dsimp only
  rw [if_pos rfl]
theorem gMv_6 {d : Int} : (gMv G d).1 6 = -d := by
  unfold gMv
  dsimp only
  rw [if_neg (by decide), if_pos rfl]
theorem gMv_U {d k : Int} (hg : gWf G) (k0 : 0 ≤ k) (k1 : k < 3) : ((gMv G d).1 (10 + k)) = if k = (G.1 1) then (G.1 (10 + G.1 1)) + d else (G.1 (10 + k)) := by
  have := (gJ_b hg).1
  by_cases c : k = (G.1 1)
  · rw [if_pos c]
    show (gMv G d).1 (10 + k) = _
    unfold gMv
    dsimp only
    rw [if_neg (by omega), if_neg (by omega), if_pos (by omega)]
  · rw [if_neg c]
    exact gMv_1 (by omega) (by omega) (by omega)
theorem gMv_E {d k : Int} (hg : gWf G) (k0 : 0 ≤ k) (k1 : k < 3) : ((gMv G d).1 (20 + k)) = (G.1 (20 + k)) := by
  have := (gJ_b hg).1
  exact gMv_1 (by omega) (by omega) (by omega)
theorem gMv_N {d : Int} (hg : gWf G) : ((gMv G d).1 0) = (G.1 0) := by have := (gJ_b hg).1; exact gMv_1 (by omega) (by omega) (by omega)
theorem gMv_C {d : Int} (hg : gWf G) : ((gMv G d).1 1) = (G.1 1) := by have := (gJ_b hg).1; exact gMv_1 (by omega) (by omega) (by omega)
theorem gMv_J {d : Int} (hg : gWf G) : ((gMv G d).1 (10 + (gMv G d).1 1)) = (G.1 (10 + G.1 1)) + d := by
  have := (gJ_b hg).1
  show ((gMv G d).1 (10 + (((gMv G d).1 1)))) = _
  rw [gMv_C hg, gMv_U hg this.1 this.2.1, if_pos rfl]
theorem gMv_UC {d : Int} (hg : gWf G) : ((gMv G d).1 (10 + ((G.1 1)))) = (G.1 (10 + G.1 1)) + d := by
  have := (gJ_b hg).1
  rw [gMv_U hg this.1 this.2.1, if_pos rfl]
theorem gMv_O {d : Int} (hg : gWf G) : ((gMv G d).2.1 ((gMv G d).1 1) ((gMv G d).1 (10 + (gMv G d).1 1))) = (G.2.1 ((G.1 1)) ((G.1 (10 + G.1 1)) + d)) := by
  show G.2.1 (((gMv G d).1 1)) (((gMv G d).1 (10 + (gMv G d).1 1))) = _
  rw [gMv_C hg, gMv_UC hg]
theorem gWf_mv {d : Int} (hg : gWf G) (hd : (d = -1 ∧ (G.1 (10 + G.1 1)) ≠ 0) ∨ (d = 1 ∧ (G.1 (20 + ((G.1 1)))) ≠ (G.1 (10 + G.1 1)))) : gWf (gMv G d) := by
  have hJ := gJ_b hg
  obtain ⟨g1, g2, g3, g4, g5, g6, g7, g8⟩ := id hg
  have e2 : ((gMv G d).1 2) = (G.1 2) := gMv_1 (by omega) (by omega) (by omega)
  have e4 : ((gMv G d).1 4) = (G.1 4) := gMv_1 (by omega) (by omega) (by omega)
  refine ⟨by rw [gMv_N hg]; exact g1, by rw [gMv_N hg, gMv_C hg]; exact g2, fun k k0 k1 => ?_, fun k j k0 k1 j0 j1 => ?_, ?_, g6, by rw [e4]; exact g7, ?_⟩
  · rw [gMv_U hg k0 k1, gMv_E hg k0 k1, gMv_N hg]
    by_cases c : k = (G.1 1)
    · rw [if_pos c, c]; omega
    · rw [if_neg c]; exact g3 k k0 k1
  · rw [gMv_N hg] at k1
    rw [gMv_E hg k0 (by omega)] at j1
    exact g4 k j k0 k1 j0 j1
  · rw [e2]; exact g5
  · right
    rw [show ((gMv G d).1 5) = (G.1 1) from gMv_5, show ((gMv G d).1 6) = -d from gMv_6, gMv_N hg, gMv_U hg hJ.1.1 hJ.1.2.1, gMv_E hg hJ.1.1 hJ.1.2.1, if_pos rfl]
    exact ⟨g2, by omega⟩
theorem xQ_mv {d : Int} {I' : mN} (hg : gWf G) (h : xQ S I x π G) (hf : ∀ a : Int, a ≠ x + (2 + 744 * (G.1 1)) → I' a = I a) (h1 : I' (x + (2 + 744 * (G.1 1))) 1 = (G.1 (10 + G.1 1)) + d) (h2 : I' (x + (2 + 744 * (G.1 1))) 2 = (G.1 (20 + ((G.1 1)))) - ((G.1 (10 + G.1 1)) + d)) : xQ S I' x π (gMv G d) := by
  have hJ := gJ_b hg
  obtain ⟨q1, q2, q3, q4, q5, q6, q7, q8, q9, q10, q11⟩ := h
  have e2 : ((gMv G d).1 2) = (G.1 2) := gMv_1 (by omega) (by omega) (by omega)
  have e3 : ((gMv G d).1 3) = (G.1 3) := gMv_1 (by omega) (by omega) (by omega)
  have e4 : ((gMv G d).1 4) = (G.1 4) := gMv_1 (by omega) (by omega) (by omega)
  refine ⟨q1, ?_, fun k k0 k1 => ?_, fun k j k0 k1 j0 j1 => yOk_k (q4 k j k0 k1 j0 j1) (fun a a0 a1 => hf a (xOut a0 a1 k0 k1 j0 j1)), fun k j k0 k1 j0 j1 => ?_, yOk_k q6 (fun a a0 a1 => hf a (by omega)), ?_, ?_, ?_, ?_, ?_⟩
  · rw [gMv_N hg, gMv_C hg, hf x (by omega)]; exact q2
  · rw [gMv_U hg k0 k1, gMv_E hg k0 k1]
    by_cases c : k = (G.1 1)
    · rw [if_pos c, c]; exact ⟨h1, h2⟩
    · rw [if_neg c, hf _ (by omega)]; exact q3 k k0 k1
  · rw [gMv_N hg] at k1
    have k3 : k < 3 := by have := hg.1.2; omega
    rw [gMv_E hg k0 k3] at j1
    have j7 : j < 7 := by have := (hg.2.2.1 k k0 k3).1; omega
    have hp := yx_pi q1 k0 k3 j0 j7
    exact yS_k (hg.2.2.2.1 k j k0 k1 j0 j1).1 (q5 k j k0 k1 j0 j1) (fun a a0 a1 => hf a (xOut a0 a1 k0 k3 hp.1 hp.2))
  · unfold nOldQ at q7 ⊢
    rw [hf _ (by omega), hf (x + 2341 + 10) (by omega), hf (x + 2341 + 11) (by omega)]; exact q7
  · rw [hf _ (by omega)]; exact q8
  · rw [hf (x + 2359) (by omega), hf (x + 2360) (by omega), e2, e3]; exact q9
  · rw [hf (x + 2364) (by omega), hf (x + 2357) (by omega), hf (x + 2358) (by omega)]; exact q10
  · rw [hf (x + 2365) (by omega), hf (x + 2366) (by omega), e4]; exact q11
theorem cx_19 (hg : gWf G) (h : xR S I x G) (kk : xK S I x Q (r19 G)) : mRun (D + 50) 135 [mR x] I S Q := by
  obtain ⟨π, hx, h3⟩ := id h
  obtain ⟨⟨c0, c1, c2⟩, u0, u1, u2⟩ := gJ_b hg
  have h1 := hx.1
  have hc := hx.2.1.2
  have hu : I (x + (2 + 744 * (G.1 1))) 1 = (G.1 (10 + G.1 1)) := (hx.2.2.1 ((G.1 1)) c0 c1).1
  have hr : I (x + (2 + 744 * (G.1 1))) 2 = (G.1 (20 + ((G.1 1)))) - (G.1 (10 + G.1 1)) := (hx.2.2.1 ((G.1 1)) c0 c1).2
  unfold r19 at kk
  by_cases c : (G.1 (10 + G.1 1)) = 0
  · rw [if_pos c] at kk
    have hu0 : I (x + (2 + 744 * (G.1 1))) 1 = 0 := by rw [hu]; exact c
    simp (disch := first | omega | exact Nat.le_of_ble_eq_true rfl | (simp (disch := omega) only [yx_k h1, yx_0 h1, yx_4 h1, yx_5 h1, yx_6 h1, yx_7 h1, yx_8 h1, yx_9 h1, yx_10 h1, yx_k1 h1, yx_l1 h1, yx_b h1, yx_bk h1, yx_bs h1, yx_sk h1, yx_sl h1, yx_s h1, yx_e h1, yx_k9 h1, yx_l9 h1, yx_k10 h1, yx_l10 h1, hc] <;> omega)) only [w_iconst, w_bipush, w_sipush, w_ldc_s, w_ldcw_s, w_ldc_i, w_ldcw_i, w_lconst, w_fconst, w_dconst, w_iload, w_iload_n, w_aload, w_aload_n, w_dload, w_istore, w_istore_n, w_astore_r, w_astore_s, w_astore_n_r, w_astore_n_s, w_dstore, w_iinc, w_iadd, w_isub, w_imul, w_iand, w_iushr, v_idiv, v_irem, w_ineg, w_i2l, w_i2c, w_i2f, w_i2d, v_f2d, w_lcmp, w_dcmp, v_fdiv, v_ddiv, w_dup_i, w_dup_r, w_dup2, w_dup_x2, w_pop_i, w_pop_r, w_goto, w_switch, w_ret_i, v_ret_z, v_ret_c, w_ret_a, w_ret_s, w_ret_f, w_ret_d, w_ret_v, v_iaload, v_baload, v_caload, v_laload, v_aaload, v_iastore, v_bastore, v_castore, v_lastore, v_aastore, v_alen, v_newa, v_anewa, w_new, w_throw, w_dead, v_getf_i, v_getf_z, v_getf_r, v_putf_i, v_putf_z, v_putf_r, w_call0, w_call1, w_callv1, w_calli1, w_callt1, w_call2, w_callv2, w_calli2, w_callt2, w_call3, w_callv3, w_calli3, w_call4, w_callv4, w_calli4, w_call5, w_callv5, w_calli5, w_call6, w_callv6, w_calli6, w_call7, w_callv7, w_calli7, w_call8, w_callv8, w_calli8, c_if0_eq_t, c_if0_eq_f, c_if2_eq_t, c_if2_eq_f, c_if0_ne_t, c_if0_ne_f, c_if2_ne_t, c_if2_ne_f, c_if0_lt_t, c_if0_lt_f, c_if2_lt_t, c_if2_lt_f, c_if0_ge_t, c_if0_ge_f, c_if2_ge_t, c_if2_ge_f, c_if0_gt_t, c_if0_gt_f, c_if2_gt_t, c_if2_gt_f, c_if0_le_t, c_if0_le_f, c_if2_le_t, c_if2_le_f, w_nil, uI_s, uA_r, uA_s, uD_d, mPut_0, mCl_own, mCv_go, mCl_min, mCl_cpy, mCv_obj, mAct_len, mAct_chrc, mAft_v, mAft_n, mAft_x, mGet_0, mSet_0, mGet_1, mSet_1, mGet_2, mSet_2, mGet_3, mSet_3, mGet_4, mSet_4, mGet_5, mSet_5, mGet_6, mSet_6, mGet_7, mSet_7, mGet_8, mSet_8, mGet_9, mSet_9, mGet_10, mSet_10, mGet_11, mSet_11, mGet_12, mSet_12, mGet_13, mSet_13, e_RS_undo, a_RS_undo_0, bk_RS_undo_0, a_RS_undo_19, bk_RS_undo_19, yx_k h1, yx_0 h1, yx_4 h1, yx_5 h1, yx_6 h1, yx_7 h1, yx_8 h1, yx_9 h1, yx_10 h1, yx_k1 h1, yx_l1 h1, yx_b h1, yx_bk h1, yx_bs h1, yx_sk h1, yx_sl h1, yx_s h1, yx_e h1, yx_k9 h1, yx_l9 h1, yx_k10 h1, yx_l10 h1, hc, hu0]
    exact xStay h kk
  · rw [if_neg c] at kk
    have hnow : ∀ Q : mQ, mRun (D + 49) 22 [mR (x + (2 + 744 * (G.1 1)))] I S Q = Q (.inl (some (mR ((x + (4 + 744 * ((G.1 1))) + 106 * π ((G.1 1)) ((G.1 (10 + G.1 1)))))))) I S := fun Q => r_Brnow (D + 48) h1 c0 c1 hu u0 (by omega)
    have hd : ((-1 : Int) = -1 ∧ (G.1 (10 + G.1 1)) ≠ 0) ∨ ((-1 : Int) = 1 ∧ (G.1 (20 + ((G.1 1)))) ≠ (G.1 (10 + G.1 1))) := Or.inl ⟨rfl, c⟩
    simp (disch := first | omega | exact Nat.le_of_ble_eq_true rfl | (simp (disch := omega) only [yx_k h1, yx_0 h1, yx_4 h1, yx_5 h1, yx_6 h1, yx_7 h1, yx_8 h1, yx_9 h1, yx_10 h1, yx_k1 h1, yx_l1 h1, yx_b h1, yx_bk h1, yx_bs h1, yx_sk h1, yx_sl h1, yx_s h1, yx_e h1, yx_k9 h1, yx_l9 h1, yx_k10 h1, yx_l10 h1, hc] <;> omega)) only [w_iconst, w_bipush, w_sipush, w_ldc_s, w_ldcw_s, w_ldc_i, w_ldcw_i, w_lconst, w_fconst, w_dconst, w_iload, w_iload_n, w_aload, w_aload_n, w_dload, w_istore, w_istore_n, w_astore_r, w_astore_s, w_astore_n_r, w_astore_n_s, w_dstore, w_iinc, w_iadd, w_isub, w_imul, w_iand, w_iushr, v_idiv, v_irem, w_ineg, w_i2l, w_i2c, w_i2f, w_i2d, v_f2d, w_lcmp, w_dcmp, v_fdiv, v_ddiv, w_dup_i, w_dup_r, w_dup2, w_dup_x2, w_pop_i, w_pop_r, w_goto, w_switch, w_ret_i, v_ret_z, v_ret_c, w_ret_a, w_ret_s, w_ret_f, w_ret_d, w_ret_v, v_iaload, v_baload, v_caload, v_laload, v_aaload, v_iastore, v_bastore, v_castore, v_lastore, v_aastore, v_alen, v_newa, v_anewa, w_new, w_throw, w_dead, v_getf_i, v_getf_z, v_getf_r, v_putf_i, v_putf_z, v_putf_r, w_call0, w_call1, w_callv1, w_calli1, w_callt1, w_call2, w_callv2, w_calli2, w_callt2, w_call3, w_callv3, w_calli3, w_call4, w_callv4, w_calli4, w_call5, w_callv5, w_calli5, w_call6, w_callv6, w_calli6, w_call7, w_callv7, w_calli7, w_call8, w_callv8, w_calli8, c_if0_eq_t, c_if0_eq_f, c_if2_eq_t, c_if2_eq_f, c_if0_ne_t, c_if0_ne_f, c_if2_ne_t, c_if2_ne_f, c_if0_lt_t, c_if0_lt_f, c_if2_lt_t, c_if2_lt_f, c_if0_ge_t, c_if0_ge_f, c_if2_ge_t, c_if2_ge_f, c_if0_gt_t, c_if0_gt_f, c_if2_gt_t, c_if2_gt_f, c_if0_le_t, c_if0_le_f, c_if2_le_t, c_if2_le_f, w_nil, uI_s, uA_r, uA_s, uD_d, mPut_0, mCl_own, mCv_go, mCl_min, mCl_cpy, mCv_obj, mAct_len, mAct_chrc, mAft_v, mAft_n, mAft_x, mGet_0, mSet_0, mGet_1, mSet_1, mGet_2, mSet_2, mGet_3, mSet_3, mGet_4, mSet_4, mGet_5, mSet_5, mGet_6, mSet_6, mGet_7, mSet_7, mGet_8, mSet_8, mGet_9, mSet_9, mGet_10, mSet_10, mGet_11, mSet_11, mGet_12, mSet_12, mGet_13, mSet_13, e_RS_undo, a_RS_undo_0, bk_RS_undo_0, a_RS_undo_19, bk_RS_undo_19, yx_k h1, yx_0 h1, yx_4 h1, yx_5 h1, yx_6 h1, yx_7 h1, yx_8 h1, yx_9 h1, yx_10 h1, yx_k1 h1, yx_l1 h1, yx_b h1, yx_bk h1, yx_bs h1, yx_sk h1, yx_sl h1, yx_s h1, yx_e h1, yx_k9 h1, yx_l9 h1, yx_k10 h1, yx_l10 h1, hc, hu, hr, hnow, up_nk, up_eq, wr]
    refine p_endC (D + 8) (gWf_mv hg hd) (xQ_mv (d := -1) hg hx (fun a ha => by rw [up_fa ha, up_fa ha]) (by rw [up_nk (by decide), up_eq rfl rfl]; omega) (by rw [up_eq rfl rfl]; omega)) (by rw [gMv_C hg]; exact gMv_5) ?_ (fun I' hR hf => ?_)
    · rw [gMv_C hg, gMv_UC hg, show ((gMv G (-1)).1 6) = - -1 from gMv_6, show (G.1 (10 + G.1 1)) + -1 + - -1 = (G.1 (10 + G.1 1)) by omega]
    · simp (disch := first | omega | exact Nat.le_of_ble_eq_true rfl) only [w_iconst, w_bipush, w_sipush, w_ldc_s, w_ldcw_s, w_ldc_i, w_ldcw_i, w_lconst, w_fconst, w_dconst, w_iload, w_iload_n, w_aload, w_aload_n, w_dload, w_istore, w_istore_n, w_astore_r, w_astore_s, w_astore_n_r, w_astore_n_s, w_dstore, w_iinc, w_iadd, w_isub, w_imul, w_iand, w_iushr, v_idiv, v_irem, w_ineg, w_i2l, w_i2c, w_i2f, w_i2d, v_f2d, w_lcmp, w_dcmp, v_fdiv, v_ddiv, w_dup_i, w_dup_r, w_dup2, w_dup_x2, w_pop_i, w_pop_r, w_goto, w_switch, w_ret_i, v_ret_z, v_ret_c, w_ret_a, w_ret_s, w_ret_f, w_ret_d, w_ret_v, v_iaload, v_baload, v_caload, v_laload, v_aaload, v_iastore, v_bastore, v_castore, v_lastore, v_aastore, v_alen, v_newa, v_anewa, w_new, w_throw, w_dead, v_getf_i, v_getf_z, v_getf_r, v_putf_i, v_putf_z, v_putf_r, w_call0, w_call1, w_callv1, w_calli1, w_callt1, w_call2, w_callv2, w_calli2, w_callt2, w_call3, w_callv3, w_calli3, w_call4, w_callv4, w_calli4, w_call5, w_callv5, w_calli5, w_call6, w_callv6, w_calli6, w_call7, w_callv7, w_calli7, w_call8, w_callv8, w_calli8, c_if0_eq_t, c_if0_eq_f, c_if2_eq_t, c_if2_eq_f, c_if0_ne_t, c_if0_ne_f, c_if2_ne_t, c_if2_ne_f, c_if0_lt_t, c_if0_lt_f, c_if2_lt_t, c_if2_lt_f, c_if0_ge_t, c_if0_ge_f, c_if2_ge_t, c_if2_ge_f, c_if0_gt_t, c_if0_gt_f, c_if2_gt_t, c_if2_gt_f, c_if0_le_t, c_if0_le_f, c_if2_le_t, c_if2_le_f, w_nil, uI_s, uA_r, uA_s, uD_d, mPut_0, mCl_own, mCv_go, mCl_min, mCl_cpy, mCv_obj, mAct_len, mAct_chrc, mAft_v, mAft_n, mAft_x, mGet_0, mSet_0, mGet_1, mSet_1, mGet_2, mSet_2, mGet_3, mSet_3, mGet_4, mSet_4, mGet_5, mSet_5, mGet_6, mSet_6, mGet_7, mSet_7, mGet_8, mSet_8, mGet_9, mSet_9, mGet_10, mSet_10, mGet_11, mSet_11, mGet_12, mSet_12, mGet_13, mSet_13]
      exact kk I' S hR (xEnd_I (fun a ha => by rw [hf a ha, up_fa (by omega), up_fa (by omega)]))
theorem cx_20 (hg : gWf G) (h : xR S I x G) (kk : xK S I x Q (r20 G)) : mRun (D + 50) 136 [mR x] I S Q := by
  obtain ⟨π, hx, h3⟩ := id h
  obtain ⟨⟨c0, c1, c2⟩, u0, u1, u2⟩ := gJ_b hg
  have h1 := hx.1
  have hc := hx.2.1.2
  have hu : I (x + (2 + 744 * (G.1 1))) 1 = (G.1 (10 + G.1 1)) := (hx.2.2.1 ((G.1 1)) c0 c1).1
  have hr : I (x + (2 + 744 * (G.1 1))) 2 = (G.1 (20 + ((G.1 1)))) - (G.1 (10 + G.1 1)) := (hx.2.2.1 ((G.1 1)) c0 c1).2
  unfold r20 at kk
  by_cases c : (G.1 (20 + ((G.1 1)))) = (G.1 (10 + G.1 1))
  · rw [if_pos c] at kk
    have hu0 : I (x + (2 + 744 * (G.1 1))) 2 = 0 := by rw [hr]; omega
    simp (disch := first | omega | exact Nat.le_of_ble_eq_true rfl | (simp (disch := omega) only [yx_k h1, yx_0 h1, yx_4 h1, yx_5 h1, yx_6 h1, yx_7 h1, yx_8 h1, yx_9 h1, yx_10 h1, yx_k1 h1, yx_l1 h1, yx_b h1, yx_bk h1, yx_bs h1, yx_sk h1, yx_sl h1, yx_s h1, yx_e h1, yx_k9 h1, yx_l9 h1, yx_k10 h1, yx_l10 h1, hc] <;> omega)) only [w_iconst, w_bipush, w_sipush, w_ldc_s, w_ldcw_s, w_ldc_i, w_ldcw_i, w_lconst, w_fconst, w_dconst, w_iload, w_iload_n, w_aload, w_aload_n, w_dload, w_istore, w_istore_n, w_astore_r, w_astore_s, w_astore_n_r, w_astore_n_s, w_dstore, w_iinc, w_iadd, w_isub, w_imul, w_iand, w_iushr, v_idiv, v_irem, w_ineg, w_i2l, w_i2c, w_i2f, w_i2d, v_f2d, w_lcmp, w_dcmp, v_fdiv, v_ddiv, w_dup_i, w_dup_r, w_dup2, w_dup_x2, w_pop_i, w_pop_r, w_goto, w_switch, w_ret_i, v_ret_z, v_ret_c, w_ret_a, w_ret_s, w_ret_f, w_ret_d, w_ret_v, v_iaload, v_baload, v_caload, v_laload, v_aaload, v_iastore, v_bastore, v_castore, v_lastore, v_aastore, v_alen, v_newa, v_anewa, w_new, w_throw, w_dead, v_getf_i, v_getf_z, v_getf_r, v_putf_i, v_putf_z, v_putf_r, w_call0, w_call1, w_callv1, w_calli1, w_callt1, w_call2, w_callv2, w_calli2, w_callt2, w_call3, w_callv3, w_calli3, w_call4, w_callv4, w_calli4, w_call5, w_callv5, w_calli5, w_call6, w_callv6, w_calli6, w_call7, w_callv7, w_calli7, w_call8, w_callv8, w_calli8, c_if0_eq_t, c_if0_eq_f, c_if2_eq_t, c_if2_eq_f, c_if0_ne_t, c_if0_ne_f, c_if2_ne_t, c_if2_ne_f, c_if0_lt_t, c_if0_lt_f, c_if2_lt_t, c_if2_lt_f, c_if0_ge_t, c_if0_ge_f, c_if2_ge_t, c_if2_ge_f, c_if0_gt_t, c_if0_gt_f, c_if2_gt_t, c_if2_gt_f, c_if0_le_t, c_if0_le_f, c_if2_le_t, c_if2_le_f, w_nil, uI_s, uA_r, uA_s, uD_d, mPut_0, mCl_own, mCv_go, mCl_min, mCl_cpy, mCv_obj, mAct_len, mAct_chrc, mAft_v, mAft_n, mAft_x, mGet_0, mSet_0, mGet_1, mSet_1, mGet_2, mSet_2, mGet_3, mSet_3, mGet_4, mSet_4, mGet_5, mSet_5, mGet_6, mSet_6, mGet_7, mSet_7, mGet_8, mSet_8, mGet_9, mSet_9, mGet_10, mSet_10, mGet_11, mSet_11, mGet_12, mSet_12, mGet_13, mSet_13, e_RS_redo, a_RS_redo_0, bk_RS_redo_0, a_RS_redo_19, bk_RS_redo_19, yx_k h1, yx_0 h1, yx_4 h1, yx_5 h1, yx_6 h1, yx_7 h1, yx_8 h1, yx_9 h1, yx_10 h1, yx_k1 h1, yx_l1 h1, yx_b h1, yx_bk h1, yx_bs h1, yx_sk h1, yx_sl h1, yx_s h1, yx_e h1, yx_k9 h1, yx_l9 h1, yx_k10 h1, yx_l10 h1, hc, hu0]
    exact xStay h kk
  · rw [if_neg c] at kk
    have hnow : ∀ Q : mQ, mRun (D + 49) 22 [mR (x + (2 + 744 * (G.1 1)))] I S Q = Q (.inl (some (mR ((x + (4 + 744 * ((G.1 1))) + 106 * π ((G.1 1)) ((G.1 (10 + G.1 1)))))))) I S := fun Q => r_Brnow (D + 48) h1 c0 c1 hu u0 (by omega)
    have hd : ((1 : Int) = -1 ∧ (G.1 (10 + G.1 1)) ≠ 0) ∨ ((1 : Int) = 1 ∧ (G.1 (20 + ((G.1 1)))) ≠ (G.1 (10 + G.1 1))) := Or.inr ⟨rfl, c⟩
    simp (disch := first | omega | exact Nat.le_of_ble_eq_true rfl | (simp (disch := omega) only [yx_k h1, yx_0 h1, yx_4 h1, yx_5 h1, yx_6 h1, yx_7 h1, yx_8 h1, yx_9 h1, yx_10 h1, yx_k1 h1, yx_l1 h1, yx_b h1, yx_bk h1, yx_bs h1, yx_sk h1, yx_sl h1, yx_s h1, yx_e h1, yx_k9 h1, yx_l9 h1, yx_k10 h1, yx_l10 h1, hc] <;> omega)) only [w_iconst, w_bipush, w_sipush, w_ldc_s, w_ldcw_s, w_ldc_i, w_ldcw_i, w_lconst, w_fconst, w_dconst, w_iload, w_iload_n, w_aload, w_aload_n, w_dload, w_istore, w_istore_n, w_astore_r, w_astore_s, w_astore_n_r, w_astore_n_s, w_dstore, w_iinc, w_iadd, w_isub, w_imul, w_iand, w_iushr, v_idiv, v_irem, w_ineg, w_i2l, w_i2c, w_i2f, w_i2d, v_f2d, w_lcmp, w_dcmp, v_fdiv, v_ddiv, w_dup_i, w_dup_r, w_dup2, w_dup_x2, w_pop_i, w_pop_r, w_goto, w_switch, w_ret_i, v_ret_z, v_ret_c, w_ret_a, w_ret_s, w_ret_f, w_ret_d, w_ret_v, v_iaload, v_baload, v_caload, v_laload, v_aaload, v_iastore, v_bastore, v_castore, v_lastore, v_aastore, v_alen, v_newa, v_anewa, w_new, w_throw, w_dead, v_getf_i, v_getf_z, v_getf_r, v_putf_i, v_putf_z, v_putf_r, w_call0, w_call1, w_callv1, w_calli1, w_callt1, w_call2, w_callv2, w_calli2, w_callt2, w_call3, w_callv3, w_calli3, w_call4, w_callv4, w_calli4, w_call5, w_callv5, w_calli5, w_call6, w_callv6, w_calli6, w_call7, w_callv7, w_calli7, w_call8, w_callv8, w_calli8, c_if0_eq_t, c_if0_eq_f, c_if2_eq_t, c_if2_eq_f, c_if0_ne_t, c_if0_ne_f, c_if2_ne_t, c_if2_ne_f, c_if0_lt_t, c_if0_lt_f, c_if2_lt_t, c_if2_lt_f, c_if0_ge_t, c_if0_ge_f, c_if2_ge_t, c_if2_ge_f, c_if0_gt_t, c_if0_gt_f, c_if2_gt_t, c_if2_gt_f, c_if0_le_t, c_if0_le_f, c_if2_le_t, c_if2_le_f, w_nil, uI_s, uA_r, uA_s, uD_d, mPut_0, mCl_own, mCv_go, mCl_min, mCl_cpy, mCv_obj, mAct_len, mAct_chrc, mAft_v, mAft_n, mAft_x, mGet_0, mSet_0, mGet_1, mSet_1, mGet_2, mSet_2, mGet_3, mSet_3, mGet_4, mSet_4, mGet_5, mSet_5, mGet_6, mSet_6, mGet_7, mSet_7, mGet_8, mSet_8, mGet_9, mSet_9, mGet_10, mSet_10, mGet_11, mSet_11, mGet_12, mSet_12, mGet_13, mSet_13, e_RS_redo, a_RS_redo_0, bk_RS_redo_0, a_RS_redo_19, bk_RS_redo_19, yx_k h1, yx_0 h1, yx_4 h1, yx_5 h1, yx_6 h1, yx_7 h1, yx_8 h1, yx_9 h1, yx_10 h1, yx_k1 h1, yx_l1 h1, yx_b h1, yx_bk h1, yx_bs h1, yx_sk h1, yx_sl h1, yx_s h1, yx_e h1, yx_k9 h1, yx_l9 h1, yx_k10 h1, yx_l10 h1, hc, hu, hr, hnow, up_nk, up_eq, wr]
    refine p_endC (D + 8) (gWf_mv hg hd) (xQ_mv (d := 1) hg hx (fun a ha => by rw [up_fa ha, up_fa ha]) (by rw [up_nk (by decide), up_eq rfl rfl]) (by rw [up_eq rfl rfl]; omega)) (by rw [gMv_C hg]; exact gMv_5) ?_ (fun I' hR hf => ?_)
    · rw [gMv_C hg, gMv_UC hg, show ((gMv G 1).1 6) = - 1 from gMv_6, show (G.1 (10 + G.1 1)) + 1 + - 1 = (G.1 (10 + G.1 1)) by omega]
    · simp (disch := first | omega | exact Nat.le_of_ble_eq_true rfl) only [w_iconst, w_bipush, w_sipush, w_ldc_s, w_ldcw_s, w_ldc_i, w_ldcw_i, w_lconst, w_fconst, w_dconst, w_iload, w_iload_n, w_aload, w_aload_n, w_dload, w_istore, w_istore_n, w_astore_r, w_astore_s, w_astore_n_r, w_astore_n_s, w_dstore, w_iinc, w_iadd, w_isub, w_imul, w_iand, w_iushr, v_idiv, v_irem, w_ineg, w_i2l, w_i2c, w_i2f, w_i2d, v_f2d, w_lcmp, w_dcmp, v_fdiv, v_ddiv, w_dup_i, w_dup_r, w_dup2, w_dup_x2, w_pop_i, w_pop_r, w_goto, w_switch, w_ret_i, v_ret_z, v_ret_c, w_ret_a, w_ret_s, w_ret_f, w_ret_d, w_ret_v, v_iaload, v_baload, v_caload, v_laload, v_aaload, v_iastore, v_bastore, v_castore, v_lastore, v_aastore, v_alen, v_newa, v_anewa, w_new, w_throw, w_dead, v_getf_i, v_getf_z, v_getf_r, v_putf_i, v_putf_z, v_putf_r, w_call0, w_call1, w_callv1, w_calli1, w_callt1, w_call2, w_callv2, w_calli2, w_callt2, w_call3, w_callv3, w_calli3, w_call4, w_callv4, w_calli4, w_call5, w_callv5, w_calli5, w_call6, w_callv6, w_calli6, w_call7, w_callv7, w_calli7, w_call8, w_callv8, w_calli8, c_if0_eq_t, c_if0_eq_f, c_if2_eq_t, c_if2_eq_f, c_if0_ne_t, c_if0_ne_f, c_if2_ne_t, c_if2_ne_f, c_if0_lt_t, c_if0_lt_f, c_if2_lt_t, c_if2_lt_f, c_if0_ge_t, c_if0_ge_f, c_if2_ge_t, c_if2_ge_f, c_if0_gt_t, c_if0_gt_f, c_if2_gt_t, c_if2_gt_f, c_if0_le_t, c_if0_le_f, c_if2_le_t, c_if2_le_f, w_nil, uI_s, uA_r, uA_s, uD_d, mPut_0, mCl_own, mCv_go, mCl_min, mCl_cpy, mCv_obj, mAct_len, mAct_chrc, mAft_v, mAft_n, mAft_x, mGet_0, mSet_0, mGet_1, mSet_1, mGet_2, mSet_2, mGet_3, mSet_3, mGet_4, mSet_4, mGet_5, mSet_5, mGet_6, mSet_6, mGet_7, mSet_7, mGet_8, mSet_8, mGet_9, mSet_9, mGet_10, mSet_10, mGet_11, mSet_11, mGet_12, mSet_12, mGet_13, mSet_13]
      exact kk I' S hR (xEnd_I (fun a ha => by rw [hf a ha, up_fa (by omega), up_fa (by omega)]))
theorem cx_22 {a : Int} (hg : gWf G) (h : xR S I x G) (hn : x + 2369 ≤ S.2.2.2.1) (kk : xK S I x Q (r22 G a)) : mRun (D + 50) 138 [mR x, mI a] I S Q := by
  obtain ⟨π, hx, h3⟩ := id h
  have hj := gJ_b hg
  have h1 := hx.1
  have hc := hx.2.1.2
  unfold r22 at kk
  by_cases c1 : 0 ≤ a ∧ a < (G.1 0)
  · rw [if_pos c1] at kk
    have g1 : ∀ Q : mQ, mRun (D + 49) 185 [mR x, mI a] I S Q = Q (.inl none) I S := fun Q => r_nB_t (D + 46) hx c1.1 c1.2
    simp (disch := first | omega | exact Nat.le_of_ble_eq_true rfl | (simp (disch := omega) only [yx_k h1, yx_0 h1, yx_4 h1, yx_5 h1, yx_6 h1, yx_7 h1, yx_8 h1, yx_9 h1, yx_10 h1, yx_k1 h1, yx_l1 h1, yx_b h1, yx_bk h1, yx_bs h1, yx_sk h1, yx_sl h1, yx_s h1, yx_e h1, yx_k9 h1, yx_l9 h1, yx_k10 h1, yx_l10 h1] <;> omega)) only [w_iconst, w_bipush, w_sipush, w_ldc_s, w_ldcw_s, w_ldc_i, w_ldcw_i, w_lconst, w_fconst, w_dconst, w_iload, w_iload_n, w_aload, w_aload_n, w_dload, w_istore, w_istore_n, w_astore_r, w_astore_s, w_astore_n_r, w_astore_n_s, w_dstore, w_iinc, w_iadd, w_isub, w_imul, w_iand, w_iushr, v_idiv, v_irem, w_ineg, w_i2l, w_i2c, w_i2f, w_i2d, v_f2d, w_lcmp, w_dcmp, v_fdiv, v_ddiv, w_dup_i, w_dup_r, w_dup2, w_dup_x2, w_pop_i, w_pop_r, w_goto, w_switch, w_ret_i, v_ret_z, v_ret_c, w_ret_a, w_ret_s, w_ret_f, w_ret_d, w_ret_v, v_iaload, v_baload, v_caload, v_laload, v_aaload, v_iastore, v_bastore, v_castore, v_lastore, v_aastore, v_alen, v_newa, v_anewa, w_new, w_throw, w_dead, v_getf_i, v_getf_z, v_getf_r, v_putf_i, v_putf_z, v_putf_r, w_call0, w_call1, w_callv1, w_calli1, w_callt1, w_call2, w_callv2, w_calli2, w_callt2, w_call3, w_callv3, w_calli3, w_call4, w_callv4, w_calli4, w_call5, w_callv5, w_calli5, w_call6, w_callv6, w_calli6, w_call7, w_callv7, w_calli7, w_call8, w_callv8, w_calli8, c_if0_eq_t, c_if0_eq_f, c_if2_eq_t, c_if2_eq_f, c_if0_ne_t, c_if0_ne_f, c_if2_ne_t, c_if2_ne_f, c_if0_lt_t, c_if0_lt_f, c_if2_lt_t, c_if2_lt_f, c_if0_ge_t, c_if0_ge_f, c_if2_ge_t, c_if2_ge_f, c_if0_gt_t, c_if0_gt_f, c_if2_gt_t, c_if2_gt_f, c_if0_le_t, c_if0_le_f, c_if2_le_t, c_if2_le_f, w_nil, uI_s, uA_r, uA_s, uD_d, mPut_0, mCl_own, mCv_go, mCl_min, mCl_cpy, mCv_obj, mAct_len, mAct_chrc, mAft_v, mAft_n, mAft_x, mGet_0, mSet_0, mGet_1, mSet_1, mGet_2, mSet_2, mGet_3, mSet_3, mGet_4, mSet_4, mGet_5, mSet_5, mGet_6, mSet_6, mGet_7, mSet_7, mGet_8, mSet_8, mGet_9, mSet_9, mGet_10, mSet_10, mGet_11, mSet_11, mGet_12, mSet_12, mGet_13, mSet_13, e_RS_switchBranch, a_RS_switchBranch_0, bk_RS_switchBranch_0, yx_k h1, yx_0 h1, yx_4 h1, yx_5 h1, yx_6 h1, yx_7 h1, yx_8 h1, yx_9 h1, yx_10 h1, yx_k1 h1, yx_l1 h1, yx_b h1, yx_bk h1, yx_bs h1, yx_sk h1, yx_sl h1, yx_s h1, yx_e h1, yx_k9 h1, yx_l9 h1, yx_k10 h1, yx_l10 h1, g1, hc]
    obtain ⟨q1, q2, q3, q4, q5, q6, q7, q8, q9, q10, q11⟩ := id hx
    have e : ∀ b : Int, b ≠ x → mUp I x 2 a b = I b := fun b hb => up_fa hb
    have eU : ∀ k : Int, 0 ≤ k → k < 3 → ((gSet G 1 a).1 (10 + k)) = (G.1 (10 + k)) ∧ ((gSet G 1 a).1 (20 + k)) = (G.1 (20 + k)) := fun k k0 k1 => ⟨gSet_1 (by omega), gSet_1 (by omega)⟩
    have e0 : ((gSet G 1 a).1 0) = (G.1 0) := gSet_1 (by decide)
    refine kk _ S ⟨π, ⟨q1, ?_, fun k k0 k1 => ?_, fun k j k0 k1 j0 j1 => yOk_k (q4 k j k0 k1 j0 j1) (fun a a0 a1 => e a (by omega)), fun k j k0 k1 j0 j1 => ?_, yOk_k q6 (fun a a0 a1 => e a (by omega)), ?_, ?_, ?_, ?_, ?_⟩, ?_⟩ (xEnd_I (xF_up (by omega) (by omega)))
    · rw [e0, up_nk (by decide), up_eq rfl rfl]
      exact ⟨q2.1, gSet_2.symm⟩
    · rw [(eU k k0 k1).1, (eU k k0 k1).2, e _ (by omega)]; exact q3 k k0 k1
    · rw [e0] at k1
      have k3 : k < 3 := by have := hg.1.2; omega
      rw [(eU k k0 k3).2] at j1
      have j7 : j < 7 := by have := (hg.2.2.1 k k0 k3).1; omega
      have hp := yx_pi q1 k0 k3 j0 j7
      exact yS_k (hg.2.2.2.1 k j k0 k1 j0 j1).1 (q5 k j k0 k1 j0 j1) (fun a a0 a1 => e a (by omega))
    · unfold nOldQ at q7 ⊢
      rw [e _ (by omega), e (x + 2341 + 10) (by omega), e (x + 2341 + 11) (by omega)]; exact q7
    · rw [e _ (by omega)]; exact q8
    · rw [e (x + 2359) (by omega), e (x + 2360) (by omega), show ((gSet G 1 a).1 2) = (G.1 2) from gSet_1 (by decide), show ((gSet G 1 a).1 3) = (G.1 3) from gSet_1 (by decide)]; exact q9
    · rw [e (x + 2364) (by omega), e (x + 2357) (by omega), e (x + 2358) (by omega)]; exact q10
    · rw [e (x + 2365) (by omega), e (x + 2366) (by omega), show ((gSet G 1 a).1 4) = (G.1 4) from gSet_1 (by decide)]; exact q11
    · rw [up_nk (by decide), h3]
      refine (gCh_c (gSet_1 (by decide)) (gSet_1 (by decide)) ?_ (fun _ _ => rfl)).symm
      rcases hg.2.2.2.2.2.2.2 with h9 | ⟨h9, -⟩
      · exact gSet_1 (by omega)
      · exact gSet_1 (by omega)
  · rw [if_neg c1] at kk
    have g1 : ∀ Q : mQ, mRun (D + 49) 185 [mR x, mI a] I S Q = Q (.inr 2) (mNewN I S) (mNewH S 0 6) := fun Q => r_nB_f (D + 46) hx (by omega)
    simp (disch := first | omega | exact Nat.le_of_ble_eq_true rfl | (simp (disch := omega) only [yx_k h1, yx_0 h1, yx_4 h1, yx_5 h1, yx_6 h1, yx_7 h1, yx_8 h1, yx_9 h1, yx_10 h1, yx_k1 h1, yx_l1 h1, yx_b h1, yx_bk h1, yx_bs h1, yx_sk h1, yx_sl h1, yx_s h1, yx_e h1, yx_k9 h1, yx_l9 h1, yx_k10 h1, yx_l10 h1] <;> omega)) only [w_iconst, w_bipush, w_sipush, w_ldc_s, w_ldcw_s, w_ldc_i, w_ldcw_i, w_lconst, w_fconst, w_dconst, w_iload, w_iload_n, w_aload, w_aload_n, w_dload, w_istore, w_istore_n, w_astore_r, w_astore_s, w_astore_n_r, w_astore_n_s, w_dstore, w_iinc, w_iadd, w_isub, w_imul, w_iand, w_iushr, v_idiv, v_irem, w_ineg, w_i2l, w_i2c, w_i2f, w_i2d, v_f2d, w_lcmp, w_dcmp, v_fdiv, v_ddiv, w_dup_i, w_dup_r, w_dup2, w_dup_x2, w_pop_i, w_pop_r, w_goto, w_switch, w_ret_i, v_ret_z, v_ret_c, w_ret_a, w_ret_s, w_ret_f, w_ret_d, w_ret_v, v_iaload, v_baload, v_caload, v_laload, v_aaload, v_iastore, v_bastore, v_castore, v_lastore, v_aastore, v_alen, v_newa, v_anewa, w_new, w_throw, w_dead, v_getf_i, v_getf_z, v_getf_r, v_putf_i, v_putf_z, v_putf_r, w_call0, w_call1, w_callv1, w_calli1, w_callt1, w_call2, w_callv2, w_calli2, w_callt2, w_call3, w_callv3, w_calli3, w_call4, w_callv4, w_calli4, w_call5, w_callv5, w_calli5, w_call6, w_callv6, w_calli6, w_call7, w_callv7, w_calli7, w_call8, w_callv8, w_calli8, c_if0_eq_t, c_if0_eq_f, c_if2_eq_t, c_if2_eq_f, c_if0_ne_t, c_if0_ne_f, c_if2_ne_t, c_if2_ne_f, c_if0_lt_t, c_if0_lt_f, c_if2_lt_t, c_if2_lt_f, c_if0_ge_t, c_if0_ge_f, c_if2_ge_t, c_if2_ge_f, c_if0_gt_t, c_if0_gt_f, c_if2_gt_t, c_if2_gt_f, c_if0_le_t, c_if0_le_f, c_if2_le_t, c_if2_le_f, w_nil, uI_s, uA_r, uA_s, uD_d, mPut_0, mCl_own, mCv_go, mCl_min, mCl_cpy, mCv_obj, mAct_len, mAct_chrc, mAft_v, mAft_n, mAft_x, mGet_0, mSet_0, mGet_1, mSet_1, mGet_2, mSet_2, mGet_3, mSet_3, mGet_4, mSet_4, mGet_5, mSet_5, mGet_6, mSet_6, mGet_7, mSet_7, mGet_8, mSet_8, mGet_9, mSet_9, mGet_10, mSet_10, mGet_11, mSet_11, mGet_12, mSet_12, mGet_13, mSet_13, e_RS_switchBranch, a_RS_switchBranch_0, bk_RS_switchBranch_0, yx_k h1, yx_0 h1, yx_4 h1, yx_5 h1, yx_6 h1, yx_7 h1, yx_8 h1, yx_9 h1, yx_10 h1, yx_k1 h1, yx_l1 h1, yx_b h1, yx_bk h1, yx_bs h1, yx_sk h1, yx_sl h1, yx_s h1, yx_e h1, yx_k9 h1, yx_l9 h1, yx_k10 h1, yx_l10 h1, g1]
    exact xThrow hg h hn (xF_r I x) kk
theorem gWf_22 {a : Int} (hg : gWf G) (a0 : 0 ≤ a) (a1 : a < (G.1 0)) : gWf (gSet G 1 a) := by
  obtain ⟨g1, g2, g3, g4, g5, g6, g7, g8⟩ := id hg
  have e : ∀ j : Int, j ≠ 1 → (gSet G 1 a).1 j = G.1 j := fun j hj => gSet_1 hj
  have e0 : ((gSet G 1 a).1 0) = (G.1 0) := e 0 (by decide)
  refine ⟨by rw [e0]; exact g1, by rw [e0, show ((gSet G 1 a).1 1) = a from gSet_2]; exact ⟨a0, a1⟩, fun k k0 k1 => ?_, fun k j k0 k1 j0 j1 => ?_, ?_, g6, ?_, ?_⟩
  · rw [show ((gSet G 1 a).1 (10 + k)) = (G.1 (10 + k)) from e _ (by omega), show ((gSet G 1 a).1 (20 + k)) = (G.1 (20 + k)) from e _ (by omega), e0]; exact g3 k k0 k1
  · rw [e0] at k1
    rw [show ((gSet G 1 a).1 (20 + k)) = (G.1 (20 + k)) from e _ (by omega)] at j1
    exact g4 k j k0 k1 j0 j1
  · rw [show ((gSet G 1 a).1 2) = (G.1 2) from e 2 (by decide)]; exact g5
  · rw [show ((gSet G 1 a).1 4) = (G.1 4) from e 4 (by decide)]; exact g7
  · rw [e0, show ((gSet G 1 a).1 5) = (G.1 5) from e 5 (by decide), show ((gSet G 1 a).1 6) = (G.1 6) from e 6 (by decide)]
    rcases g8 with g8 | ⟨g8, g9⟩
    · exact Or.inl g8
    · rw [show ((gSet G 1 a).1 (10 + ((G.1 5)))) = (G.1 (10 + ((G.1 5)))) from e _ (by omega), show ((gSet G 1 a).1 (20 + ((G.1 5)))) = (G.1 (20 + ((G.1 5)))) from e _ (by omega)]
      exact Or.inr ⟨g8, g9⟩
theorem gBr_1 {i : Int} (h : i ≠ 0) : (gBr G).1 i = G.1 i := zU_ne h
theorem gBr_N : ((gBr G).1 0) = (G.1 0) + 1 := by
  show zU G.1 0 ((G.1 0) + 1) 0 = _
  exact zU_eq rfl
theorem gBr_S {k j : Int} (h : k ≠ (G.1 0)) : ((gBr G).2.1 k j) = (G.2.1 k j) := by
  show (if k = (G.1 0) ∧ j = 0 then (G.2.1 (G.1 1) (G.1 (10 + G.1 1))) else (G.2.1 k j)) = _
  exact if_neg (fun h9 => h h9.1)
theorem gBr_0 {k j : Int} (h : k = (G.1 0)) (hj : j = 0) : ((gBr G).2.1 k j) = (G.2.1 (G.1 1) (G.1 (10 + G.1 1))) := by
  show (if k = (G.1 0) ∧ j = 0 then (G.2.1 (G.1 1) (G.1 (10 + G.1 1))) else G.2.1 k j) = _
  exact if_pos ⟨h, hj⟩
theorem gWf_br (hg : gWf G) (hn : (G.1 0) < 3) : gWf (gBr G) := by
  obtain ⟨g1, g2, g3, g4, g5, g6, g7, g8⟩ := id hg
  have e : ∀ j : Int, j ≠ 0 → (gBr G).1 j = G.1 j := fun j hj => gBr_1 hj
  have hw := gO_w hg
  have gE0 := (g3 ((G.1 0)) (by omega) hn).2 (Int.le_refl _)
  refine ⟨by rw [gBr_N]; omega, by rw [gBr_N, show ((gBr G).1 1) = (G.1 1) from e 1 (by decide)]; omega, fun k k0 k1 => ?_, fun k j k0 k1 j0 j1 => ?_, ?_, g6, ?_, ?_⟩
  · rw [show ((gBr G).1 (10 + k)) = (G.1 (10 + k)) from e _ (by omega), show ((gBr G).1 (20 + k)) = (G.1 (20 + k)) from e _ (by omega), gBr_N]
    exact ⟨(g3 k k0 k1).1, fun h9 => (g3 k k0 k1).2 (by omega)⟩
  · rw [gBr_N] at k1
    rw [show ((gBr G).1 (20 + k)) = (G.1 (20 + k)) from e _ (by omega)] at j1
    by_cases c : k = (G.1 0)
    · rw [c, gE0] at j1
      rw [gBr_0 c (by omega)]; exact hw
    · rw [gBr_S c]; exact g4 k j k0 (by omega) j0 j1
  · rw [show ((gBr G).1 2) = (G.1 2) from e 2 (by decide)]; exact g5
  · rw [show ((gBr G).1 4) = (G.1 4) from e 4 (by decide)]; exact g7
  · rw [gBr_N, show ((gBr G).1 5) = (G.1 5) from e 5 (by decide), show ((gBr G).1 6) = (G.1 6) from e 6 (by decide)]
    rcases g8 with g8 | ⟨g8, g9⟩
    · exact Or.inl g8
    · rw [show ((gBr G).1 (10 + ((G.1 5)))) = (G.1 (10 + ((G.1 5)))) from e _ (by omega), show ((gBr G).1 (20 + ((G.1 5)))) = (G.1 (20 + ((G.1 5)))) from e _ (by omega)]
      exact Or.inr ⟨by omega, g9⟩
theorem gBr_O (hg : gWf G) : ((gBr G).2.1 ((gBr G).1 1) ((gBr G).1 (10 + (gBr G).1 1))) = (G.2.1 (G.1 1) (G.1 (10 + G.1 1))) := by
  have hj := (gJ_b hg).1
  have e1 : ((gBr G).1 1) = (G.1 1) := gBr_1 (by decide)
  show ((gBr G).2.1 (((gBr G).1 1)) ((gBr G).1 (10 + ((gBr G).1 1)))) = _
  rw [e1, gBr_1 (by omega), gBr_S (by omega)]
theorem cx_21 (hg : gWf G) (h : xR S I x G) (hn : x + 2369 ≤ S.2.2.2.1) (kk : xK S I x Q (r21 G)) : mRun (D + 50) 137 [mR x] I S Q := by
  obtain ⟨π, hx, h3⟩ := id h
  obtain ⟨⟨c0, c1, c2⟩, u0, u1, u2⟩ := gJ_b hg
  have h1 := hx.1
  have hN := hx.2.1.1
  unfold r21 at kk
  by_cases c : (G.1 0) < 3
  · rw [if_pos c] at kk
    have g1 := hg.1.1
    have gE0 := (hg.2.2.1 ((G.1 0)) (by omega) c)
    have gE1 := gE0.2 (Int.le_refl _)
    have hu0 : I (x + (2 + 744 * (G.1 0))) 1 = 0 := by rw [(hx.2.2.1 ((G.1 0)) (by omega) c).1]; omega
    have hbr : ∀ Q : mQ, mRun (D + 49) 22 [mR (x + (2 + 744 * (G.1 0)))] I S Q = Q (.inl (some (mR ((x + (4 + 744 * ((G.1 0))) + 106 * π ((G.1 0)) 0))))) I S := fun Q => r_Brnow (D + 48) h1 (by omega) c hu0 (by decide) (by decide)
    have hnow : ∀ Q : mQ, mRun (D + 49) 173 [mR x] I S Q = Q (.inl (some (mR ((x + (4 + 744 * ((G.1 1))) + 106 * π ((G.1 1)) ((G.1 (10 + G.1 1)))))))) I S := fun Q => r_now (D + 47) hg hx
    obtain ⟨hB1, ho1, b10, b11⟩ := xQ_ok hg hx (show 0 ≤ (G.1 0) by omega) c (show (0 : Int) ≤ 0 by decide) (by decide)
    obtain ⟨hB2, ho2, b20, b21⟩ := xQ_ok hg hx c0 c1 u0 (show (G.1 (10 + G.1 1)) < 7 by omega)
    simp (disch := first | omega | exact Nat.le_of_ble_eq_true rfl | (simp (disch := omega) only [yx_k h1, yx_0 h1, yx_4 h1, yx_5 h1, yx_6 h1, yx_7 h1, yx_8 h1, yx_9 h1, yx_10 h1, yx_k1 h1, yx_l1 h1, yx_b h1, yx_bk h1, yx_bs h1, yx_sk h1, yx_sl h1, yx_s h1, yx_e h1, yx_k9 h1, yx_l9 h1, yx_k10 h1, yx_l10 h1, yb_k hB1] <;> omega)) only [w_iconst, w_bipush, w_sipush, w_ldc_s, w_ldcw_s, w_ldc_i, w_ldcw_i, w_lconst, w_fconst, w_dconst, w_iload, w_iload_n, w_aload, w_aload_n, w_dload, w_istore, w_istore_n, w_astore_r, w_astore_s, w_astore_n_r, w_astore_n_s, w_dstore, w_iinc, w_iadd, w_isub, w_imul, w_iand, w_iushr, v_idiv, v_irem, w_ineg, w_i2l, w_i2c, w_i2f, w_i2d, v_f2d, w_lcmp, w_dcmp, v_fdiv, v_ddiv, w_dup_i, w_dup_r, w_dup2, w_dup_x2, w_pop_i, w_pop_r, w_goto, w_switch, w_ret_i, v_ret_z, v_ret_c, w_ret_a, w_ret_s, w_ret_f, w_ret_d, w_ret_v, v_iaload, v_baload, v_caload, v_laload, v_aaload, v_iastore, v_bastore, v_castore, v_lastore, v_aastore, v_alen, v_newa, v_anewa, w_new, w_throw, w_dead, v_getf_i, v_getf_z, v_getf_r, v_putf_i, v_putf_z, v_putf_r, w_call0, w_call1, w_callv1, w_calli1, w_callt1, w_call2, w_callv2, w_calli2, w_callt2, w_call3, w_callv3, w_calli3, w_call4, w_callv4, w_calli4, w_call5, w_callv5, w_calli5, w_call6, w_callv6, w_calli6, w_call7, w_callv7, w_calli7, w_call8, w_callv8, w_calli8, c_if0_eq_t, c_if0_eq_f, c_if2_eq_t, c_if2_eq_f, c_if0_ne_t, c_if0_ne_f, c_if2_ne_t, c_if2_ne_f, c_if0_lt_t, c_if0_lt_f, c_if2_lt_t, c_if2_lt_f, c_if0_ge_t, c_if0_ge_f, c_if2_ge_t, c_if2_ge_f, c_if0_gt_t, c_if0_gt_f, c_if2_gt_t, c_if2_gt_f, c_if0_le_t, c_if0_le_f, c_if2_le_t, c_if2_le_f, w_nil, uI_s, uA_r, uA_s, uD_d, mPut_0, mCl_own, mCv_go, mCl_min, mCl_cpy, mCv_obj, mAct_len, mAct_chrc, mAft_v, mAft_n, mAft_x, mGet_0, mSet_0, mGet_1, mSet_1, mGet_2, mSet_2, mGet_3, mSet_3, mGet_4, mSet_4, mGet_5, mSet_5, mGet_6, mSet_6, mGet_7, mSet_7, mGet_8, mSet_8, mGet_9, mSet_9, mGet_10, mSet_10, mGet_11, mSet_11, mGet_12, mSet_12, mGet_13, mSet_13, e_RS_createBranch, a_RS_createBranch_0, bk_RS_createBranch_0, a_RS_createBranch_19, bk_RS_createBranch_19, yx_k h1, yx_0 h1, yx_4 h1, yx_5 h1, yx_6 h1, yx_7 h1, yx_8 h1, yx_9 h1, yx_10 h1, yx_k1 h1, yx_l1 h1, yx_b h1, yx_bk h1, yx_bs h1, yx_sk h1, yx_sl h1, yx_s h1, yx_e h1, yx_k9 h1, yx_l9 h1, yx_k10 h1, yx_l10 h1, hN, hbr, hnow, yb_k hB1]
    refine p_Ba_copy (D + 46) hB1 hB2 (by omega) ho2 (fun I1 hc => ?_)
    have hf := hc.1.1.1
    have hs1 := yS_cp (gO_w hg).1 (hx.2.2.2.2.1 ((G.1 1)) ((G.1 (10 + G.1 1))) c0 c2 u0 u1) hc
    have hok1 := yOk_cp (by omega) ho2 ho1 hc
    have ix : I1 x = I x := hf x (by omega)
    have ix1 : I1 x 1 = (G.1 0) := by rw [ix]; exact hN
    simp (disch := first | omega | exact Nat.le_of_ble_eq_true rfl | (simp (disch := omega) only [yx_k h1, yx_0 h1, yx_4 h1, yx_5 h1, yx_6 h1, yx_7 h1, yx_8 h1, yx_9 h1, yx_10 h1, yx_k1 h1, yx_l1 h1, yx_b h1, yx_bk h1, yx_bs h1, yx_sk h1, yx_sl h1, yx_s h1, yx_e h1, yx_k9 h1, yx_l9 h1, yx_k10 h1, yx_l10 h1] <;> omega)) only [w_iconst, w_bipush, w_sipush, w_ldc_s, w_ldcw_s, w_ldc_i, w_ldcw_i, w_lconst, w_fconst, w_dconst, w_iload, w_iload_n, w_aload, w_aload_n, w_dload, w_istore, w_istore_n, w_astore_r, w_astore_s, w_astore_n_r, w_astore_n_s, w_dstore, w_iinc, w_iadd, w_isub, w_imul, w_iand, w_iushr, v_idiv, v_irem, w_ineg, w_i2l, w_i2c, w_i2f, w_i2d, v_f2d, w_lcmp, w_dcmp, v_fdiv, v_ddiv, w_dup_i, w_dup_r, w_dup2, w_dup_x2, w_pop_i, w_pop_r, w_goto, w_switch, w_ret_i, v_ret_z, v_ret_c, w_ret_a, w_ret_s, w_ret_f, w_ret_d, w_ret_v, v_iaload, v_baload, v_caload, v_laload, v_aaload, v_iastore, v_bastore, v_castore, v_lastore, v_aastore, v_alen, v_newa, v_anewa, w_new, w_throw, w_dead, v_getf_i, v_getf_z, v_getf_r, v_putf_i, v_putf_z, v_putf_r, w_call0, w_call1, w_callv1, w_calli1, w_callt1, w_call2, w_callv2, w_calli2, w_callt2, w_call3, w_callv3, w_calli3, w_call4, w_callv4, w_calli4, w_call5, w_callv5, w_calli5, w_call6, w_callv6, w_calli6, w_call7, w_callv7, w_calli7, w_call8, w_callv8, w_calli8, c_if0_eq_t, c_if0_eq_f, c_if2_eq_t, c_if2_eq_f, c_if0_ne_t, c_if0_ne_f, c_if2_ne_t, c_if2_ne_f, c_if0_lt_t, c_if0_lt_f, c_if2_lt_t, c_if2_lt_f, c_if0_ge_t, c_if0_ge_f, c_if2_ge_t, c_if2_ge_f, c_if0_gt_t, c_if0_gt_f, c_if2_gt_t, c_if2_gt_f, c_if0_le_t, c_if0_le_f, c_if2_le_t, c_if2_le_f, w_nil, uI_s, uA_r, uA_s, uD_d, mPut_0, mCl_own, mCv_go, mCl_min, mCl_cpy, mCv_obj, mAct_len, mAct_chrc, mAft_v, mAft_n, mAft_x, mGet_0, mSet_0, mGet_1, mSet_1, mGet_2, mSet_2, mGet_3, mSet_3, mGet_4, mSet_4, mGet_5, mSet_5, mGet_6, mSet_6, mGet_7, mSet_7, mGet_8, mSet_8, mGet_9, mSet_9, mGet_10, mSet_10, mGet_11, mSet_11, mGet_12, mSet_12, mGet_13, mSet_13, yx_k h1, yx_0 h1, yx_4 h1, yx_5 h1, yx_6 h1, yx_7 h1, yx_8 h1, yx_9 h1, yx_10 h1, yx_k1 h1, yx_l1 h1, yx_b h1, yx_bk h1, yx_bs h1, yx_sk h1, yx_sl h1, yx_s h1, yx_e h1, yx_k9 h1, yx_l9 h1, yx_k10 h1, yx_l10 h1, ix1, up_eq, up_nk, wr]
    rw [show (G.1 0) + 1 - 1 = (G.1 0) by omega]
    obtain ⟨q1, q2, q3, q4, q5, q6, q7, q8, q9, q10, q11⟩ := id hx
    have e : ∀ a : Int, a ≠ x → (a < (x + (4 + 744 * ((G.1 0))) + 106 * π ((G.1 0)) 0) ∨ (x + (4 + 744 * ((G.1 0))) + 106 * π ((G.1 0)) 0) + 106 ≤ a) → mUp I1 x 1 ((G.1 0) + 1) a = I a := fun a a1 a2 => by rw [up_fa a1]; exact hf a a2
    have eb : ∀ j : Int, j ≠ 0 → (gBr G).1 j = G.1 j := fun j hj => gBr_1 hj
    have hp0 := yx_pi q1 (show 0 ≤ (G.1 0) by omega) c (show (0 : Int) ≤ 0 by decide) (by decide)
    refine kk _ S ⟨π, ⟨q1, ?_, fun k k0 k1 => ?_, fun k j k0 k1 j0 j1 => ?_, fun k j k0 k1 j0 j1 => ?_, yOk_k q6 (fun a a0 a1 => e a (by omega) (by omega)), ?_, ?_, ?_, ?_, ?_⟩, ?_⟩ (xEnd_I (fun a ha => e a (by omega) (by omega)))
    · rw [gBr_N, show ((gBr G).1 1) = (G.1 1) from eb 1 (by decide), up_eq rfl rfl, up_nk (by decide), ix]
      exact ⟨rfl, q2.2⟩
    · rw [show ((gBr G).1 (10 + k)) = (G.1 (10 + k)) from eb _ (by omega), show ((gBr G).1 (20 + k)) = (G.1 (20 + k)) from eb _ (by omega), e _ (by omega) (by first | omega | exact xSep1 (by omega) (by omega))]; exact q3 k k0 k1
    · by_cases cc : k = (G.1 0) ∧ j = π ((G.1 0)) 0
      · rw [cc.1, cc.2]
        exact yOk_k hok1 (fun a a0 a1 => up_fa (by omega))
      · exact yOk_k (q4 k j k0 k1 j0 j1) (fun a a0 a1 => e a (by omega) (by first | omega | exact xSep2 a0 a1 (by omega) (by omega) (by omega) (by omega) (by omega)))
    · rw [gBr_N] at k1
      rw [show ((gBr G).1 (20 + k)) = (G.1 (20 + k)) from eb _ (by omega)] at j1
      by_cases ck : k = (G.1 0)
      · have hj0 : j = 0 := by rw [ck, gE1] at j1; omega
        rw [gBr_0 ck hj0, ck, hj0]
        exact yS_k (gO_w hg).1 hs1 (fun a a0 a1 => up_fa (by omega))
      · rw [gBr_S ck]
        have j7 : j < 7 := by have := (hg.2.2.1 k k0 (by omega)).1; omega
        have hp := yx_pi q1 k0 (show k < 3 by omega) j0 j7
        exact yS_k (hg.2.2.2.1 k j k0 (by omega) j0 j1).1 (q5 k j k0 (by omega) j0 j1) (fun a a0 a1 => e a (by omega) (by first | omega | exact xSep2 a0 a1 (by omega) (by omega) (by omega) (by omega) (by omega)))
    · unfold nOldQ at q7 ⊢
      rw [e _ (by omega) (by omega), e (x + 2341 + 10) (by omega) (by omega), e (x + 2341 + 11) (by omega) (by omega)]; exact q7
    · rw [e _ (by omega) (by omega)]; exact q8
    · rw [e (x + 2359) (by omega) (by omega), e (x + 2360) (by omega) (by omega), show ((gBr G).1 2) = (G.1 2) from eb 2 (by decide), show ((gBr G).1 3) = (G.1 3) from eb 3 (by decide)]; exact q9
    · rw [e (x + 2364) (by omega) (by omega), e (x + 2357) (by omega) (by omega), e (x + 2358) (by omega) (by omega)]; exact q10
    · rw [e (x + 2365) (by omega) (by omega), e (x + 2366) (by omega) (by omega), show ((gBr G).1 4) = (G.1 4) from eb 4 (by decide)]; exact q11
    · rw [up_nk (by decide), ix, h3]
      unfold gCh
      rw [show ((gBr G).1 5) = (G.1 5) from eb 5 (by decide), show ((gBr G).1 6) = (G.1 6) from eb 6 (by decide)]
      rcases hg.2.2.2.2.2.2.2 with h9 | ⟨h9, -⟩
      · rw [if_pos h9, if_pos h9]
      · rw [if_neg (by omega), if_neg (by omega), show ((gBr G).1 (10 + ((G.1 5)))) = (G.1 (10 + ((G.1 5)))) from eb _ (by omega), gBr_S (by omega), gBr_S (by omega)]
  · rw [if_neg c] at kk
    simp (disch := first | omega | exact Nat.le_of_ble_eq_true rfl | (simp (disch := omega) only [yx_k h1, yx_0 h1, yx_4 h1, yx_5 h1, yx_6 h1, yx_7 h1, yx_8 h1, yx_9 h1, yx_10 h1, yx_k1 h1, yx_l1 h1, yx_b h1, yx_bk h1, yx_bs h1, yx_sk h1, yx_sl h1, yx_s h1, yx_e h1, yx_k9 h1, yx_l9 h1, yx_k10 h1, yx_l10 h1] <;> omega)) only [w_iconst, w_bipush, w_sipush, w_ldc_s, w_ldcw_s, w_ldc_i, w_ldcw_i, w_lconst, w_fconst, w_dconst, w_iload, w_iload_n, w_aload, w_aload_n, w_dload, w_istore, w_istore_n, w_astore_r, w_astore_s, w_astore_n_r, w_astore_n_s, w_dstore, w_iinc, w_iadd, w_isub, w_imul, w_iand, w_iushr, v_idiv, v_irem, w_ineg, w_i2l, w_i2c, w_i2f, w_i2d, v_f2d, w_lcmp, w_dcmp, v_fdiv, v_ddiv, w_dup_i, w_dup_r, w_dup2, w_dup_x2, w_pop_i, w_pop_r, w_goto, w_switch, w_ret_i, v_ret_z, v_ret_c, w_ret_a, w_ret_s, w_ret_f, w_ret_d, w_ret_v, v_iaload, v_baload, v_caload, v_laload, v_aaload, v_iastore, v_bastore, v_castore, v_lastore, v_aastore, v_alen, v_newa, v_anewa, w_new, w_throw, w_dead, v_getf_i, v_getf_z, v_getf_r, v_putf_i, v_putf_z, v_putf_r, w_call0, w_call1, w_callv1, w_calli1, w_callt1, w_call2, w_callv2, w_calli2, w_callt2, w_call3, w_callv3, w_calli3, w_call4, w_callv4, w_calli4, w_call5, w_callv5, w_calli5, w_call6, w_callv6, w_calli6, w_call7, w_callv7, w_calli7, w_call8, w_callv8, w_calli8, c_if0_eq_t, c_if0_eq_f, c_if2_eq_t, c_if2_eq_f, c_if0_ne_t, c_if0_ne_f, c_if2_ne_t, c_if2_ne_f, c_if0_lt_t, c_if0_lt_f, c_if2_lt_t, c_if2_lt_f, c_if0_ge_t, c_if0_ge_f, c_if2_ge_t, c_if2_ge_f, c_if0_gt_t, c_if0_gt_f, c_if2_gt_t, c_if2_gt_f, c_if0_le_t, c_if0_le_f, c_if2_le_t, c_if2_le_f, w_nil, uI_s, uA_r, uA_s, uD_d, mPut_0, mCl_own, mCv_go, mCl_min, mCl_cpy, mCv_obj, mAct_len, mAct_chrc, mAft_v, mAft_n, mAft_x, mGet_0, mSet_0, mGet_1, mSet_1, mGet_2, mSet_2, mGet_3, mSet_3, mGet_4, mSet_4, mGet_5, mSet_5, mGet_6, mSet_6, mGet_7, mSet_7, mGet_8, mSet_8, mGet_9, mSet_9, mGet_10, mSet_10, mGet_11, mSet_11, mGet_12, mSet_12, mGet_13, mSet_13, e_RS_createBranch, a_RS_createBranch_0, bk_RS_createBranch_0, a_RS_createBranch_19, bk_RS_createBranch_19, yx_k h1, yx_0 h1, yx_4 h1, yx_5 h1, yx_6 h1, yx_7 h1, yx_8 h1, yx_9 h1, yx_10 h1, yx_k1 h1, yx_l1 h1, yx_b h1, yx_bk h1, yx_bs h1, yx_sk h1, yx_sl h1, yx_s h1, yx_e h1, yx_k9 h1, yx_l9 h1, yx_k10 h1, yx_l10 h1, hN]
    exact xThrow hg h hn (xF_r I x) kk
end XV
