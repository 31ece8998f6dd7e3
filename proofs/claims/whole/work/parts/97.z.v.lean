/-! Branches, by the model. -/
section VV
variable {S : mH} {I : mN} {x m z : Int} {G : gT} {Q : mQ} (D : Nat)
theorem cm_21 (hg : gWf G) (h : oR (mSx S m z) I m G) (kk : oK S I m Q [0] (r21 G)) : mRun (D + 50) 258 [mR m] I (mSx S m z) Q := by
  obtain ⟨⟨c0, c1, c2⟩, u0, u1, u2⟩ := gJ_b hg
  have hmz := h.1
  have h26 := h.2.2.2.2.1.1
  have g1 := hg.1.1
  unfold r21 at kk
  by_cases c : (G.1 0) < 3
  · rw [if_pos c] at kk
    have gE1 := (hg.2.2.1 ((G.1 0)) (by omega) c).2 (Int.le_refl _)
    have hft : ∀ (I : mN) (Q : mQ), mRun (D + 49) 196 [mR m, mI 1] I (mSx S m z) Q = Q (.inl (some (mI 1))) (mUp I m 1 0) (mSx S m z) := fun I Q => by rw [r_fits (D + 48) hmz (Or.inr rfl), if_pos rfl]
    obtain ⟨kp, hkd⟩ : ∃ kp : mN → mN, ∀ I, kp I = mUa I (m + 22) (fun t => if 1395 * (7 * (G.1 0) + 0) ≤ t ∧ t < 1395 * (7 * (G.1 0) + 0) + 1395 then I (m + 1) (t - 1395 * (7 * (G.1 0) + 0)) else I (m + 22) t) := ⟨_, fun _ => rfl⟩
    have hkp : ∀ (I : mN) (Q : mQ), mRun (D + 49) 252 [mR m, mI ((G.1 0)), mI 0] I (mSx S m z) Q = Q (.inl none) (kp I) (mSx S m z) := fun I Q => by rw [hkd]; exact r_keep (D + 47) hmz (by omega) c (by decide) (by decide) I
    have hkm : ∀ I : mN, kp I m = I m := fun I => by rw [hkd, ua_ne (by omega)]
    simp (disch := first | omega | exact Nat.le_of_ble_eq_true rfl | (simp (disch := omega) only [ym_k hmz, ym_24 hmz, ym_k24 hmz, ym_l24 hmz, ym_25 hmz, ym_k25 hmz, ym_l25 hmz, h26, up_fa, up_nk, hkm] <;> omega)) only [w_iconst, w_bipush, w_sipush, w_ldc_s, w_ldcw_s, w_ldc_i, w_ldcw_i, w_lconst, w_fconst, w_dconst, w_iload, w_iload_n, w_aload, w_aload_n, w_dload, w_istore, w_istore_n, w_astore_r, w_astore_s, w_astore_n_r, w_astore_n_s, w_dstore, w_iinc, w_iadd, w_isub, w_imul, w_iand, w_iushr, v_idiv, v_irem, w_ineg, w_i2l, w_i2c, w_i2f, w_i2d, v_f2d, w_lcmp, w_dcmp, v_fdiv, v_ddiv, w_dup_i, w_dup_r, w_dup2, w_dup_x2, w_pop_i, w_pop_r, w_goto, w_switch, w_ret_i, v_ret_z, v_ret_c, w_ret_a, w_ret_s, w_ret_f, w_ret_d, w_ret_v, v_iaload, v_baload, v_caload, v_laload, v_aaload, v_iastore, v_bastore, v_castore, v_lastore, v_aastore, v_alen, v_newa, v_anewa, w_new, w_throw, w_dead, v_getf_i, v_getf_z, v_getf_r, v_putf_i, v_putf_z, v_putf_r, w_call0, w_call1, w_callv1, w_calli1, w_callt1, w_call2, w_callv2, w_calli2, w_callt2, w_call3, w_callv3, w_calli3, w_call4, w_callv4, w_calli4, w_call5, w_callv5, w_calli5, w_call6, w_callv6, w_calli6, w_call7, w_callv7, w_calli7, w_call8, w_callv8, w_calli8, c_if0_eq_t, c_if0_eq_f, c_if2_eq_t, c_if2_eq_f, c_if0_ne_t, c_if0_ne_f, c_if2_ne_t, c_if2_ne_f, c_if0_lt_t, c_if0_lt_f, c_if2_lt_t, c_if2_lt_f, c_if0_ge_t, c_if0_ge_f, c_if2_ge_t, c_if2_ge_f, c_if0_gt_t, c_if0_gt_f, c_if2_gt_t, c_if2_gt_f, c_if0_le_t, c_if0_le_f, c_if2_le_t, c_if2_le_f, w_nil, uI_s, uA_r, uA_s, uD_d, mPut_0, mCl_own, mCv_go, mCl_min, mCl_cpy, mCv_obj, mAct_len, mAct_chrc, mAft_v, mAft_n, mAft_x, mGet_0, mSet_0, mGet_1, mSet_1, mGet_2, mSet_2, mGet_3, mSet_3, mGet_4, mSet_4, mGet_5, mSet_5, mGet_6, mSet_6, mGet_7, mSet_7, mGet_8, mSet_8, mGet_9, mSet_9, mGet_10, mSet_10, mGet_11, mSet_11, mGet_12, mSet_12, mGet_13, mSet_13, e_Mo_createBranch, a_Mo_createBranch_0, bk_Mo_createBranch_0, a_Mo_createBranch_13, bk_Mo_createBranch_13, a_Mo_createBranch_14, bk_Mo_createBranch_14, a_Mo_createBranch_22, bk_Mo_createBranch_22, ym_k hmz, ym_24 hmz, ym_k24 hmz, ym_l24 hmz, ym_25 hmz, ym_k25 hmz, ym_l25 hmz, h26, up_fa, up_nk, up_eq, hft, hkp, hkm, wr]
    rw [show (G.1 0) + 1 - 1 = (G.1 0) by omega]
    generalize hI1 : mUp (mUp (mUp I m 1 0) (m + 23) ((G.1 0)) 0) (m + 24) ((G.1 0)) 0 = I1
    have e : ∀ a : Int, a ≠ m → a ≠ m + 23 → a ≠ m + 24 → I1 a = I a := fun a a1 a2 a3 => by rw [← hI1, up_fa a3, up_fa a2, up_fa a1]
    have em : ∀ k : Int, k ≠ 1 → I1 m k = I m k := fun k hk => by rw [← hI1, up_fa (by omega), up_fa (by omega), up_nk hk]
    have eb : ∀ j : Int, j ≠ 0 → (gBr G).1 j = G.1 j := fun j hj => gBr_1 hj
    have en : ∀ a : Int, a ≠ m → a ≠ m + 22 → a ≠ m + 23 → a ≠ m + 24 → mUp (kp I1) m 26 ((G.1 0) + 1) a = I a := fun a a1 a2 a3 a4 => by rw [up_fa a1, hkd, ua_ne a2]; exact e a a1 a3 a4
    have enm : ∀ k : Int, k ≠ 1 → k ≠ 26 → mUp (kp I1) m 26 ((G.1 0) + 1) m k = I m k := fun k k1 k2 => by rw [up_nk k2, hkm]; exact em k k1
    obtain ⟨q1, ⟨q20, q21, q22⟩, q3, q4, ⟨q50, q51, q52, q53⟩, q6, ⟨q70, q71, q72⟩, ⟨q80, q81⟩, q9⟩ := id h
    refine kk _ z _ ⟨q1, ⟨?_, ?_, ?_⟩, fun k j k0 k1 j0 j1 hkj t t0 t1 => ?_, fun k k0 k1 => ?_, ⟨?_, ?_, ?_, ?_⟩, ?_, ⟨?_, ?_, ?_⟩, ⟨?_, ?_⟩, ?_⟩ (fun a ha => en a (by omega) (by omega) (by omega) (by omega)) ?_ (fun u hu => oV hu)
    · rw [en _ (by omega) (by omega) (by omega) (by omega), gBr_O hg]; exact q20
    · rw [gBr_O hg]
      intro s s0 s1
      rw [en (m + 16) (by omega) (by omega) (by omega) (by omega), en (m + 13 + s) (by omega) (by omega) (by omega) (by omega)]
      exact q21 s s0 s1
    · rw [gBr_O hg]
      exact kWo_k q22 (enm 17 (by decide) (by decide)) (en _ (by omega) (by omega) (by omega) (by omega)) (en _ (by omega) (by omega) (by omega) (by omega)) (en _ (by omega) (by omega) (by omega) (by omega))
    · rw [gBr_N] at k1
      rw [show ((gBr G).1 (20 + k)) = (G.1 (20 + k)) from eb _ (by omega)] at j1
      rw [show ((gBr G).1 (10 + k)) = (G.1 (10 + k)) from eb _ (by omega), show ((gBr G).1 1) = (G.1 1) from eb 1 (by decide)] at hkj
      rw [up_fa (by omega), hkd, ua_eq rfl, e _ (by omega) (by omega) (by omega), e _ (by omega) (by omega) (by omega)]
      have j6 : j ≤ 6 := by have := (hg.2.2.1 k k0 (by omega)).1; omega
      by_cases ck : k = (G.1 0)
      · have hj0 : j = 0 := by rw [ck, gE1] at j1; omega
        rw [gBr_0 ck hj0, ck, hj0, if_pos (by omega), q20, show 1395 * (7 * (G.1 0) + 0) + t - 1395 * (7 * (G.1 0) + 0) = t by omega]
      · rw [gBr_S ck, if_neg (by omega)]
        exact q3 k j k0 (by omega) j0 j1 hkj t t0 t1
    · rw [gBr_N] at k1
      rw [show ((gBr G).1 (10 + k)) = (G.1 (10 + k)) from eb _ (by omega), show ((gBr G).1 (20 + k)) = (G.1 (20 + k)) from eb _ (by omega), up_fa (by omega), up_fa (by omega), hkd, ua_ne (by omega), ua_ne (by omega), ← hI1, up_fa (show m + 23 ≠ m + 24 by omega)]
      have hE := (hg.2.2.1 k k0 (by omega)).1
      by_cases ck : k = (G.1 0)
      · have gE2 : (G.1 (20 + k)) = 0 := by rw [ck]; exact gE1
        rw [up_eq rfl ck, up_eq rfl ck]
        omega
      · rw [up_nk ck, up_nk ck, up_fa (by omega), up_fa (by omega), up_fa (by omega)]
        exact q4 k k0 (by omega)
    · rw [up_eq rfl rfl, gBr_N]
    · rw [enm _ (by decide) (by decide)]; exact q51
    · rw [enm _ (by decide) (by decide)]; exact q52
    · rw [enm _ (by decide) (by decide)]; exact q53
    · rw [en _ (by omega) (by omega) (by omega) (by omega)]; exact q6
    · rw [enm _ (by decide) (by decide)]; exact q70
    · rw [enm _ (by decide) (by decide)]; exact q71
    · rw [en _ (by omega) (by omega) (by omega) (by omega)]; exact q72
    · rw [enm _ (by decide) (by decide)]; exact q80
    · rw [en _ (by omega) (by omega) (by omega) (by omega)]; exact q81
    · rw [en (m + 25) (by omega) (by omega) (by omega) (by omega), en (m + 42) (by omega) (by omega) (by omega) (by omega), en (m + 44) (by omega) (by omega) (by omega) (by omega)]; exact q9
    · rw [up_nk (by decide), hkm, ← hI1, up_fa (by omega), up_fa (by omega), up_eq rfl rfl]; rfl
  · rw [if_neg c] at kk
    have hft : ∀ (I : mN) (Q : mQ), mRun (D + 49) 196 [mR m, mI 0] I (mSx S m z) Q = Q (.inl (some (mI 0))) (mUp I m 1 1) (mSx S m z) := fun I Q => by rw [r_fits (D + 48) hmz (Or.inl rfl), if_neg (by decide)]
    simp (disch := first | omega | exact Nat.le_of_ble_eq_true rfl | (simp (disch := omega) only [ym_k hmz, h26, up_fa, up_nk] <;> omega)) only [w_iconst, w_bipush, w_sipush, w_ldc_s, w_ldcw_s, w_ldc_i, w_ldcw_i, w_lconst, w_fconst, w_dconst, w_iload, w_iload_n, w_aload, w_aload_n, w_dload, w_istore, w_istore_n, w_astore_r, w_astore_s, w_astore_n_r, w_astore_n_s, w_dstore, w_iinc, w_iadd, w_isub, w_imul, w_iand, w_iushr, v_idiv, v_irem, w_ineg, w_i2l, w_i2c, w_i2f, w_i2d, v_f2d, w_lcmp, w_dcmp, v_fdiv, v_ddiv, w_dup_i, w_dup_r, w_dup2, w_dup_x2, w_pop_i, w_pop_r, w_goto, w_switch, w_ret_i, v_ret_z, v_ret_c, w_ret_a, w_ret_s, w_ret_f, w_ret_d, w_ret_v, v_iaload, v_baload, v_caload, v_laload, v_aaload, v_iastore, v_bastore, v_castore, v_lastore, v_aastore, v_alen, v_newa, v_anewa, w_new, w_throw, w_dead, v_getf_i, v_getf_z, v_getf_r, v_putf_i, v_putf_z, v_putf_r, w_call0, w_call1, w_callv1, w_calli1, w_callt1, w_call2, w_callv2, w_calli2, w_callt2, w_call3, w_callv3, w_calli3, w_call4, w_callv4, w_calli4, w_call5, w_callv5, w_calli5, w_call6, w_callv6, w_calli6, w_call7, w_callv7, w_calli7, w_call8, w_callv8, w_calli8, c_if0_eq_t, c_if0_eq_f, c_if2_eq_t, c_if2_eq_f, c_if0_ne_t, c_if0_ne_f, c_if2_ne_t, c_if2_ne_f, c_if0_lt_t, c_if0_lt_f, c_if2_lt_t, c_if2_lt_f, c_if0_ge_t, c_if0_ge_f, c_if2_ge_t, c_if2_ge_f, c_if0_gt_t, c_if0_gt_f, c_if2_gt_t, c_if2_gt_f, c_if0_le_t, c_if0_le_f, c_if2_le_t, c_if2_le_f, w_nil, uI_s, uA_r, uA_s, uD_d, mPut_0, mCl_own, mCv_go, mCl_min, mCl_cpy, mCv_obj, mAct_len, mAct_chrc, mAft_v, mAft_n, mAft_x, mGet_0, mSet_0, mGet_1, mSet_1, mGet_2, mSet_2, mGet_3, mSet_3, mGet_4, mSet_4, mGet_5, mSet_5, mGet_6, mSet_6, mGet_7, mSet_7, mGet_8, mSet_8, mGet_9, mSet_9, mGet_10, mSet_10, mGet_11, mSet_11, mGet_12, mSet_12, mGet_13, mSet_13, e_Mo_createBranch, a_Mo_createBranch_0, bk_Mo_createBranch_0, a_Mo_createBranch_13, bk_Mo_createBranch_13, a_Mo_createBranch_14, bk_Mo_createBranch_14, a_Mo_createBranch_22, bk_Mo_createBranch_22, ym_k hmz, h26, up_fa, up_nk, hft, wr]
    exact oSay h (oFm_r I m) rfl (fun u hu => oNo hu) kk
theorem cm_22 {a : Int} (hg : gWf G) (h : oR (mSx S m z) I m G) (kk : oK S I m Q [2] (r22 G a)) : mRun (D + 50) 259 [mR m, mI a] I (mSx S m z) Q := by
  obtain ⟨⟨c0, c1, c2⟩, u0, u1, u2⟩ := gJ_b hg
  have hmz := h.1
  have h26 := h.2.2.2.2.1.1
  have h27 := h.2.2.2.2.1.2.1
  unfold r22 at kk
  by_cases c : 0 ≤ a ∧ a < (G.1 0)
  · rw [if_pos c] at kk
    have hft : ∀ (I : mN) (Q : mQ), mRun (D + 49) 196 [mR m, mI 1] I (mSx S m z) Q = Q (.inl (some (mI 1))) (mUp I m 1 0) (mSx S m z) := fun I Q => by rw [r_fits (D + 48) hmz (Or.inr rfl), if_pos rfl]
    have hb : ∀ (I : mN) (Q : mQ), mRun (D + 49) 194 [mI a, mI 0, mI ((G.1 0) - 1)] I (mSx S m z) Q = Q (.inl (some (mI 1))) I (mSx S m z) := fun I Q => r_oN_t (D + 48) c.1 (by omega)
    have g1 := hg.1
    by_cases ca : a = (G.1 1)
    · have eG : gSet G 1 a = G := by
        rw [ca]
        show (zU G.1 1 (G.1 1), G.2) = G
        rw [show zU G.1 1 (G.1 1) = G.1 from funext (fun k => by
          by_cases hk : k = 1
          · rw [zU_eq hk, hk]
          · exact zU_ne hk)]
      rw [eG] at kk
      subst ca
      simp (disch := first | omega | exact Nat.le_of_ble_eq_true rfl | (simp (disch := omega) only [ym_k hmz, h26, h27, up_fa, up_nk] <;> omega)) only [w_iconst, w_bipush, w_sipush, w_ldc_s, w_ldcw_s, w_ldc_i, w_ldcw_i, w_lconst, w_fconst, w_dconst, w_iload, w_iload_n, w_aload, w_aload_n, w_dload, w_istore, w_istore_n, w_astore_r, w_astore_s, w_astore_n_r, w_astore_n_s, w_dstore, w_iinc, w_iadd, w_isub, w_imul, w_iand, w_iushr, v_idiv, v_irem, w_ineg, w_i2l, w_i2c, w_i2f, w_i2d, v_f2d, w_lcmp, w_dcmp, v_fdiv, v_ddiv, w_dup_i, w_dup_r, w_dup2, w_dup_x2, w_pop_i, w_pop_r, w_goto, w_switch, w_ret_i, v_ret_z, v_ret_c, w_ret_a, w_ret_s, w_ret_f, w_ret_d, w_ret_v, v_iaload, v_baload, v_caload, v_laload, v_aaload, v_iastore, v_bastore, v_castore, v_lastore, v_aastore, v_alen, v_newa, v_anewa, w_new, w_throw, w_dead, v_getf_i, v_getf_z, v_getf_r, v_putf_i, v_putf_z, v_putf_r, w_call0, w_call1, w_callv1, w_calli1, w_callt1, w_call2, w_callv2, w_calli2, w_callt2, w_call3, w_callv3, w_calli3, w_call4, w_callv4, w_calli4, w_call5, w_callv5, w_calli5, w_call6, w_callv6, w_calli6, w_call7, w_callv7, w_calli7, w_call8, w_callv8, w_calli8, c_if0_eq_t, c_if0_eq_f, c_if2_eq_t, c_if2_eq_f, c_if0_ne_t, c_if0_ne_f, c_if2_ne_t, c_if2_ne_f, c_if0_lt_t, c_if0_lt_f, c_if2_lt_t, c_if2_lt_f, c_if0_ge_t, c_if0_ge_f, c_if2_ge_t, c_if2_ge_f, c_if0_gt_t, c_if0_gt_f, c_if2_gt_t, c_if2_gt_f, c_if0_le_t, c_if0_le_f, c_if2_le_t, c_if2_le_f, w_nil, uI_s, uA_r, uA_s, uD_d, mPut_0, mCl_own, mCv_go, mCl_min, mCl_cpy, mCv_obj, mAct_len, mAct_chrc, mAft_v, mAft_n, mAft_x, mGet_0, mSet_0, mGet_1, mSet_1, mGet_2, mSet_2, mGet_3, mSet_3, mGet_4, mSet_4, mGet_5, mSet_5, mGet_6, mSet_6, mGet_7, mSet_7, mGet_8, mSet_8, mGet_9, mSet_9, mGet_10, mSet_10, mGet_11, mSet_11, mGet_12, mSet_12, mGet_13, mSet_13, e_Mo_switchBranch, a_Mo_switchBranch_0, bk_Mo_switchBranch_0, a_Mo_switchBranch_20, bk_Mo_switchBranch_20, a_Mo_switchBranch_57, bk_Mo_switchBranch_57, ym_k hmz, h26, h27, up_fa, up_nk, hft, hb, wr]
      exact oSay h (oFm_r I m) rfl (fun u hu => oV hu) kk
    · have a3 : a < 3 := by have := hg.1.2; omega
      have hU := hg.2.2.1 a c.1 a3
      obtain ⟨kp, hkd⟩ : ∃ kp : mN → mN, ∀ I, kp I = mUa I (m + 22) (fun t => if 1395 * (7 * (G.1 1) + (G.1 (10 + G.1 1))) ≤ t ∧ t < 1395 * (7 * (G.1 1) + (G.1 (10 + G.1 1))) + 1395 then I (m + 1) (t - 1395 * (7 * (G.1 1) + (G.1 (10 + G.1 1)))) else I (m + 22) t) := ⟨_, fun _ => rfl⟩
      have hkp : ∀ (I : mN) (Q : mQ), mRun (D + 49) 252 [mR m, mI ((G.1 1)), mI ((G.1 (10 + G.1 1)))] I (mSx S m z) Q = Q (.inl none) (kp I) (mSx S m z) := fun I Q => by rw [hkd]; exact r_keep (D + 47) hmz c0 c1 u0 (by omega) I
      have hkn : ∀ (I : mN) (b : Int), b ≠ m + 22 → kp I b = I b := fun I b hb => by rw [hkd, ua_ne hb]
      obtain ⟨tk, htd⟩ : ∃ tk : mN → mN, ∀ I, tk I = mUp (mUa (mUa I (m + 1) (fun t => if 0 ≤ t ∧ t < 1395 then I (m + 22) (1395 * (7 * a + (G.1 (10 + a))) + t) else I (m + 1) t)) (m + 16) (fun j => if 0 ≤ j ∧ j < 3 then 0 else (mUa I (m + 1) (fun t => if 0 ≤ t ∧ t < 1395 then I (m + 22) (1395 * (7 * a + (G.1 (10 + a))) + t) else I (m + 1) t)) (m + 16) j)) m 17 0 := ⟨_, fun _ => rfl⟩
      have htk : ∀ (I : mN) (Q : mQ), mRun (D + 49) 253 [mR m, mI a, mI ((G.1 (10 + a)))] I (mSx S m z) Q = Q (.inl none) (tk I) (mSx S m z) := fun I Q => by rw [htd]; exact r_take (D + 47) hmz c.1 a3 (by omega) (by omega) rfl
      have htn : ∀ (I : mN) (b : Int), b ≠ m → b ≠ m + 1 → b ≠ m + 16 → tk I b = I b := fun I b b1 b2 b3 => by rw [htd, up_fa b1, ua_ne b3, ua_ne b2]
      have htm : ∀ (I : mN) (k : Int), k ≠ 17 → tk I m k = I m k := fun I k hk => by rw [htd, up_nk hk, ua_ne (by omega), ua_ne (by omega)]
      have hu := (h.2.2.2.1 ((G.1 1)) c0 c2).1
      have hv := (h.2.2.2.1 a c.1 c.2).1
      simp (disch := first | omega | exact Nat.le_of_ble_eq_true rfl | (simp (disch := omega) only [ym_k hmz, ym_24 hmz, ym_k24 hmz, ym_l24 hmz, h26, h27, up_fa, up_nk, hkn] <;> omega)) only [w_iconst, w_bipush, w_sipush, w_ldc_s, w_ldcw_s, w_ldc_i, w_ldcw_i, w_lconst, w_fconst, w_dconst, w_iload, w_iload_n, w_aload, w_aload_n, w_dload, w_istore, w_istore_n, w_astore_r, w_astore_s, w_astore_n_r, w_astore_n_s, w_dstore, w_iinc, w_iadd, w_isub, w_imul, w_iand, w_iushr, v_idiv, v_irem, w_ineg, w_i2l, w_i2c, w_i2f, w_i2d, v_f2d, w_lcmp, w_dcmp, v_fdiv, v_ddiv, w_dup_i, w_dup_r, w_dup2, w_dup_x2, w_pop_i, w_pop_r, w_goto, w_switch, w_ret_i, v_ret_z, v_ret_c, w_ret_a, w_ret_s, w_ret_f, w_ret_d, w_ret_v, v_iaload, v_baload, v_caload, v_laload, v_aaload, v_iastore, v_bastore, v_castore, v_lastore, v_aastore, v_alen, v_newa, v_anewa, w_new, w_throw, w_dead, v_getf_i, v_getf_z, v_getf_r, v_putf_i, v_putf_z, v_putf_r, w_call0, w_call1, w_callv1, w_calli1, w_callt1, w_call2, w_callv2, w_calli2, w_callt2, w_call3, w_callv3, w_calli3, w_call4, w_callv4, w_calli4, w_call5, w_callv5, w_calli5, w_call6, w_callv6, w_calli6, w_call7, w_callv7, w_calli7, w_call8, w_callv8, w_calli8, c_if0_eq_t, c_if0_eq_f, c_if2_eq_t, c_if2_eq_f, c_if0_ne_t, c_if0_ne_f, c_if2_ne_t, c_if2_ne_f, c_if0_lt_t, c_if0_lt_f, c_if2_lt_t, c_if2_lt_f, c_if0_ge_t, c_if0_ge_f, c_if2_ge_t, c_if2_ge_f, c_if0_gt_t, c_if0_gt_f, c_if2_gt_t, c_if2_gt_f, c_if0_le_t, c_if0_le_f, c_if2_le_t, c_if2_le_f, w_nil, uI_s, uA_r, uA_s, uD_d, mPut_0, mCl_own, mCv_go, mCl_min, mCl_cpy, mCv_obj, mAct_len, mAct_chrc, mAft_v, mAft_n, mAft_x, mGet_0, mSet_0, mGet_1, mSet_1, mGet_2, mSet_2, mGet_3, mSet_3, mGet_4, mSet_4, mGet_5, mSet_5, mGet_6, mSet_6, mGet_7, mSet_7, mGet_8, mSet_8, mGet_9, mSet_9, mGet_10, mSet_10, mGet_11, mSet_11, mGet_12, mSet_12, mGet_13, mSet_13, e_Mo_switchBranch, a_Mo_switchBranch_0, bk_Mo_switchBranch_0, a_Mo_switchBranch_20, bk_Mo_switchBranch_20, a_Mo_switchBranch_57, bk_Mo_switchBranch_57, ym_k hmz, ym_24 hmz, ym_k24 hmz, ym_l24 hmz, h26, h27, up_fa, up_nk, hft, hb, ca, hkp, hkn, hu, hv, htk, wr]
      generalize hI1 : mUp I m 1 0 = I1
      generalize hJ : mUp (kp I1) m 27 a = J
      have en : ∀ b : Int, b ≠ m → b ≠ m + 22 → J b = I b := fun b b1 b2 => by rw [← hJ, up_fa b1, hkn _ _ b2, ← hI1, up_fa b1]
      have em : ∀ k : Int, k ≠ 1 → k ≠ 27 → J m k = I m k := fun k k1 k2 => by rw [← hJ, up_nk k2, hkn _ _ (by omega), ← hI1, up_nk k1]
      have eg : ∀ j : Int, j ≠ 1 → (gSet G 1 a).1 j = G.1 j := fun j hj => gSet_1 hj
      have eC : ((gSet G 1 a).1 1) = a := gSet_2
      have tn : ∀ b : Int, b ≠ m → b ≠ m + 1 → b ≠ m + 16 → b ≠ m + 22 → tk J b = I b := fun b b1 b2 b3 b4 => by rw [htn J b b1 b2 b3, en b b1 b4]
      have tm : ∀ k : Int, k ≠ 1 → k ≠ 17 → k ≠ 27 → tk J m k = I m k := fun k k1 k2 k3 => by rw [htm J k k2, em k k1 k3]
      obtain ⟨q1, ⟨q20, q21, q22⟩, q3, q4, ⟨q50, q51, q52, q53⟩, q6, ⟨q70, q71, q72⟩, ⟨q80, q81⟩, q9⟩ := id h
      have j22 : ∀ t : Int, J (m + 22) t = if 1395 * (7 * (G.1 1) + (G.1 (10 + G.1 1))) ≤ t ∧ t < 1395 * (7 * (G.1 1) + (G.1 (10 + G.1 1))) + 1395 then I (m + 1) (t - 1395 * (7 * (G.1 1) + (G.1 (10 + G.1 1)))) else I (m + 22) t := fun t => by
        rw [← hJ, up_fa (by omega), hkd, ua_eq rfl, ← hI1, up_fa (by omega), up_fa (by omega)]
      refine kk _ z _ (oR_take (J := J) (k' := a) (j' := (G.1 (10 + a))) hg (gWf_22 hg c.1 c.2) h (eg 0 (by decide)) (fun _ _ => rfl) (fun k k0 k1 => eg _ (by omega)) ⟨eg _ (by decide), eg _ (by decide), eg _ (by decide)⟩ rfl ⟨eC, by rw [eC]; exact eg _ (by omega)⟩ j22 (htn J _ (by omega) (by omega) (by omega)) (fun t => ?_) (fun s s0 s1 => ?_) ?_ (fun k k0 k1 => ?_) (fun b b1 b2 b3 b4 b5 => tn b b1 b2 b3 b4) ⟨tm _ (by decide) (by decide) (by decide), ?_, ?_, fun h9 => ?_, tm _ (by decide) (by decide) (by decide), tm _ (by decide) (by decide) (by decide), tm _ (by decide) (by decide) (by decide)⟩) (fun b hb => tn b (by omega) (by omega) (by omega) (by omega)) ?_ (fun u hu => oV hu)
      · rw [htd, up_fa (by omega), ua_ne (by omega), ua_eq rfl, en (m + 1) (by omega) (by omega)]
      · rw [htd, up_fa (by omega), ua_eq rfl, if_pos ⟨s0, s1⟩]
      · rw [htd, up_eq rfl rfl]
      · rw [tn _ (by omega) (by omega) (by omega) (by omega), show ((gSet G 1 a).1 (10 + k)) = (G.1 (10 + k)) from eg _ (by have := hg.1.2; omega)]; exact (q4 k k0 k1).1
      · rw [htm J 27 (by decide), ← hJ, up_eq rfl rfl, eC]
      · rw [tm _ (by decide) (by decide) (by decide), show ((gSet G 1 a).1 5) = (G.1 5) from eg 5 (by decide)]; exact q52
      · rw [show ((gSet G 1 a).1 5) = (G.1 5) from eg 5 (by decide)] at h9
        rw [tm _ (by decide) (by decide) (by decide), show ((gSet G 1 a).1 6) = (G.1 6) from eg 6 (by decide)]; exact q53 h9
      · rw [htm J 1 (by decide), ← hJ, up_nk (by decide), hkn _ _ (by omega), ← hI1, up_eq rfl rfl]; rfl
  · rw [if_neg c] at kk
    have g1 := hg.1
    have hft : ∀ (I : mN) (Q : mQ), mRun (D + 49) 196 [mR m, mI 0] I (mSx S m z) Q = Q (.inl (some (mI 0))) (mUp I m 1 1) (mSx S m z) := fun I Q => by rw [r_fits (D + 48) hmz (Or.inl rfl), if_neg (by decide)]
    have hb : ∀ (I : mN) (Q : mQ), mRun (D + 49) 194 [mI a, mI 0, mI ((G.1 0) - 1)] I (mSx S m z) Q = Q (.inl (some (mI 0))) I (mSx S m z) := fun I Q => r_oN_f (D + 48) (by omega)
    simp (disch := first | omega | exact Nat.le_of_ble_eq_true rfl | (simp (disch := omega) only [ym_k hmz, h26, up_fa, up_nk] <;> omega)) only [w_iconst, w_bipush, w_sipush, w_ldc_s, w_ldcw_s, w_ldc_i, w_ldcw_i, w_lconst, w_fconst, w_dconst, w_iload, w_iload_n, w_aload, w_aload_n, w_dload, w_istore, w_istore_n, w_astore_r, w_astore_s, w_astore_n_r, w_astore_n_s, w_dstore, w_iinc, w_iadd, w_isub, w_imul, w_iand, w_iushr, v_idiv, v_irem, w_ineg, w_i2l, w_i2c, w_i2f, w_i2d, v_f2d, w_lcmp, w_dcmp, v_fdiv, v_ddiv, w_dup_i, w_dup_r, w_dup2, w_dup_x2, w_pop_i, w_pop_r, w_goto, w_switch, w_ret_i, v_ret_z, v_ret_c, w_ret_a, w_ret_s, w_ret_f, w_ret_d, w_ret_v, v_iaload, v_baload, v_caload, v_laload, v_aaload, v_iastore, v_bastore, v_castore, v_lastore, v_aastore, v_alen, v_newa, v_anewa, w_new, w_throw, w_dead, v_getf_i, v_getf_z, v_getf_r, v_putf_i, v_putf_z, v_putf_r, w_call0, w_call1, w_callv1, w_calli1, w_callt1, w_call2, w_callv2, w_calli2, w_callt2, w_call3, w_callv3, w_calli3, w_call4, w_callv4, w_calli4, w_call5, w_callv5, w_calli5, w_call6, w_callv6, w_calli6, w_call7, w_callv7, w_calli7, w_call8, w_callv8, w_calli8, c_if0_eq_t, c_if0_eq_f, c_if2_eq_t, c_if2_eq_f, c_if0_ne_t, c_if0_ne_f, c_if2_ne_t, c_if2_ne_f, c_if0_lt_t, c_if0_lt_f, c_if2_lt_t, c_if2_lt_f, c_if0_ge_t, c_if0_ge_f, c_if2_ge_t, c_if2_ge_f, c_if0_gt_t, c_if0_gt_f, c_if2_gt_t, c_if2_gt_f, c_if0_le_t, c_if0_le_f, c_if2_le_t, c_if2_le_f, w_nil, uI_s, uA_r, uA_s, uD_d, mPut_0, mCl_own, mCv_go, mCl_min, mCl_cpy, mCv_obj, mAct_len, mAct_chrc, mAft_v, mAft_n, mAft_x, mGet_0, mSet_0, mGet_1, mSet_1, mGet_2, mSet_2, mGet_3, mSet_3, mGet_4, mSet_4, mGet_5, mSet_5, mGet_6, mSet_6, mGet_7, mSet_7, mGet_8, mSet_8, mGet_9, mSet_9, mGet_10, mSet_10, mGet_11, mSet_11, mGet_12, mSet_12, mGet_13, mSet_13, e_Mo_switchBranch, a_Mo_switchBranch_0, bk_Mo_switchBranch_0, a_Mo_switchBranch_20, bk_Mo_switchBranch_20, a_Mo_switchBranch_57, bk_Mo_switchBranch_57, ym_k hmz, h26, up_fa, up_nk, hft, hb, wr]
    exact oSay h (oFm_r I m) rfl (fun u hu => oNo hu) kk
end VV
