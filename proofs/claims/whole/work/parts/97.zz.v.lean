/-! A change of the model begun, with what stays. -/
section MC9
variable {S : mH} {I : mN} {m : Int} {G : gT} {Q : mQ} (D : Nat)
theorem p_mchange9 (hg : gWf G) (h : oR S I m G) (kk : ∀ I' : mN, oR S I' m (gPush G ((G.2.1 (G.1 1) (G.1 (10 + G.1 1))))) → oFm I I' m → (∀ s : Int, 0 ≤ s → s < 3 → I' (m + 16) s = 0) → I' m 17 = 0 → I' m 1 = I m 1 → (∀ k : Int, k < 17 → I' m k = I m k) → (∀ a : Int, a ≠ m → a ≠ m + 16 → a ≠ m + 22 → a ≠ m + 23 → a ≠ m + 24 → I' a = I a) → (∀ f : Int, f ≠ 28 → f ≠ 29 → f ≠ 17 → I' m f = I m f) → Q (.inl none) I' S) : mRun (D + 3) 255 [mR m] I S Q := by
  obtain ⟨⟨c0, c1, c2⟩, u0, u1, u2⟩ := gJ_b hg
  have hK := gK_b hg
  have hN3 := hg.1.2
  obtain ⟨hm, hC, h3, h4, ⟨h50, h51, h52, h53⟩, h6, h7, h8, h9⟩ := h
  have hu : I (m + 23) ((G.1 1)) = (G.1 (10 + G.1 1)) := (h4 _ c0 c2).1
  have eT : ((gPush G ((G.2.1 (G.1 1) (G.1 (10 + G.1 1))))).1 2) = (G.1 2) := gPush_1 (by omega) (by omega) (by omega) (by omega)
  have eR : ((gPush G ((G.2.1 (G.1 1) (G.1 (10 + G.1 1))))).1 3) = (G.1 3) := gPush_1 (by omega) (by omega) (by omega) (by omega)
  have eW : ((gPush G ((G.2.1 (G.1 1) (G.1 (10 + G.1 1))))).1 4) = (G.1 4) := gPush_1 (by omega) (by omega) (by omega) (by omega)
  -- what comes out of both ways
  have fin : ∀ (J I' : mN) (v : Int), gK G = v + 1 → (∀ a : Int, a ≠ m + 22 → a ≠ m + 23 → J a = I a) → (∀ k : Int, k ≠ (G.1 1) → J (m + 23) k = I (m + 23) k) →
      (∀ k j : Int, 0 ≤ k → k < (G.1 0) → 0 ≤ j → j ≤ ((gPush G ((G.2.1 (G.1 1) (G.1 (10 + G.1 1))))).1 (20 + k)) → (k ≠ (G.1 1) ∨ (j ≠ v + 1 ∧ j ≠ v)) → ∀ t : Int, 0 ≤ t → t < 1395 → J (m + 22) (1395 * (7 * k + j) + t) = ((gPush G ((G.2.1 (G.1 1) (G.1 (10 + G.1 1))))).2.1 k j) t) →
      (∀ t : Int, I' (m + 22) t = if 1395 * (7 * (G.1 1) + v) ≤ t ∧ t < 1395 * (7 * (G.1 1) + v) + 1395 then J (m + 1) (t - 1395 * (7 * (G.1 1) + v)) else J (m + 22) t) → (I' (m + 23) ((G.1 1)) = v + 1 ∧ ∀ k : Int, k ≠ (G.1 1) → I' (m + 23) k = J (m + 23) k) → (I' (m + 24) ((G.1 1)) = v + 1 ∧ ∀ k : Int, k ≠ (G.1 1) → I' (m + 24) k = J (m + 24) k) → (I' m 28 = (G.1 1) ∧ I' m 29 = -1 ∧ I' m 17 = 0 ∧ ∀ f : Int, f ≠ 28 → f ≠ 29 → f ≠ 17 → I' m f = J m f) → (∀ s : Int, 0 ≤ s → s < 3 → I' (m + 16) s = 0) → (∀ a : Int, a ≠ m → a ≠ m + 16 → a ≠ m + 22 → a ≠ m + 23 → a ≠ m + 24 → I' a = J a) → Q (.inl none) I' S := by
    intro J I' v eK j1 j2 j3 g1 g2 g3 g4 g5 g6
    have hv : v = gK G - 1 := by omega
    have e0 : ∀ a : Int, a ≠ m → a ≠ m + 16 → a ≠ m + 22 → a ≠ m + 23 → a ≠ m + 24 → I' a = I a := fun a a1 a2 a3 a4 a5 => by rw [g6 a a1 a2 a3 a4 a5, j1 a a3 a4]
    have em : ∀ f : Int, f ≠ 28 → f ≠ 29 → f ≠ 17 → I' m f = I m f := fun f f1 f2 f3 => by rw [g4.2.2.2 f f1 f2 f3, j1 m (by omega) (by omega)]
    have hI1 : J (m + 1) = (G.2.1 (G.1 1) (G.1 (10 + G.1 1))) := by rw [j1 _ (by omega) (by omega)]; exact hC.1
    refine kk I' ⟨hm, ⟨?_, kCa_0 g5, kWo_0 g4.2.2.1⟩, fun k j k0 k1 q0 q1 hkj t t0 t1 => ?_, fun k k0 k1 => ?_, ⟨?_, ?_, ?_, fun _ => ?_⟩, ?_, ?_, ?_, ?_⟩ (fun a ha => e0 a (by omega) (by omega) (by omega) (by omega) (by omega)) g5 g4.2.2.1 (em 1 (by decide) (by decide) (by decide)) (fun k hk => em k (by omega) (by omega) (by omega)) e0 em
    · rw [gPush_O hg, e0 _ (by omega) (by omega) (by omega) (by omega) (by omega)]; exact hC.1
    · rw [gPush_N hg] at k1
      rw [gPush_C hg, gPush_U hg k0 (by omega)] at hkj
      by_cases c : k = (G.1 1) ∧ j = v
      · rw [g1, if_pos (by rw [c.1, c.2]; omega), hI1, c.1, c.2, hv, gPush_B hg, show 1395 * (7 * (G.1 1) + (gK G - 1)) + t - 1395 * (7 * (G.1 1) + (gK G - 1)) = t by omega]
      · have q9 := q1
        rw [gPush_E hg k0 (by omega)] at q9
        have q8 : j ≤ 6 := by
          by_cases ck : k = (G.1 1)
          · rw [if_pos ck] at q9; omega
          · rw [if_neg ck] at q9; have := (hg.2.2.1 k k0 (by omega)).1; omega
        rw [g1, if_neg (by omega)]
        refine j3 k j k0 k1 q0 q1 ?_ t t0 t1
        by_cases ck : k = (G.1 1)
        · rw [if_pos ck] at hkj
          right
          omega
        · exact Or.inl ck
    · rw [gPush_N hg] at k1
      rw [gPush_U hg k0 (by omega), gPush_E hg k0 (by omega)]
      by_cases c : k = (G.1 1)
      · rw [if_pos c, if_pos c, c, g2.1, g3.1, eK]; exact ⟨rfl, rfl⟩
      · rw [if_neg c, if_neg c, g2.2 k c, g3.2 k c, j2 k c, j1 (m + 24) (by omega) (by omega)]; exact h4 k k0 k1
    · rw [gPush_N hg, em 26 (by decide) (by decide) (by decide)]; exact h50
    · rw [gPush_C hg, em 27 (by decide) (by decide) (by decide)]; exact h51
    · rw [gPush_Lb]; exact g4.1
    · rw [gPush_La]; exact g4.2.1
    · rw [e0 (m + 20) (by omega) (by omega) (by omega) (by omega) (by omega)]; exact h6
    · rw [em 55 (by decide) (by decide) (by decide), em 61 (by decide) (by decide) (by decide), e0 (m + 40) (by omega) (by omega) (by omega) (by omega) (by omega), eT, eR]; exact h7
    · rw [em 64 (by decide) (by decide) (by decide), e0 (m + 43) (by omega) (by omega) (by omega) (by omega) (by omega), eW]; exact h8
    · rw [e0 (m + 25) (by omega) (by omega) (by omega) (by omega) (by omega), e0 (m + 42) (by omega) (by omega) (by omega) (by omega) (by omega), e0 (m + 44) (by omega) (by omega) (by omega) (by omega) (by omega)]; exact h9
  by_cases c6 : (G.1 (10 + G.1 1)) < 6
  · have eK := hK.2.2.1 c6
    have hu6 : I (m + 23) ((G.1 1)) ≠ 6 := by omega
    have hgo := l_ch71 (Q := Q) D hm (x1 := none) (x2 := none) c0 c1 u0 (by omega) h51 hu (fun I' g1 g2 g3 g4 g5 g6 => fin I I' ((G.1 (10 + G.1 1))) eK (fun _ _ _ => rfl) (fun _ _ => rfl) (fun k j k0 k1 q0 q1 hkj t t0 t1 => by
      rw [gPush_E hg k0 (by omega)] at q1
      rw [gPush_S]
      by_cases ck : k = (G.1 1)
      · rw [if_pos ck] at q1
        rw [if_pos ck, if_neg (show ¬ j = gK G by omega), if_pos c6]
        have hj : j ≤ (G.1 (20 + k)) := by rw [ck]; omega
        refine h3 k j k0 k1 q0 hj ?_ t t0 t1
        right
        show j ≠ (G.1 (10 + k))
        rw [ck]
        show j ≠ (G.1 (10 + G.1 1))
        omega
      · rw [if_neg ck] at q1
        rw [if_neg ck]
        exact h3 k j k0 k1 q0 q1 (Or.inl ck) t t0 t1) g1 g2 g3 g4 g5 g6)
    rw [show D + 3 = (D + 2) + 1 from rfl]
    simp (disch := first | omega | exact Nat.le_of_ble_eq_true rfl | (simp (disch := omega) only [ym_k hm, ym_24 hm, ym_k24 hm, ym_l24 hm] <;> omega)) only [w_iconst, w_bipush, w_sipush, w_ldc_s, w_ldcw_s, w_ldc_i, w_ldcw_i, w_lconst, w_fconst, w_dconst, w_iload, w_iload_n, w_aload, w_aload_n, w_dload, w_istore, w_istore_n, w_astore_r, w_astore_s, w_astore_n_r, w_astore_n_s, w_dstore, w_iinc, w_iadd, w_isub, w_imul, w_iand, w_iushr, v_idiv, v_irem, w_ineg, w_i2l, w_i2c, w_i2f, w_i2d, v_f2d, w_lcmp, w_dcmp, v_fdiv, v_ddiv, w_dup_i, w_dup_r, w_dup2, w_dup_x2, w_pop_i, w_pop_r, w_goto, w_switch, w_ret_i, v_ret_z, v_ret_c, w_ret_a, w_ret_s, w_ret_f, w_ret_d, w_ret_v, v_iaload, v_baload, v_caload, v_laload, v_aaload, v_iastore, v_bastore, v_castore, v_lastore, v_aastore, v_alen, v_newa, v_anewa, w_new, w_throw, w_dead, v_getf_i, v_getf_z, v_getf_r, v_putf_i, v_putf_z, v_putf_r, w_call0, w_call1, w_callv1, w_calli1, w_callt1, w_call2, w_callv2, w_calli2, w_callt2, w_call3, w_callv3, w_calli3, w_call4, w_callv4, w_calli4, w_call5, w_callv5, w_calli5, w_call6, w_callv6, w_calli6, w_call7, w_callv7, w_calli7, w_call8, w_callv8, w_calli8, c_if0_eq_t, c_if0_eq_f, c_if2_eq_t, c_if2_eq_f, c_if0_ne_t, c_if0_ne_f, c_if2_ne_t, c_if2_ne_f, c_if0_lt_t, c_if0_lt_f, c_if2_lt_t, c_if2_lt_f, c_if0_ge_t, c_if0_ge_f, c_if2_ge_t, c_if2_ge_f, c_if0_gt_t, c_if0_gt_f, c_if2_gt_t, c_if2_gt_f, c_if0_le_t, c_if0_le_f, c_if2_le_t, c_if2_le_f, w_nil, uI_s, uA_r, uA_s, uD_d, mPut_0, mCl_own, mCv_go, mCl_min, mCl_cpy, mCv_obj, mAct_len, mAct_chrc, mAft_v, mAft_n, mAft_x, mGet_0, mSet_0, mGet_1, mSet_1, mGet_2, mSet_2, mGet_3, mSet_3, mGet_4, mSet_4, mGet_5, mSet_5, mGet_6, mSet_6, mGet_7, mSet_7, mGet_8, mSet_8, mGet_9, mSet_9, mGet_10, mSet_10, mGet_11, mSet_11, mGet_12, mSet_12, mGet_13, mSet_13, e_Mo_change, a_Mo_change_0, bk_Mo_change_0, ym_k hm, ym_24 hm, ym_k24 hm, ym_l24 hm, h51, hu]
    exact hgo
  · have eK := hK.2.2.2 c6
    have hu6 : I (m + 23) ((G.1 1)) = 6 := by rw [hu]; exact eK.2
    have hj : ∀ (I : mN) (Q : mQ), mRun (D + 2) 251 [mI ((G.1 1)), mI 0] I S Q = Q (.inl (some (mI (1395 * (7 * (G.1 1) + 0))))) I S := fun I Q => r_jrow (D + 1) c0 c1 (by decide) (by decide) I Q
    rw [show D + 3 = (D + 2) + 1 from rfl]
    simp (disch := first | omega | exact Nat.le_of_ble_eq_true rfl | (simp (disch := omega) only [ym_k hm, ym_24 hm, ym_k24 hm, ym_l24 hm] <;> omega)) only [w_iconst, w_bipush, w_sipush, w_ldc_s, w_ldcw_s, w_ldc_i, w_ldcw_i, w_lconst, w_fconst, w_dconst, w_iload, w_iload_n, w_aload, w_aload_n, w_dload, w_istore, w_istore_n, w_astore_r, w_astore_s, w_astore_n_r, w_astore_n_s, w_dstore, w_iinc, w_iadd, w_isub, w_imul, w_iand, w_iushr, v_idiv, v_irem, w_ineg, w_i2l, w_i2c, w_i2f, w_i2d, v_f2d, w_lcmp, w_dcmp, v_fdiv, v_ddiv, w_dup_i, w_dup_r, w_dup2, w_dup_x2, w_pop_i, w_pop_r, w_goto, w_switch, w_ret_i, v_ret_z, v_ret_c, w_ret_a, w_ret_s, w_ret_f, w_ret_d, w_ret_v, v_iaload, v_baload, v_caload, v_laload, v_aaload, v_iastore, v_bastore, v_castore, v_lastore, v_aastore, v_alen, v_newa, v_anewa, w_new, w_throw, w_dead, v_getf_i, v_getf_z, v_getf_r, v_putf_i, v_putf_z, v_putf_r, w_call0, w_call1, w_callv1, w_calli1, w_callt1, w_call2, w_callv2, w_calli2, w_callt2, w_call3, w_callv3, w_calli3, w_call4, w_callv4, w_calli4, w_call5, w_callv5, w_calli5, w_call6, w_callv6, w_calli6, w_call7, w_callv7, w_calli7, w_call8, w_callv8, w_calli8, c_if0_eq_t, c_if0_eq_f, c_if2_eq_t, c_if2_eq_f, c_if0_ne_t, c_if0_ne_f, c_if2_ne_t, c_if2_ne_f, c_if0_lt_t, c_if0_lt_f, c_if2_lt_t, c_if2_lt_f, c_if0_ge_t, c_if0_ge_f, c_if2_ge_t, c_if2_ge_f, c_if0_gt_t, c_if0_gt_f, c_if2_gt_t, c_if2_gt_f, c_if0_le_t, c_if0_le_f, c_if2_le_t, c_if2_le_f, w_nil, uI_s, uA_r, uA_s, uD_d, mPut_0, mCl_own, mCv_go, mCl_min, mCl_cpy, mCv_obj, mAct_len, mAct_chrc, mAft_v, mAft_n, mAft_x, mGet_0, mSet_0, mGet_1, mSet_1, mGet_2, mSet_2, mGet_3, mSet_3, mGet_4, mSet_4, mGet_5, mSet_5, mGet_6, mSet_6, mGet_7, mSet_7, mGet_8, mSet_8, mGet_9, mSet_9, mGet_10, mSet_10, mGet_11, mSet_11, mGet_12, mSet_12, mGet_13, mSet_13, e_Mo_change, a_Mo_change_0, bk_Mo_change_0, ym_k hm, ym_24 hm, ym_k24 hm, ym_l24 hm, h51, hu6, hj]
    rw [l_shift (D + 2) hm (by omega) (by omega) 6975 (Int.le_refl 0) (by omega)]
    generalize hJ0 : mUa I (m + 22) (fun t => if 1395 * (7 * (G.1 1) + 0) + 0 ≤ t ∧ t < 1395 * (7 * (G.1 1) + 0) + 6975 then I (m + 22) (t + 1395) else I (m + 22) t) = J0
    have j0 : ∀ a : Int, a ≠ m + 22 → J0 a = I a := fun a ha => by rw [← hJ0, ua_ne ha]
    have j22 : ∀ t : Int, J0 (m + 22) t = if 1395 * (7 * (G.1 1) + 0) + 0 ≤ t ∧ t < 1395 * (7 * (G.1 1) + 0) + 6975 then I (m + 22) (t + 1395) else I (m + 22) t := fun t => by rw [← hJ0, ua_eq rfl]
    have hc0 : J0 m 27 = (G.1 1) := by rw [j0 m (by omega)]; exact h51
    have hv0 : J0 (m + 23) ((G.1 1)) = 6 := by rw [j0 (m + 23) (by omega)]; exact hu6
    have hgo := fun (I1 : mN) (e1 : I1 = mUp J0 (m + 23) ((G.1 1)) 5) => l_ch71 (Q := Q) (I := I1) D hm (x1 := some (mI (1395 * (7 * (G.1 1) + 0)))) (x2 := some (mI 6975)) c0 c1 (show (0 : Int) ≤ 5 by decide) (by decide) (by rw [e1, up_fa (by omega)]; exact hc0) (by rw [e1, up_eq rfl rfl]) (fun I' g1 g2 g3 g4 g5 g6 => fin I1 I' 5 (by omega) (fun a a1 a2 => by rw [e1, up_fa a2, j0 a a1]) (fun k hk => by rw [e1, up_nk hk, j0 (m + 23) (by omega)]) (fun k j k0 k1 q0 q1 hkj t t0 t1 => by
      rw [e1, up_fa (by omega), j22]
      rw [gPush_E hg k0 (by omega)] at q1
      rw [gPush_S]
      by_cases ck : k = (G.1 1)
      · rw [if_pos ck] at q1
        rw [if_pos ck, if_neg (show ¬ j = gK G by omega), if_neg c6, if_pos (show 1395 * (7 * (G.1 1) + 0) + 0 ≤ 1395 * (7 * k + j) + t ∧ 1395 * (7 * k + j) + t < 1395 * (7 * (G.1 1) + 0) + 6975 by rw [ck]; omega)]
        have hj9 : j + 1 ≤ (G.1 (20 + k)) := by rw [ck]; omega
        have h39 := h3 k (j + 1) k0 k1 (by omega) hj9 (by
          right
          show j + 1 ≠ (G.1 (10 + k))
          rw [ck]
          show j + 1 ≠ (G.1 (10 + G.1 1))
          omega) t t0 t1
        rw [show 1395 * (7 * k + j) + t + 1395 = 1395 * (7 * k + (j + 1)) + t by omega]
        exact h39
      · rw [if_neg ck] at q1
        have hj6 := (hg.2.2.1 k k0 (by omega)).1
        rw [if_neg ck, if_neg (show ¬ (1395 * (7 * (G.1 1) + 0) + 0 ≤ 1395 * (7 * k + j) + t ∧ 1395 * (7 * k + j) + t < 1395 * (7 * (G.1 1) + 0) + 6975) by rcases Int.lt_or_gt_of_ne ck with h9 | h9 <;> omega)]
        exact h3 k j k0 k1 q0 q1 (Or.inl ck) t t0 t1) g1 g2 g3 g4 g5 g6)
    simp (disch := first | omega | exact Nat.le_of_ble_eq_true rfl | (simp (disch := omega) only [ym_k hm, ym_24 hm, ym_k24 hm, ym_l24 hm] <;> omega)) only [w_iconst, w_bipush, w_sipush, w_ldc_s, w_ldcw_s, w_ldc_i, w_ldcw_i, w_lconst, w_fconst, w_dconst, w_iload, w_iload_n, w_aload, w_aload_n, w_dload, w_istore, w_istore_n, w_astore_r, w_astore_s, w_astore_n_r, w_astore_n_s, w_dstore, w_iinc, w_iadd, w_isub, w_imul, w_iand, w_iushr, v_idiv, v_irem, w_ineg, w_i2l, w_i2c, w_i2f, w_i2d, v_f2d, w_lcmp, w_dcmp, v_fdiv, v_ddiv, w_dup_i, w_dup_r, w_dup2, w_dup_x2, w_pop_i, w_pop_r, w_goto, w_switch, w_ret_i, v_ret_z, v_ret_c, w_ret_a, w_ret_s, w_ret_f, w_ret_d, w_ret_v, v_iaload, v_baload, v_caload, v_laload, v_aaload, v_iastore, v_bastore, v_castore, v_lastore, v_aastore, v_alen, v_newa, v_anewa, w_new, w_throw, w_dead, v_getf_i, v_getf_z, v_getf_r, v_putf_i, v_putf_z, v_putf_r, w_call0, w_call1, w_callv1, w_calli1, w_callt1, w_call2, w_callv2, w_calli2, w_callt2, w_call3, w_callv3, w_calli3, w_call4, w_callv4, w_calli4, w_call5, w_callv5, w_calli5, w_call6, w_callv6, w_calli6, w_call7, w_callv7, w_calli7, w_call8, w_callv8, w_calli8, c_if0_eq_t, c_if0_eq_f, c_if2_eq_t, c_if2_eq_f, c_if0_ne_t, c_if0_ne_f, c_if2_ne_t, c_if2_ne_f, c_if0_lt_t, c_if0_lt_f, c_if2_lt_t, c_if2_lt_f, c_if0_ge_t, c_if0_ge_f, c_if2_ge_t, c_if2_ge_f, c_if0_gt_t, c_if0_gt_f, c_if2_gt_t, c_if2_gt_f, c_if0_le_t, c_if0_le_f, c_if2_le_t, c_if2_le_f, w_nil, uI_s, uA_r, uA_s, uD_d, mPut_0, mCl_own, mCv_go, mCl_min, mCl_cpy, mCv_obj, mAct_len, mAct_chrc, mAft_v, mAft_n, mAft_x, mGet_0, mSet_0, mGet_1, mSet_1, mGet_2, mSet_2, mGet_3, mSet_3, mGet_4, mSet_4, mGet_5, mSet_5, mGet_6, mSet_6, mGet_7, mSet_7, mGet_8, mSet_8, mGet_9, mSet_9, mGet_10, mSet_10, mGet_11, mSet_11, mGet_12, mSet_12, mGet_13, mSet_13, a_Mo_change_58, bk_Mo_change_58, ym_k hm, ym_24 hm, ym_k24 hm, ym_l24 hm, hc0, hv0, wr]
    exact hgo _ rfl
end MC9
