/-! A statement's end lies behind its start. -/
section QL
variable {tx : Int → Int} {N t : Int} {σ : sT}
theorem qN_l {lo hi u : Int} {f : Int → zRr} (h : (qNum tx N lo hi t f).1 = 1) (k : ∀ v : Int, (f v).1 = 1 → u ≤ (f v).2.1) : u ≤ (qNum tx N lo hi t f).2.1 := by
  obtain ⟨v, hv, e⟩ := qN_x h
  rw [e] at h ⊢
  exact k v h
theorem qW_l {r : Int} : ∀ (n : Nat) (σ : sT) (t : Int), (qWk tx N r n σ t).1 = 1 → t ≤ (qWk tx N r n σ t).2.1
  | 0, σ, t, _ => Int.le_refl t
  | n + 1, σ, t, h => by
    have e0 : qWk tx N r (n + 1) σ t = if zK tx N t = 17 then qNum tx N 0 7 (t + 1) (fun w => qNum tx N 0 50 (t + 2) (fun c => qWk tx N r n (zU σ (19 + 11 * r + w) c) (t + 3))) else (1, t, σ) := rfl
    rw [e0] at h ⊢
    by_cases c : zK tx N t = 17
    · rw [if_pos c] at h ⊢
      exact qN_l h (fun w h => qN_l h (fun c h => by have := qW_l n _ _ h; omega))
    · rw [if_neg c]; exact Int.le_refl t
theorem qP_l {i : Int} : ∀ (n : Nat) (σ : sT) (t : Int), (qPa tx N i n σ t).1 = 1 → t ≤ (qPa tx N i n σ t).2.1
  | 0, σ, t, _ => Int.le_refl t
  | n + 1, σ, t, h => by
    rw [qPa_e] at h ⊢
    by_cases c19 : zK tx N t = 19
    · rw [if_pos c19] at h ⊢
      exact qN_l h (fun v h => by have := qP_l n _ _ h; omega)
    · rw [if_neg c19] at h ⊢
      by_cases c20 : zK tx N t = 20
      · rw [if_pos c20] at h ⊢
        exact qN_l h (fun f h => qN_l h (fun l h => qN_l h (fun a h => by have := qP_l n _ _ h; omega)))
      · rw [if_neg c20] at h ⊢
        by_cases c21 : zK tx N t = 21
        · rw [if_pos c21] at h ⊢
          by_cases cn : (zDr tx N (t + 1)).1 = none
          · rw [if_pos cn] at h
            exact absurd (show (0 : Int) = 1 from h) (by decide)
          · rw [if_neg cn] at h ⊢
            have h60 := zDr_60 (t + 1) cn
            have := qP_l n _ _ h
            omega
        · rw [if_neg c21]; exact Int.le_refl t
theorem qF_l {s p : Int} : ∀ (n : Nat) (w : Int) (σ : sT) (t : Int), (qFl tx N s p n w σ t).1 = 1 → t ≤ (qFl tx N s p n w σ t).2.1
  | 0, w, σ, t, _ => Int.le_refl t
  | n + 1, w, σ, t, h => by
    have e0 : qFl tx N s p (n + 1) w σ t = if zK tx N t = 2 then qNum tx N 0 40 t (fun a => qFl tx N s p n (w + 1) (zU σ (115 + 48 * s + 8 * p + w) a) (t + 1)) else (1, t, σ) := rfl
    rw [e0] at h ⊢
    by_cases c : zK tx N t = 2
    · rw [if_pos c] at h ⊢
      exact qN_l h (fun a h => by have := qF_l n _ _ _ h; omega)
    · rw [if_neg c]; exact Int.le_refl t
theorem qS_l (h : (qSt tx N σ t).1 = 1) : t + 1 ≤ (qSt tx N σ t).2.1 := by
  unfold qSt at h ⊢
  by_cases c15 : zK tx N t = 15 ∧ σ 1 < 6
  · rw [if_pos c15] at h ⊢
    unfold qPl at h ⊢
    exact qN_l h (fun c h => qN_l h (fun s h => by show t + 1 ≤ t + 1 + 2; omega))
  · rw [if_neg c15] at h ⊢
    by_cases c16 : zK tx N t = 16 ∧ σ 2 < 9
    · rw [if_pos c16] at h ⊢
      unfold qRe at h ⊢
      refine qN_l h (fun f h => ?_)
      by_cases cf : zK tx N (t + 1 + 1) = 2 ∧ zV tx N (t + 1 + 1) = f
      · rw [if_pos cf] at h
        exact absurd (show (0 : Int) = 1 from h) (by decide)
      · rw [if_neg cf] at h ⊢
        exact qN_l h (fun g h => qN_l h (fun c h => qN_l h (fun w h => by have := qW_l 900 _ _ h; omega)))
    · rw [if_neg c16] at h ⊢
      by_cases c18 : zK tx N t = 18 ∧ σ 3 < 10
      · rw [if_pos c18] at h ⊢
        unfold qRi at h ⊢
        exact qN_l h (fun p h => qN_l h (fun y h => qN_l h (fun c h => by have := qP_l 900 _ _ h; omega)))
      · rw [if_neg c18] at h ⊢
        by_cases c22 : zK tx N t = 22
        · rw [if_pos c22] at h ⊢
          unfold qIn at h ⊢
          exact qN_l h (fun s h => qN_l h (fun p h => qN_l h (fun a h => by have := qF_l 7 _ _ _ h; omega)))
        · rw [if_neg c22] at h
          exact absurd (show (0 : Int) = 1 from h) (by decide)
end QL
section QK
variable {S : mH} {I : mN} {Q : mQ} (D : Nat) {m : Int} {tx : Int → Int} {N t : Int} {σ : sT}
/-- the statements -/
theorem l_mBs (hm : yM S m) (n0 : 0 ≤ N) (n9 : N ≤ 900) : ∀ (n : Nat) (z : Int) (I : mN) (σ : sT) (t : Int), N ≤ t + n → oDs I m tx N σ t → (∀ (I' : mN) (z' : Int), zFb I I' m → ((qBs tx N n σ t).1 = 1 → oDs I' m tx N (qBs tx N n σ t).2.2 (qBs tx N n σ t).2.1) → ((qBs tx N n σ t).1 = 0 → zTk9 I' m tx N (qBs tx N n σ t).2.1 ∧ zDra (I' (m + 42))) → ((qBs tx N n σ t).1 = 0 ∨ (qBs tx N n σ t).1 = 1) → mAt (mRun (D + 12)) 338 86 ([some (mR m), some (mI (qBs tx N n σ t).1)], [], I', mSx S m z') Q) → mAt (mRun (D + 12)) 338 52 ([some (mR m), some (mI 1)], [], I, mSx S m z) Q
  | 0, z, I, σ, t, hn, h, kk => by
    have hmz := yM_x (z := z) hm
    have c0 : zK tx N t = 0 := by
      by_cases c : zK tx N t = 0
      · exact c
      · have := zK_t (tx := tx) (t := t) n0 n9 h.2.1 c
        omega
    have e58 := (zTk9_2 n0 n9 h.1).2.2.mpr c0
    have e : qBs tx N 0 σ t = (1, t, σ) := if_pos c0
    rw [e] at kk
    rw [a_Mo_readsBuffer_52]
    simp (disch := first | omega | exact Nat.le_of_ble_eq_true rfl | (simp (disch := omega) only [ym_k hmz, ym_54 hmz, ym_k54 hmz, ym_l54 hmz, e58] <;> omega)) only [w_iconst, w_bipush, w_sipush, w_ldc_s, w_ldcw_s, w_ldc_i, w_ldcw_i, w_lconst, w_fconst, w_dconst, w_iload, w_iload_n, w_aload, w_aload_n, w_dload, w_istore, w_istore_n, w_astore_r, w_astore_s, w_astore_n_r, w_astore_n_s, w_dstore, w_iinc, w_iadd, w_isub, w_imul, w_iand, w_iushr, v_idiv, v_irem, w_ineg, w_i2l, w_i2c, w_i2f, w_i2d, v_f2d, w_lcmp, w_dcmp, v_fdiv, v_ddiv, w_dup_i, w_dup_r, w_dup2, w_dup_x2, w_pop_i, w_pop_r, w_goto, w_switch, w_ret_i, v_ret_z, v_ret_c, w_ret_a, w_ret_s, w_ret_f, w_ret_d, w_ret_v, v_iaload, v_baload, v_caload, v_laload, v_aaload, v_iastore, v_bastore, v_castore, v_lastore, v_aastore, v_alen, v_newa, v_anewa, w_new, w_throw, w_dead, v_getf_i, v_getf_z, v_getf_r, v_putf_i, v_putf_z, v_putf_r, w_call0, w_call1, w_callv1, w_calli1, w_callt1, w_call2, w_callv2, w_calli2, w_callt2, w_call3, w_callv3, w_calli3, w_call4, w_callv4, w_calli4, w_call5, w_callv5, w_calli5, w_call6, w_callv6, w_calli6, w_call7, w_callv7, w_calli7, w_call8, w_callv8, w_calli8, c_if0_eq_t, c_if0_eq_f, c_if2_eq_t, c_if2_eq_f, c_if0_ne_t, c_if0_ne_f, c_if2_ne_t, c_if2_ne_f, c_if0_lt_t, c_if0_lt_f, c_if2_lt_t, c_if2_lt_f, c_if0_ge_t, c_if0_ge_f, c_if2_ge_t, c_if2_ge_f, c_if0_gt_t, c_if0_gt_f, c_if2_gt_t, c_if2_gt_f, c_if0_le_t, c_if0_le_f, c_if2_le_t, c_if2_le_f, w_nil, uI_s, uA_r, uA_s, uD_d, mPut_0, mCl_own, mCv_go, mCl_min, mCl_cpy, mCv_obj, mAct_len, mAct_chrc, mAft_v, mAft_n, mAft_x, mGet_0, mSet_0, mGet_1, mSet_1, mGet_2, mSet_2, mGet_3, mSet_3, mGet_4, mSet_4, mGet_5, mSet_5, mGet_6, mSet_6, mGet_7, mSet_7, mGet_8, mSet_8, mGet_9, mSet_9, mGet_10, mSet_10, mGet_11, mSet_11, mGet_12, mSet_12, mGet_13, mSet_13, bk_Mo_readsBuffer_52, ym_k hmz, ym_54 hmz, ym_k54 hmz, ym_l54 hmz, e58]
    exact kk I z (zFb_r I m) (fun _ => h) (fun q => absurd (show (1 : Int) = 0 from q) (by decide)) (Or.inr rfl)
  | n + 1, z, I, σ, t, hn, h, kk => by
    have hmz := yM_x (z := z) hm
    rw [qBs_e] at kk
    have g58 := (zTk9_2 n0 n9 h.1).2.2
    rw [a_Mo_readsBuffer_52]
    by_cases c0 : zK tx N t = 0
    · have e58 := g58.mpr c0
      rw [if_pos c0] at kk
      simp (disch := first | omega | exact Nat.le_of_ble_eq_true rfl | (simp (disch := omega) only [ym_k hmz, ym_54 hmz, ym_k54 hmz, ym_l54 hmz, e58] <;> omega)) only [w_iconst, w_bipush, w_sipush, w_ldc_s, w_ldcw_s, w_ldc_i, w_ldcw_i, w_lconst, w_fconst, w_dconst, w_iload, w_iload_n, w_aload, w_aload_n, w_dload, w_istore, w_istore_n, w_astore_r, w_astore_s, w_astore_n_r, w_astore_n_s, w_dstore, w_iinc, w_iadd, w_isub, w_imul, w_iand, w_iushr, v_idiv, v_irem, w_ineg, w_i2l, w_i2c, w_i2f, w_i2d, v_f2d, w_lcmp, w_dcmp, v_fdiv, v_ddiv, w_dup_i, w_dup_r, w_dup2, w_dup_x2, w_pop_i, w_pop_r, w_goto, w_switch, w_ret_i, v_ret_z, v_ret_c, w_ret_a, w_ret_s, w_ret_f, w_ret_d, w_ret_v, v_iaload, v_baload, v_caload, v_laload, v_aaload, v_iastore, v_bastore, v_castore, v_lastore, v_aastore, v_alen, v_newa, v_anewa, w_new, w_throw, w_dead, v_getf_i, v_getf_z, v_getf_r, v_putf_i, v_putf_z, v_putf_r, w_call0, w_call1, w_callv1, w_calli1, w_callt1, w_call2, w_callv2, w_calli2, w_callt2, w_call3, w_callv3, w_calli3, w_call4, w_callv4, w_calli4, w_call5, w_callv5, w_calli5, w_call6, w_callv6, w_calli6, w_call7, w_callv7, w_calli7, w_call8, w_callv8, w_calli8, c_if0_eq_t, c_if0_eq_f, c_if2_eq_t, c_if2_eq_f, c_if0_ne_t, c_if0_ne_f, c_if2_ne_t, c_if2_ne_f, c_if0_lt_t, c_if0_lt_f, c_if2_lt_t, c_if2_lt_f, c_if0_ge_t, c_if0_ge_f, c_if2_ge_t, c_if2_ge_f, c_if0_gt_t, c_if0_gt_f, c_if2_gt_t, c_if2_gt_f, c_if0_le_t, c_if0_le_f, c_if2_le_t, c_if2_le_f, w_nil, uI_s, uA_r, uA_s, uD_d, mPut_0, mCl_own, mCv_go, mCl_min, mCl_cpy, mCv_obj, mAct_len, mAct_chrc, mAft_v, mAft_n, mAft_x, mGet_0, mSet_0, mGet_1, mSet_1, mGet_2, mSet_2, mGet_3, mSet_3, mGet_4, mSet_4, mGet_5, mSet_5, mGet_6, mSet_6, mGet_7, mSet_7, mGet_8, mSet_8, mGet_9, mSet_9, mGet_10, mSet_10, mGet_11, mSet_11, mGet_12, mSet_12, mGet_13, mSet_13, bk_Mo_readsBuffer_52, ym_k hmz, ym_54 hmz, ym_k54 hmz, ym_l54 hmz, e58]
      exact kk I z (zFb_r I m) (fun _ => h) (fun q => absurd (show (1 : Int) = 0 from q) (by decide)) (Or.inr rfl)
    · have e58 : I m 58 ≠ 0 := fun q => c0 (g58.mp q)
      rw [if_neg c0] at kk
      simp (disch := first | omega | exact Nat.le_of_ble_eq_true rfl | (simp (disch := omega) only [ym_k hmz, ym_54 hmz, ym_k54 hmz, ym_l54 hmz] <;> omega)) only [w_iconst, w_bipush, w_sipush, w_ldc_s, w_ldcw_s, w_ldc_i, w_ldcw_i, w_lconst, w_fconst, w_dconst, w_iload, w_iload_n, w_aload, w_aload_n, w_dload, w_istore, w_istore_n, w_astore_r, w_astore_s, w_astore_n_r, w_astore_n_s, w_dstore, w_iinc, w_iadd, w_isub, w_imul, w_iand, w_iushr, v_idiv, v_irem, w_ineg, w_i2l, w_i2c, w_i2f, w_i2d, v_f2d, w_lcmp, w_dcmp, v_fdiv, v_ddiv, w_dup_i, w_dup_r, w_dup2, w_dup_x2, w_pop_i, w_pop_r, w_goto, w_switch, w_ret_i, v_ret_z, v_ret_c, w_ret_a, w_ret_s, w_ret_f, w_ret_d, w_ret_v, v_iaload, v_baload, v_caload, v_laload, v_aaload, v_iastore, v_bastore, v_castore, v_lastore, v_aastore, v_alen, v_newa, v_anewa, w_new, w_throw, w_dead, v_getf_i, v_getf_z, v_getf_r, v_putf_i, v_putf_z, v_putf_r, w_call0, w_call1, w_callv1, w_calli1, w_callt1, w_call2, w_callv2, w_calli2, w_callt2, w_call3, w_callv3, w_calli3, w_call4, w_callv4, w_calli4, w_call5, w_callv5, w_calli5, w_call6, w_callv6, w_calli6, w_call7, w_callv7, w_calli7, w_call8, w_callv8, w_calli8, c_if0_eq_t, c_if0_eq_f, c_if2_eq_t, c_if2_eq_f, c_if0_ne_t, c_if0_ne_f, c_if2_ne_t, c_if2_ne_f, c_if0_lt_t, c_if0_lt_f, c_if2_lt_t, c_if2_lt_f, c_if0_ge_t, c_if0_ge_f, c_if2_ge_t, c_if2_ge_f, c_if0_gt_t, c_if0_gt_f, c_if2_gt_t, c_if2_gt_f, c_if0_le_t, c_if0_le_f, c_if2_le_t, c_if2_le_f, w_nil, uI_s, uA_r, uA_s, uD_d, mPut_0, mCl_own, mCv_go, mCl_min, mCl_cpy, mCv_obj, mAct_len, mAct_chrc, mAft_v, mAft_n, mAft_x, mGet_0, mSet_0, mGet_1, mSet_1, mGet_2, mSet_2, mGet_3, mSet_3, mGet_4, mSet_4, mGet_5, mSet_5, mGet_6, mSet_6, mGet_7, mSet_7, mGet_8, mSet_8, mGet_9, mSet_9, mGet_10, mSet_10, mGet_11, mSet_11, mGet_12, mSet_12, mGet_13, mSet_13, bk_Mo_readsBuffer_52, ym_k hmz, ym_54 hmz, ym_k54 hmz, ym_l54 hmz]
      refine p_mSt (D + 1) z hm n0 n9 h (fun I1 z1 f1 q1 q0 => ?_)
      have hm1 := yM_x (z := z1) hm
      -- an error: the loop ends
      have bad : ∀ (I' : mN) (z' t' : Int), zFb I I' m → zTk9 I' m tx N t' → zDra (I' (m + 42)) → (if (qSt tx N σ t).1 = 1 then (if zK tx N (qSt tx N σ t).2.1 = 3 then qBs tx N n (qSt tx N σ t).2.2 ((qSt tx N σ t).2.1 + 1) else (0, (qSt tx N σ t).2.1, fun _ => 0)) else (0, (qSt tx N σ t).2.1, fun _ => 0)) = (0, t', fun _ => 0) → mAt (mRun (D + 12)) 338 52 ([some (mR m), some (mI 0)], [], I', mSx S m z') Q := fun I' z' t' f' h' hd' e => by
        rw [e] at kk
        rw [a_Mo_readsBuffer_52]
        simp (disch := first | omega | exact Nat.le_of_ble_eq_true rfl) only [w_iconst, w_bipush, w_sipush, w_ldc_s, w_ldcw_s, w_ldc_i, w_ldcw_i, w_lconst, w_fconst, w_dconst, w_iload, w_iload_n, w_aload, w_aload_n, w_dload, w_istore, w_istore_n, w_astore_r, w_astore_s, w_astore_n_r, w_astore_n_s, w_dstore, w_iinc, w_iadd, w_isub, w_imul, w_iand, w_iushr, v_idiv, v_irem, w_ineg, w_i2l, w_i2c, w_i2f, w_i2d, v_f2d, w_lcmp, w_dcmp, v_fdiv, v_ddiv, w_dup_i, w_dup_r, w_dup2, w_dup_x2, w_pop_i, w_pop_r, w_goto, w_switch, w_ret_i, v_ret_z, v_ret_c, w_ret_a, w_ret_s, w_ret_f, w_ret_d, w_ret_v, v_iaload, v_baload, v_caload, v_laload, v_aaload, v_iastore, v_bastore, v_castore, v_lastore, v_aastore, v_alen, v_newa, v_anewa, w_new, w_throw, w_dead, v_getf_i, v_getf_z, v_getf_r, v_putf_i, v_putf_z, v_putf_r, w_call0, w_call1, w_callv1, w_calli1, w_callt1, w_call2, w_callv2, w_calli2, w_callt2, w_call3, w_callv3, w_calli3, w_call4, w_callv4, w_calli4, w_call5, w_callv5, w_calli5, w_call6, w_callv6, w_calli6, w_call7, w_callv7, w_calli7, w_call8, w_callv8, w_calli8, c_if0_eq_t, c_if0_eq_f, c_if2_eq_t, c_if2_eq_f, c_if0_ne_t, c_if0_ne_f, c_if2_ne_t, c_if2_ne_f, c_if0_lt_t, c_if0_lt_f, c_if2_lt_t, c_if2_lt_f, c_if0_ge_t, c_if0_ge_f, c_if2_ge_t, c_if2_ge_f, c_if0_gt_t, c_if0_gt_f, c_if2_gt_t, c_if2_gt_f, c_if0_le_t, c_if0_le_f, c_if2_le_t, c_if2_le_f, w_nil, uI_s, uA_r, uA_s, uD_d, mPut_0, mCl_own, mCv_go, mCl_min, mCl_cpy, mCv_obj, mAct_len, mAct_chrc, mAft_v, mAft_n, mAft_x, mGet_0, mSet_0, mGet_1, mSet_1, mGet_2, mSet_2, mGet_3, mSet_3, mGet_4, mSet_4, mGet_5, mSet_5, mGet_6, mSet_6, mGet_7, mSet_7, mGet_8, mSet_8, mGet_9, mSet_9, mGet_10, mSet_10, mGet_11, mSet_11, mGet_12, mSet_12, mGet_13, mSet_13, bk_Mo_readsBuffer_52]
        exact kk I' z' f' (fun q => absurd (show (0 : Int) = 1 from q) (by decide)) (fun _ => ⟨h', hd'⟩) (Or.inl rfl)
      rcases qS01 (tx := tx) (N := N) σ t with hz | hz
      · obtain ⟨h1, hd1⟩ := q0 hz
        rw [hz]
        simp (disch := first | omega | exact Nat.le_of_ble_eq_true rfl | (simp (disch := omega) only [ym_k hm1, ym_54 hm1, ym_k54 hm1, ym_l54 hm1] <;> omega)) only [w_iconst, w_bipush, w_sipush, w_ldc_s, w_ldcw_s, w_ldc_i, w_ldcw_i, w_lconst, w_fconst, w_dconst, w_iload, w_iload_n, w_aload, w_aload_n, w_dload, w_istore, w_istore_n, w_astore_r, w_astore_s, w_astore_n_r, w_astore_n_s, w_dstore, w_iinc, w_iadd, w_isub, w_imul, w_iand, w_iushr, v_idiv, v_irem, w_ineg, w_i2l, w_i2c, w_i2f, w_i2d, v_f2d, w_lcmp, w_dcmp, v_fdiv, v_ddiv, w_dup_i, w_dup_r, w_dup2, w_dup_x2, w_pop_i, w_pop_r, w_goto, w_switch, w_ret_i, v_ret_z, v_ret_c, w_ret_a, w_ret_s, w_ret_f, w_ret_d, w_ret_v, v_iaload, v_baload, v_caload, v_laload, v_aaload, v_iastore, v_bastore, v_castore, v_lastore, v_aastore, v_alen, v_newa, v_anewa, w_new, w_throw, w_dead, v_getf_i, v_getf_z, v_getf_r, v_putf_i, v_putf_z, v_putf_r, w_call0, w_call1, w_callv1, w_calli1, w_callt1, w_call2, w_callv2, w_calli2, w_callt2, w_call3, w_callv3, w_calli3, w_call4, w_callv4, w_calli4, w_call5, w_callv5, w_calli5, w_call6, w_callv6, w_calli6, w_call7, w_callv7, w_calli7, w_call8, w_callv8, w_calli8, c_if0_eq_t, c_if0_eq_f, c_if2_eq_t, c_if2_eq_f, c_if0_ne_t, c_if0_ne_f, c_if2_ne_t, c_if2_ne_f, c_if0_lt_t, c_if0_lt_f, c_if2_lt_t, c_if2_lt_f, c_if0_ge_t, c_if0_ge_f, c_if2_ge_t, c_if2_ge_f, c_if0_gt_t, c_if0_gt_f, c_if2_gt_t, c_if2_gt_f, c_if0_le_t, c_if0_le_f, c_if2_le_t, c_if2_le_f, w_nil, uI_s, uA_r, uA_s, uD_d, mPut_0, mCl_own, mCv_go, mCl_min, mCl_cpy, mCv_obj, mAct_len, mAct_chrc, mAft_v, mAft_n, mAft_x, mGet_0, mSet_0, mGet_1, mSet_1, mGet_2, mSet_2, mGet_3, mSet_3, mGet_4, mSet_4, mGet_5, mSet_5, mGet_6, mSet_6, mGet_7, mSet_7, mGet_8, mSet_8, mGet_9, mSet_9, mGet_10, mSet_10, mGet_11, mSet_11, mGet_12, mSet_12, mGet_13, mSet_13, ym_k hm1, ym_54 hm1, ym_k54 hm1, ym_l54 hm1, a_Mo_readsBuffer_81, bk_Mo_readsBuffer_81, a_Mo_readsBuffer_82, bk_Mo_readsBuffer_82]
        exact bad I1 z1 _ f1 h1 hd1 (if_neg (by rw [hz]; decide))
      · have h1 := q1 hz
        have hlt := qS_l hz
        rw [hz]
        by_cases c3 : zK tx N (qSt tx N σ t).2.1 = 3
        · rw [if_pos hz, if_pos c3] at kk
          simp (disch := first | omega | exact Nat.le_of_ble_eq_true rfl | (simp (disch := omega) only [ym_k hm1, ym_54 hm1, ym_k54 hm1, ym_l54 hm1] <;> omega)) only [w_iconst, w_bipush, w_sipush, w_ldc_s, w_ldcw_s, w_ldc_i, w_ldcw_i, w_lconst, w_fconst, w_dconst, w_iload, w_iload_n, w_aload, w_aload_n, w_dload, w_istore, w_istore_n, w_astore_r, w_astore_s, w_astore_n_r, w_astore_n_s, w_dstore, w_iinc, w_iadd, w_isub, w_imul, w_iand, w_iushr, v_idiv, v_irem, w_ineg, w_i2l, w_i2c, w_i2f, w_i2d, v_f2d, w_lcmp, w_dcmp, v_fdiv, v_ddiv, w_dup_i, w_dup_r, w_dup2, w_dup_x2, w_pop_i, w_pop_r, w_goto, w_switch, w_ret_i, v_ret_z, v_ret_c, w_ret_a, w_ret_s, w_ret_f, w_ret_d, w_ret_v, v_iaload, v_baload, v_caload, v_laload, v_aaload, v_iastore, v_bastore, v_castore, v_lastore, v_aastore, v_alen, v_newa, v_anewa, w_new, w_throw, w_dead, v_getf_i, v_getf_z, v_getf_r, v_putf_i, v_putf_z, v_putf_r, w_call0, w_call1, w_callv1, w_calli1, w_callt1, w_call2, w_callv2, w_calli2, w_callt2, w_call3, w_callv3, w_calli3, w_call4, w_callv4, w_calli4, w_call5, w_callv5, w_calli5, w_call6, w_callv6, w_calli6, w_call7, w_callv7, w_calli7, w_call8, w_callv8, w_calli8, c_if0_eq_t, c_if0_eq_f, c_if2_eq_t, c_if2_eq_f, c_if0_ne_t, c_if0_ne_f, c_if2_ne_t, c_if2_ne_f, c_if0_lt_t, c_if0_lt_f, c_if2_lt_t, c_if2_lt_f, c_if0_ge_t, c_if0_ge_f, c_if2_ge_t, c_if2_ge_f, c_if0_gt_t, c_if0_gt_f, c_if2_gt_t, c_if2_gt_f, c_if0_le_t, c_if0_le_f, c_if2_le_t, c_if2_le_f, w_nil, uI_s, uA_r, uA_s, uD_d, mPut_0, mCl_own, mCv_go, mCl_min, mCl_cpy, mCv_obj, mAct_len, mAct_chrc, mAft_v, mAft_n, mAft_x, mGet_0, mSet_0, mGet_1, mSet_1, mGet_2, mSet_2, mGet_3, mSet_3, mGet_4, mSet_4, mGet_5, mSet_5, mGet_6, mSet_6, mGet_7, mSet_7, mGet_8, mSet_8, mGet_9, mSet_9, mGet_10, mSet_10, mGet_11, mSet_11, mGet_12, mSet_12, mGet_13, mSet_13, ym_k hm1, ym_54 hm1, ym_k54 hm1, ym_l54 hm1]
          refine p_tkstop (D + 8) hm1 n0 n9 h1.2.1 h1.1 c3 (fun I2 f2 h2 => ?_)
          simp (disch := first | omega | exact Nat.le_of_ble_eq_true rfl) only [w_iconst, w_bipush, w_sipush, w_ldc_s, w_ldcw_s, w_ldc_i, w_ldcw_i, w_lconst, w_fconst, w_dconst, w_iload, w_iload_n, w_aload, w_aload_n, w_dload, w_istore, w_istore_n, w_astore_r, w_astore_s, w_astore_n_r, w_astore_n_s, w_dstore, w_iinc, w_iadd, w_isub, w_imul, w_iand, w_iushr, v_idiv, v_irem, w_ineg, w_i2l, w_i2c, w_i2f, w_i2d, v_f2d, w_lcmp, w_dcmp, v_fdiv, v_ddiv, w_dup_i, w_dup_r, w_dup2, w_dup_x2, w_pop_i, w_pop_r, w_goto, w_switch, w_ret_i, v_ret_z, v_ret_c, w_ret_a, w_ret_s, w_ret_f, w_ret_d, w_ret_v, v_iaload, v_baload, v_caload, v_laload, v_aaload, v_iastore, v_bastore, v_castore, v_lastore, v_aastore, v_alen, v_newa, v_anewa, w_new, w_throw, w_dead, v_getf_i, v_getf_z, v_getf_r, v_putf_i, v_putf_z, v_putf_r, w_call0, w_call1, w_callv1, w_calli1, w_callt1, w_call2, w_callv2, w_calli2, w_callt2, w_call3, w_callv3, w_calli3, w_call4, w_callv4, w_calli4, w_call5, w_callv5, w_calli5, w_call6, w_callv6, w_calli6, w_call7, w_callv7, w_calli7, w_call8, w_callv8, w_calli8, c_if0_eq_t, c_if0_eq_f, c_if2_eq_t, c_if2_eq_f, c_if0_ne_t, c_if0_ne_f, c_if2_ne_t, c_if2_ne_f, c_if0_lt_t, c_if0_lt_f, c_if2_lt_t, c_if2_lt_f, c_if0_ge_t, c_if0_ge_f, c_if2_ge_t, c_if2_ge_f, c_if0_gt_t, c_if0_gt_f, c_if2_gt_t, c_if2_gt_f, c_if0_le_t, c_if0_le_f, c_if2_le_t, c_if2_le_f, w_nil, uI_s, uA_r, uA_s, uD_d, mPut_0, mCl_own, mCv_go, mCl_min, mCl_cpy, mCv_obj, mAct_len, mAct_chrc, mAft_v, mAft_n, mAft_x, mGet_0, mSet_0, mGet_1, mSet_1, mGet_2, mSet_2, mGet_3, mSet_3, mGet_4, mSet_4, mGet_5, mSet_5, mGet_6, mSet_6, mGet_7, mSet_7, mGet_8, mSet_8, mGet_9, mSet_9, mGet_10, mSet_10, mGet_11, mSet_11, mGet_12, mSet_12, mGet_13, mSet_13, a_Mo_readsBuffer_82, bk_Mo_readsBuffer_82]
          exact l_mBs hm n0 n9 n z1 I2 _ _ (by omega) ⟨h2, by have := h1.2.1; omega, by rw [f2.1 (m + 42) (by omega)]; exact h1.2.2.1, h1.2.2.2⟩ (fun I' z' f' a b c => kk I' z' (zFb_t f1 (zFb_t (zFb_f f2) f')) a b c)
        · have g3 : ∀ Q : mQ, mRun (D + 12) 325 [mR m] I1 (mSx S m z1) Q = Q (.inl (some (mI 0))) I1 (mSx S m z1) := fun Q => r_tkstopN (D + 8) hm1 n0 n9 h1.1 c3
          simp (disch := first | omega | exact Nat.le_of_ble_eq_true rfl | (simp (disch := omega) only [ym_k hm1, ym_54 hm1, ym_k54 hm1, ym_l54 hm1] <;> omega)) only [w_iconst, w_bipush, w_sipush, w_ldc_s, w_ldcw_s, w_ldc_i, w_ldcw_i, w_lconst, w_fconst, w_dconst, w_iload, w_iload_n, w_aload, w_aload_n, w_dload, w_istore, w_istore_n, w_astore_r, w_astore_s, w_astore_n_r, w_astore_n_s, w_dstore, w_iinc, w_iadd, w_isub, w_imul, w_iand, w_iushr, v_idiv, v_irem, w_ineg, w_i2l, w_i2c, w_i2f, w_i2d, v_f2d, w_lcmp, w_dcmp, v_fdiv, v_ddiv, w_dup_i, w_dup_r, w_dup2, w_dup_x2, w_pop_i, w_pop_r, w_goto, w_switch, w_ret_i, v_ret_z, v_ret_c, w_ret_a, w_ret_s, w_ret_f, w_ret_d, w_ret_v, v_iaload, v_baload, v_caload, v_laload, v_aaload, v_iastore, v_bastore, v_castore, v_lastore, v_aastore, v_alen, v_newa, v_anewa, w_new, w_throw, w_dead, v_getf_i, v_getf_z, v_getf_r, v_putf_i, v_putf_z, v_putf_r, w_call0, w_call1, w_callv1, w_calli1, w_callt1, w_call2, w_callv2, w_calli2, w_callt2, w_call3, w_callv3, w_calli3, w_call4, w_callv4, w_calli4, w_call5, w_callv5, w_calli5, w_call6, w_callv6, w_calli6, w_call7, w_callv7, w_calli7, w_call8, w_callv8, w_calli8, c_if0_eq_t, c_if0_eq_f, c_if2_eq_t, c_if2_eq_f, c_if0_ne_t, c_if0_ne_f, c_if2_ne_t, c_if2_ne_f, c_if0_lt_t, c_if0_lt_f, c_if2_lt_t, c_if2_lt_f, c_if0_ge_t, c_if0_ge_f, c_if2_ge_t, c_if2_ge_f, c_if0_gt_t, c_if0_gt_f, c_if2_gt_t, c_if2_gt_f, c_if0_le_t, c_if0_le_f, c_if2_le_t, c_if2_le_f, w_nil, uI_s, uA_r, uA_s, uD_d, mPut_0, mCl_own, mCv_go, mCl_min, mCl_cpy, mCv_obj, mAct_len, mAct_chrc, mAft_v, mAft_n, mAft_x, mGet_0, mSet_0, mGet_1, mSet_1, mGet_2, mSet_2, mGet_3, mSet_3, mGet_4, mSet_4, mGet_5, mSet_5, mGet_6, mSet_6, mGet_7, mSet_7, mGet_8, mSet_8, mGet_9, mSet_9, mGet_10, mSet_10, mGet_11, mSet_11, mGet_12, mSet_12, mGet_13, mSet_13, ym_k hm1, ym_54 hm1, ym_k54 hm1, ym_l54 hm1, g3, a_Mo_readsBuffer_81, bk_Mo_readsBuffer_81, a_Mo_readsBuffer_82, bk_Mo_readsBuffer_82]
          exact bad I1 z1 _ f1 h1.1 (by rw [h1.2.2.1]; exact zDra_w h1.2.2.2) (by rw [if_pos hz, if_neg c3])
end QK
