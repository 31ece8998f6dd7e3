/-! The split text, and steps in it. -/
/-- k tokens are laid -/
def rTs (I : mN) (r : Int) (tx : Int → Int) (N : Int) (k : Nat) : Prop := I r 1 = N ∧ zTxR I r tx N ∧ I r 6 = k ∧ (∀ j : Nat, j < k → zP tx N j < N ∧ I (r + 4) j = zP tx N j ∧ I (r + 2) j = zK tx N j ∧ I (r + 3) j = zV tx N j)
/-- all tokens are laid -/
def rTok (I : mN) (r : Int) (tx : Int → Int) (N : Int) (T : Nat) : Prop := rTs I r tx N T ∧ zP tx N T = N ∧ I (r + 4) T = N ∧ I (r + 2) T = 0
/-- what the reading of tokens may change -/
def rFr (I I' : mN) (r : Int) : Prop := (∀ a : Int, a ≠ r → a ≠ r + 2 → a ≠ r + 3 → a ≠ r + 4 → I' a = I a) ∧ ∀ j : Int, j ≠ 6 → j ≠ 7 → j ≠ 8 → I' r j = I r j
theorem rFr_t {I I' I'' : mN} {r : Int} (h : rFr I I' r) (h' : rFr I' I'' r) : rFr I I'' r := ⟨fun a a0 a2 a3 a4 => (h'.1 a a0 a2 a3 a4).trans (h.1 a a0 a2 a3 a4), fun j h6 h7 h8 => (h'.2 j h6 h7 h8).trans (h.2 j h6 h7 h8)⟩
theorem rTok_b {I : mN} {r : Int} {tx : Int → Int} {N : Int} {T : Nat} (n0 : 0 ≤ N) (n9 : N ≤ 900) (h : rTok I r tx N T) : (T : Int) ≤ 900 := by
  rcases T with _ | T
  · decide
  · have h1 := (h.1.2.2.2 T (by omega)).1
    have h2 := (zP_b (tx := tx) n0 n9 T).2.2 h1
    omega
/-- what stands at a token -/
theorem rTok_k {I : mN} {r : Int} {tx : Int → Int} {N t : Int} {T : Nat} (n0 : 0 ≤ N) (n9 : N ≤ 900) (h : rTok I r tx N T) (t0 : 0 ≤ t) (t1 : t ≤ T) : I (r + 2) t = zK tx N t ∧ I (r + 4) t = zP tx N t.toNat ∧ (zK tx N t ≠ 0 → t < T ∧ I (r + 3) t = zV tx N t) ∧ (t < T → zK tx N t ≠ 0) := by
  have hb := zK_b (tx := tx) n0 n9 (k := t)
  by_cases c : t < T
  · obtain ⟨h1, h2, h3, h4⟩ := h.1.2.2.2 t.toNat (by omega)
    rw [show ((t.toNat : Nat) : Int) = t by omega] at h2 h3 h4
    refine ⟨h3, h2, fun _ => ⟨c, h4⟩, fun _ q => ?_⟩
    have := hb.2.2.1.mp q
    omega
  · have e : t = T := by omega
    have e2 : t.toNat = T := by omega
    have h0 : zK tx N t = 0 := hb.2.2.1.mpr (by rw [e2]; exact h.2.1)
    refine ⟨?_, ?_, fun q => absurd h0 q, fun q => absurd q c⟩
    · rw [h0, e]; exact h.2.2.2
    · rw [e2, e, h.2.1]; exact h.2.2.1
section ZF2
variable {S : mH} {I : mN} {Q : mQ} (D : Nat) {r : Int} {tx : Int → Int} {N : Int}
theorem l_split (hr : yRd S r) (n0 : 0 ≤ N) (n9 : N ≤ 900) : ∀ (c : Nat) (i : Int) (k : Nat) (I : mN), i + c = N → 0 ≤ i → zSi I r → rTs I r tx N k → i ≤ zP tx N k → (∀ j : Int, i ≤ j → j < zP tx N k → ¬ zStt tx j) → (∀ (I' : mN) (T : Nat), rTok I' r tx N T → (∀ a : Int, a ≠ r → a ≠ r + 2 → a ≠ r + 3 → a ≠ r + 4 → I' a = I a) → (∀ j : Int, j ≠ 6 → I' r j = I r j) → Q (.inl none) I' S) → mAt (mRun (D + 4)) 71 17 ([some (mR r), some (mI i)], [], I, S) Q
  | 0, i, k, I, hc, i0, hG, hk, h1, h2, kk => by
    obtain rfl : i = N := by omega
    have hP : zP tx i k = i := by have := (zP_b (tx := tx) n0 n9 k).2.1; omega
    obtain ⟨hN, ht, hT, hj⟩ := hk
    have k9 : (k : Int) ≤ 900 := by
      rcases k with _ | k
      · decide
      · have h3 := (hj k (by omega)).1
        have h4 := (zP_b (tx := tx) n0 n9 k).2.2 h3
        omega
    rw [a_Rd_split_17]
    simp (disch := first | omega | exact Nat.le_of_ble_eq_true rfl | (simp (disch := omega) only [yr_k hr, yr_0 hr, yr_k0 hr, yr_l0 hr, yr_3 hr, yr_k3 hr, yr_l3 hr, yr_4 hr, yr_k4 hr, yr_l4 hr, yr_5 hr, yr_k5 hr, yr_l5 hr, yr_9 hr, yr_k9 hr, yr_l9 hr, yr_11 hr, up_fa, hN, hT] <;> omega)) only [w_iconst, w_bipush, w_sipush, w_ldc_s, w_ldcw_s, w_ldc_i, w_ldcw_i, w_lconst, w_fconst, w_dconst, w_iload, w_iload_n, w_aload, w_aload_n, w_dload, w_istore, w_istore_n, w_astore_r, w_astore_s, w_astore_n_r, w_astore_n_s, w_dstore, w_iinc, w_iadd, w_isub, w_imul, w_iand, w_iushr, v_idiv, v_irem, w_ineg, w_i2l, w_i2c, w_i2f, w_i2d, v_f2d, w_lcmp, w_dcmp, v_fdiv, v_ddiv, w_dup_i, w_dup_r, w_dup2, w_dup_x2, w_pop_i, w_pop_r, w_goto, w_switch, w_ret_i, v_ret_z, v_ret_c, w_ret_a, w_ret_s, w_ret_f, w_ret_d, w_ret_v, v_iaload, v_baload, v_caload, v_laload, v_aaload, v_iastore, v_bastore, v_castore, v_lastore, v_aastore, v_alen, v_newa, v_anewa, w_new, w_throw, w_dead, v_getf_i, v_getf_z, v_getf_r, v_putf_i, v_putf_z, v_putf_r, w_call0, w_call1, w_callv1, w_calli1, w_callt1, w_call2, w_callv2, w_calli2, w_callt2, w_call3, w_callv3, w_calli3, w_call4, w_callv4, w_calli4, w_call5, w_callv5, w_calli5, w_call6, w_callv6, w_calli6, w_call7, w_callv7, w_calli7, w_call8, w_callv8, w_calli8, c_if0_eq_t, c_if0_eq_f, c_if2_eq_t, c_if2_eq_f, c_if0_ne_t, c_if0_ne_f, c_if2_ne_t, c_if2_ne_f, c_if0_lt_t, c_if0_lt_f, c_if2_lt_t, c_if2_lt_f, c_if0_ge_t, c_if0_ge_f, c_if2_ge_t, c_if2_ge_f, c_if0_gt_t, c_if0_gt_f, c_if2_gt_t, c_if2_gt_f, c_if0_le_t, c_if0_le_f, c_if2_le_t, c_if2_le_f, w_nil, uI_s, uA_r, uA_s, uD_d, mPut_0, mCl_own, mCv_go, mCl_min, mCl_cpy, mCv_obj, mAct_len, mAct_chrc, mAft_v, mAft_n, mAft_x, mGet_0, mSet_0, mGet_1, mSet_1, mGet_2, mSet_2, mGet_3, mSet_3, mGet_4, mSet_4, mGet_5, mSet_5, mGet_6, mSet_6, mGet_7, mSet_7, mGet_8, mSet_8, mGet_9, mSet_9, mGet_10, mSet_10, mGet_11, mSet_11, mGet_12, mSet_12, mGet_13, mSet_13, bk_Rd_split_17, a_Rd_split_44, bk_Rd_split_44, yr_k hr, yr_0 hr, yr_k0 hr, yr_l0 hr, yr_3 hr, yr_k3 hr, yr_l3 hr, yr_4 hr, yr_k4 hr, yr_l4 hr, yr_5 hr, yr_k5 hr, yr_l5 hr, yr_9 hr, yr_k9 hr, yr_l9 hr, yr_11 hr, up_fa, hN, hT]
    refine kk _ k ⟨⟨?_, ?_, ?_, fun j j1 => ?_⟩, hP, ?_, ?_⟩ (fun a a0 a2 a3 a4 => by rw [up_fa a4, up_fa a2]) (fun j hj => by rw [up_fa (by omega), up_fa (by omega)])
    · rw [up_fa (by omega), up_fa (by omega)]; exact hN
    · unfold zTxR; rw [up_fa (by omega), up_fa (by omega)]; exact ht
    · rw [up_fa (by omega), up_fa (by omega)]; exact hT
    · rw [up_nk (by omega), up_fa (by omega), up_fa (by omega), up_nk (by omega), up_fa (by omega), up_fa (by omega)]
      exact hj j j1
    · rw [up_eq rfl rfl]
    · rw [up_fa (by omega), up_eq rfl rfl]
  | c + 1, i, k, I, hc, i0, hG, hk, h1, h2, kk => by
    obtain ⟨hN, ht, hT, hj⟩ := hk
    have k9 : (k : Int) ≤ 900 := by
      rcases k with _ | k
      · decide
      · have h3 := (hj k (by omega)).1
        have h4 := (zP_b (tx := tx) n0 n9 k).2.2 h3
        omega
    have g1 : ∀ Q : mQ, mRun (D + 4) 72 [mR r, mI i] I S Q = Q (.inl (some (mI (zSt1 tx i)))) I S := fun Q => r_stt (D + 2) hr ht i0 (by omega)
    rw [a_Rd_split_17]
    by_cases e : i = zP tx N k
    · have hP : zP tx N k < N := by omega
      have hs := (zP_b (tx := tx) n0 n9 k).2.2 hP
      rw [← e] at hs
      have hq := zP_s (tx := tx) n0 n9 hP
      rw [← e] at hq
      simp (disch := first | omega | exact Nat.le_of_ble_eq_true rfl | (simp (disch := omega) only [yr_k hr, yr_0 hr, yr_k0 hr, yr_l0 hr, yr_3 hr, yr_k3 hr, yr_l3 hr, yr_4 hr, yr_k4 hr, yr_l4 hr, yr_5 hr, yr_k5 hr, yr_l5 hr, yr_9 hr, yr_k9 hr, yr_l9 hr, yr_11 hr, hN] <;> omega)) only [w_iconst, w_bipush, w_sipush, w_ldc_s, w_ldcw_s, w_ldc_i, w_ldcw_i, w_lconst, w_fconst, w_dconst, w_iload, w_iload_n, w_aload, w_aload_n, w_dload, w_istore, w_istore_n, w_astore_r, w_astore_s, w_astore_n_r, w_astore_n_s, w_dstore, w_iinc, w_iadd, w_isub, w_imul, w_iand, w_iushr, v_idiv, v_irem, w_ineg, w_i2l, w_i2c, w_i2f, w_i2d, v_f2d, w_lcmp, w_dcmp, v_fdiv, v_ddiv, w_dup_i, w_dup_r, w_dup2, w_dup_x2, w_pop_i, w_pop_r, w_goto, w_switch, w_ret_i, v_ret_z, v_ret_c, w_ret_a, w_ret_s, w_ret_f, w_ret_d, w_ret_v, v_iaload, v_baload, v_caload, v_laload, v_aaload, v_iastore, v_bastore, v_castore, v_lastore, v_aastore, v_alen, v_newa, v_anewa, w_new, w_throw, w_dead, v_getf_i, v_getf_z, v_getf_r, v_putf_i, v_putf_z, v_putf_r, w_call0, w_call1, w_callv1, w_calli1, w_callt1, w_call2, w_callv2, w_calli2, w_callt2, w_call3, w_callv3, w_calli3, w_call4, w_callv4, w_calli4, w_call5, w_callv5, w_calli5, w_call6, w_callv6, w_calli6, w_call7, w_callv7, w_calli7, w_call8, w_callv8, w_calli8, c_if0_eq_t, c_if0_eq_f, c_if2_eq_t, c_if2_eq_f, c_if0_ne_t, c_if0_ne_f, c_if2_ne_t, c_if2_ne_f, c_if0_lt_t, c_if0_lt_f, c_if2_lt_t, c_if2_lt_f, c_if0_ge_t, c_if0_ge_f, c_if2_ge_t, c_if2_ge_f, c_if0_gt_t, c_if0_gt_f, c_if2_gt_t, c_if2_gt_f, c_if0_le_t, c_if0_le_f, c_if2_le_t, c_if2_le_f, w_nil, uI_s, uA_r, uA_s, uD_d, mPut_0, mCl_own, mCv_go, mCl_min, mCl_cpy, mCv_obj, mAct_len, mAct_chrc, mAft_v, mAft_n, mAft_x, mGet_0, mSet_0, mGet_1, mSet_1, mGet_2, mSet_2, mGet_3, mSet_3, mGet_4, mSet_4, mGet_5, mSet_5, mGet_6, mSet_6, mGet_7, mSet_7, mGet_8, mSet_8, mGet_9, mSet_9, mGet_10, mSet_10, mGet_11, mSet_11, mGet_12, mSet_12, mGet_13, mSet_13, bk_Rd_split_17, yr_k hr, yr_0 hr, yr_k0 hr, yr_l0 hr, yr_3 hr, yr_k3 hr, yr_l3 hr, yr_4 hr, yr_k4 hr, yr_l4 hr, yr_5 hr, yr_k5 hr, yr_l5 hr, yr_9 hr, yr_k9 hr, yr_l9 hr, yr_11 hr, hN, g1, zSt1_1 hs.1]
      refine p_addTok D hr hG ht hN hT (by omega) (by omega) i0 (by omega) n9 (fun I1 f u6 u2 u3 u4 => ?_)
      simp (disch := first | omega | exact Nat.le_of_ble_eq_true rfl) only [w_iconst, w_bipush, w_sipush, w_ldc_s, w_ldcw_s, w_ldc_i, w_ldcw_i, w_lconst, w_fconst, w_dconst, w_iload, w_iload_n, w_aload, w_aload_n, w_dload, w_istore, w_istore_n, w_astore_r, w_astore_s, w_astore_n_r, w_astore_n_s, w_dstore, w_iinc, w_iadd, w_isub, w_imul, w_iand, w_iushr, v_idiv, v_irem, w_ineg, w_i2l, w_i2c, w_i2f, w_i2d, v_f2d, w_lcmp, w_dcmp, v_fdiv, v_ddiv, w_dup_i, w_dup_r, w_dup2, w_dup_x2, w_pop_i, w_pop_r, w_goto, w_switch, w_ret_i, v_ret_z, v_ret_c, w_ret_a, w_ret_s, w_ret_f, w_ret_d, w_ret_v, v_iaload, v_baload, v_caload, v_laload, v_aaload, v_iastore, v_bastore, v_castore, v_lastore, v_aastore, v_alen, v_newa, v_anewa, w_new, w_throw, w_dead, v_getf_i, v_getf_z, v_getf_r, v_putf_i, v_putf_z, v_putf_r, w_call0, w_call1, w_callv1, w_calli1, w_callt1, w_call2, w_callv2, w_calli2, w_callt2, w_call3, w_callv3, w_calli3, w_call4, w_callv4, w_calli4, w_call5, w_callv5, w_calli5, w_call6, w_callv6, w_calli6, w_call7, w_callv7, w_calli7, w_call8, w_callv8, w_calli8, c_if0_eq_t, c_if0_eq_f, c_if2_eq_t, c_if2_eq_f, c_if0_ne_t, c_if0_ne_f, c_if2_ne_t, c_if2_ne_f, c_if0_lt_t, c_if0_lt_f, c_if2_lt_t, c_if2_lt_f, c_if0_ge_t, c_if0_ge_f, c_if2_ge_t, c_if2_ge_f, c_if0_gt_t, c_if0_gt_f, c_if2_gt_t, c_if2_gt_f, c_if0_le_t, c_if0_le_f, c_if2_le_t, c_if2_le_f, w_nil, uI_s, uA_r, uA_s, uD_d, mPut_0, mCl_own, mCv_go, mCl_min, mCl_cpy, mCv_obj, mAct_len, mAct_chrc, mAft_v, mAft_n, mAft_x, mGet_0, mSet_0, mGet_1, mSet_1, mGet_2, mSet_2, mGet_3, mSet_3, mGet_4, mSet_4, mGet_5, mSet_5, mGet_6, mSet_6, mGet_7, mSet_7, mGet_8, mSet_8, mGet_9, mSet_9, mGet_10, mSet_10, mGet_11, mSet_11, mGet_12, mSet_12, mGet_13, mSet_13, a_Rd_split_38, bk_Rd_split_38, wr]
      have eT : ((k : Nat) : Int) + 1 = ((k + 1 : Nat) : Int) := by omega
      refine l_split hr n0 n9 c (i + 1) (k + 1) I1 (by omega) (by omega) (by unfold zSi; rw [f.1 (r - 3 + 1) (by omega) (by omega) (by omega) (by omega), f.1 (r - 3 + 2) (by omega) (by omega) (by omega) (by omega)]; exact hG) ⟨?_, ?_, ?_, fun j j1 => ?_⟩ (by omega) (fun j j0 j1 => hq.2.2 j j0 j1) (fun I' T hT' f1 f2 => kk I' T hT' (fun a a0 a2 a3 a4 => by rw [f1 a a0 a2 a3 a4, f.1 a a0 a2 a3 a4]) (fun j hj => by rw [f2 j hj, f.2.1 j hj]))
      · rw [f.2.1 1 (by decide)]; exact hN
      · unfold zTxR; rw [f.1 (r + 1) (by omega) (by omega) (by omega) (by omega)]; exact ht
      · rw [u6]; exact eT
      · by_cases c1 : j = k
        · rw [c1]
          refine ⟨hP, by rw [u4]; exact e, ?_, ?_⟩
          · rw [u2]
            unfold zK zKd
            rw [Int.toNat_natCast, if_pos hP, ← e]
          · rw [u3]
            unfold zV zVl
            rw [Int.toNat_natCast, ← e]
        · obtain ⟨b2, b3, b4⟩ := f.2.2 (j : Int) (by omega)
          rw [b2, b3, b4]
          exact hj j (by omega)
    · have hs := h2 i (Int.le_refl i) (by omega)
      simp (disch := first | omega | exact Nat.le_of_ble_eq_true rfl | (simp (disch := omega) only [yr_k hr, yr_0 hr, yr_k0 hr, yr_l0 hr, yr_3 hr, yr_k3 hr, yr_l3 hr, yr_4 hr, yr_k4 hr, yr_l4 hr, yr_5 hr, yr_k5 hr, yr_l5 hr, yr_9 hr, yr_k9 hr, yr_l9 hr, yr_11 hr, hN] <;> omega)) only [w_iconst, w_bipush, w_sipush, w_ldc_s, w_ldcw_s, w_ldc_i, w_ldcw_i, w_lconst, w_fconst, w_dconst, w_iload, w_iload_n, w_aload, w_aload_n, w_dload, w_istore, w_istore_n, w_astore_r, w_astore_s, w_astore_n_r, w_astore_n_s, w_dstore, w_iinc, w_iadd, w_isub, w_imul, w_iand, w_iushr, v_idiv, v_irem, w_ineg, w_i2l, w_i2c, w_i2f, w_i2d, v_f2d, w_lcmp, w_dcmp, v_fdiv, v_ddiv, w_dup_i, w_dup_r, w_dup2, w_dup_x2, w_pop_i, w_pop_r, w_goto, w_switch, w_ret_i, v_ret_z, v_ret_c, w_ret_a, w_ret_s, w_ret_f, w_ret_d, w_ret_v, v_iaload, v_baload, v_caload, v_laload, v_aaload, v_iastore, v_bastore, v_castore, v_lastore, v_aastore, v_alen, v_newa, v_anewa, w_new, w_throw, w_dead, v_getf_i, v_getf_z, v_getf_r, v_putf_i, v_putf_z, v_putf_r, w_call0, w_call1, w_callv1, w_calli1, w_callt1, w_call2, w_callv2, w_calli2, w_callt2, w_call3, w_callv3, w_calli3, w_call4, w_callv4, w_calli4, w_call5, w_callv5, w_calli5, w_call6, w_callv6, w_calli6, w_call7, w_callv7, w_calli7, w_call8, w_callv8, w_calli8, c_if0_eq_t, c_if0_eq_f, c_if2_eq_t, c_if2_eq_f, c_if0_ne_t, c_if0_ne_f, c_if2_ne_t, c_if2_ne_f, c_if0_lt_t, c_if0_lt_f, c_if2_lt_t, c_if2_lt_f, c_if0_ge_t, c_if0_ge_f, c_if2_ge_t, c_if2_ge_f, c_if0_gt_t, c_if0_gt_f, c_if2_gt_t, c_if2_gt_f, c_if0_le_t, c_if0_le_f, c_if2_le_t, c_if2_le_f, w_nil, uI_s, uA_r, uA_s, uD_d, mPut_0, mCl_own, mCv_go, mCl_min, mCl_cpy, mCv_obj, mAct_len, mAct_chrc, mAft_v, mAft_n, mAft_x, mGet_0, mSet_0, mGet_1, mSet_1, mGet_2, mSet_2, mGet_3, mSet_3, mGet_4, mSet_4, mGet_5, mSet_5, mGet_6, mSet_6, mGet_7, mSet_7, mGet_8, mSet_8, mGet_9, mSet_9, mGet_10, mSet_10, mGet_11, mSet_11, mGet_12, mSet_12, mGet_13, mSet_13, bk_Rd_split_17, a_Rd_split_38, bk_Rd_split_38, yr_k hr, yr_0 hr, yr_k0 hr, yr_l0 hr, yr_3 hr, yr_k3 hr, yr_l3 hr, yr_4 hr, yr_k4 hr, yr_l4 hr, yr_5 hr, yr_k5 hr, yr_l5 hr, yr_9 hr, yr_k9 hr, yr_l9 hr, yr_11 hr, hN, g1, zSt1_0 hs, wr]
      exact l_split hr n0 n9 c (i + 1) k I (by omega) (by omega) hG ⟨hN, ht, hT, hj⟩ (by omega) (fun j j0 j1 => h2 j (by omega) j1) kk
theorem p_split (hr : yRd S r) (hG : zSi I r) (n0 : 0 ≤ N) (n9 : N ≤ 900) (hN : I r 1 = N) (ht : zTxR I r tx N) (kk : ∀ (I' : mN) (T : Nat), rTok I' r tx N T → rFr I I' r → I' r 7 = 0 → I' r 8 = 0 → Q (.inl none) I' S) : mRun (D + 5) 71 [mR r] I S Q := by
  have hb := zP_b (tx := tx) n0 n9 0
  simp (disch := first | omega | exact Nat.le_of_ble_eq_true rfl | (simp (disch := omega) only [yr_k hr, yr_0 hr, yr_k0 hr, yr_l0 hr, yr_3 hr, yr_k3 hr, yr_l3 hr, yr_4 hr, yr_k4 hr, yr_l4 hr, yr_5 hr, yr_k5 hr, yr_l5 hr, yr_9 hr, yr_k9 hr, yr_l9 hr, yr_11 hr] <;> omega)) only [w_iconst, w_bipush, w_sipush, w_ldc_s, w_ldcw_s, w_ldc_i, w_ldcw_i, w_lconst, w_fconst, w_dconst, w_iload, w_iload_n, w_aload, w_aload_n, w_dload, w_istore, w_istore_n, w_astore_r, w_astore_s, w_astore_n_r, w_astore_n_s, w_dstore, w_iinc, w_iadd, w_isub, w_imul, w_iand, w_iushr, v_idiv, v_irem, w_ineg, w_i2l, w_i2c, w_i2f, w_i2d, v_f2d, w_lcmp, w_dcmp, v_fdiv, v_ddiv, w_dup_i, w_dup_r, w_dup2, w_dup_x2, w_pop_i, w_pop_r, w_goto, w_switch, w_ret_i, v_ret_z, v_ret_c, w_ret_a, w_ret_s, w_ret_f, w_ret_d, w_ret_v, v_iaload, v_baload, v_caload, v_laload, v_aaload, v_iastore, v_bastore, v_castore, v_lastore, v_aastore, v_alen, v_newa, v_anewa, w_new, w_throw, w_dead, v_getf_i, v_getf_z, v_getf_r, v_putf_i, v_putf_z, v_putf_r, w_call0, w_call1, w_callv1, w_calli1, w_callt1, w_call2, w_callv2, w_calli2, w_callt2, w_call3, w_callv3, w_calli3, w_call4, w_callv4, w_calli4, w_call5, w_callv5, w_calli5, w_call6, w_callv6, w_calli6, w_call7, w_callv7, w_calli7, w_call8, w_callv8, w_calli8, c_if0_eq_t, c_if0_eq_f, c_if2_eq_t, c_if2_eq_f, c_if0_ne_t, c_if0_ne_f, c_if2_ne_t, c_if2_ne_f, c_if0_lt_t, c_if0_lt_f, c_if2_lt_t, c_if2_lt_f, c_if0_ge_t, c_if0_ge_f, c_if2_ge_t, c_if2_ge_f, c_if0_gt_t, c_if0_gt_f, c_if2_gt_t, c_if2_gt_f, c_if0_le_t, c_if0_le_f, c_if2_le_t, c_if2_le_f, w_nil, uI_s, uA_r, uA_s, uD_d, mPut_0, mCl_own, mCv_go, mCl_min, mCl_cpy, mCv_obj, mAct_len, mAct_chrc, mAft_v, mAft_n, mAft_x, mGet_0, mSet_0, mGet_1, mSet_1, mGet_2, mSet_2, mGet_3, mSet_3, mGet_4, mSet_4, mGet_5, mSet_5, mGet_6, mSet_6, mGet_7, mSet_7, mGet_8, mSet_8, mGet_9, mSet_9, mGet_10, mSet_10, mGet_11, mSet_11, mGet_12, mSet_12, mGet_13, mSet_13, e_Rd_split, a_Rd_split_0, bk_Rd_split_0, yr_k hr, yr_0 hr, yr_k0 hr, yr_l0 hr, yr_3 hr, yr_k3 hr, yr_l3 hr, yr_4 hr, yr_k4 hr, yr_l4 hr, yr_5 hr, yr_k5 hr, yr_l5 hr, yr_9 hr, yr_k9 hr, yr_l9 hr, yr_11 hr]
  refine l_split D hr n0 n9 N.toNat 0 0 _ (by omega) (Int.le_refl 0) (by unfold zSi; rw [up_fa (by omega), up_fa (by omega), up_fa (by omega), up_fa (by omega), up_fa (by omega), up_fa (by omega)]; exact hG) ⟨?_, ?_, ?_, fun j j1 => by omega⟩ hb.1 (zP_0 n0 n9) (fun I' T hT f1 f2 => kk I' T hT ⟨fun a a0 a2 a3 a4 => ?_, fun j h6 h7 h8 => ?_⟩ ?_ ?_)
  · rw [up_nk (by decide), up_nk (by decide), up_nk (by decide)]; exact hN
  · unfold zTxR; rw [up_fa (by omega), up_fa (by omega), up_fa (by omega)]; exact ht
  · rw [up_nk (by decide), up_nk (by decide), up_eq rfl rfl]; rfl
  · rw [f1 a a0 a2 a3 a4, up_fa a0, up_fa a0, up_fa a0]
  · rw [f2 j h6, up_nk h8, up_nk h7, up_nk h6]
  · rw [f2 7 (by decide), up_nk (by decide), up_eq rfl rfl]
  · rw [f2 8 (by decide), up_eq rfl rfl]
end ZF2
