/-! A text taken as a basin, by the office. -/
theorem sWf_0 : sWf (fun _ => 0) := by
  have k60 : (0 : Int) ≤ 0 ∧ (0 : Int) ≤ 60 := by decide
  have k1000 : (0 : Int) ≤ 0 ∧ (0 : Int) ≤ 1000 := by decide
  have k40 : (0 : Int) ≤ 0 ∧ (0 : Int) ≤ 40 := by decide
  have k2 : (0 : Int) ≤ 0 ∧ (0 : Int) ≤ 2 := by decide
  have k51 : (0 : Int) ≤ 0 ∧ (0 : Int) ≤ 51 := by decide
  refine ⟨by decide, fun p _ _ => ⟨k60, k1000, fun _ _ _ => k1000, fun _ _ _ _ _ _ => k40⟩, fun r _ _ => ⟨k2, fun _ _ _ => ⟨k51, k1000⟩⟩, fun r r0 r1 => ?_, fun i i0 i1 => ?_, fun p w _ _ _ _ => ?_, fun _ _ _ => ⟨rfl, rfl, fun _ _ _ => ⟨rfl, rfl, fun _ _ _ => rfl⟩⟩, fun _ _ _ => ⟨fun _ _ _ => rfl, fun _ _ _ => rfl⟩, fun _ _ _ => ⟨fun _ _ _ => rfl, fun _ _ _ => ⟨rfl, rfl⟩⟩⟩
  · have r1 : r < 0 := r1
    omega
  · have i1 : i < 0 := i1
    omega
  · rfl
theorem sZ_0 : sZ (fun _ => 0) := fun _ _ => rfl
section QB
variable {S : mH} {I : mN} {Q : mQ} {r b : Int} {tx : Int → Int} {N : Int} {T : Nat} {t : Int} {σ : sT}
theorem p_reset (E : Nat) (hB : yB S b) (ho : yOk I b) (k : ∀ I' : mN, (∀ a : Int, (a < b ∨ b + 106 ≤ a) → I' a = I a) → yS I' b (fun _ => 0) → yOk I' b → yF0 I' b → Q (.inl none) I' S) : mRun (E + 2) 4 [mR b] I S Q := by
  have g : ∀ (I : mN) (Q : mQ), mRun (E + 1) 6 [mR b] I S Q = Q (.inl none) (mUp (mUp (mUp (mUp I (b + 4) 0 0) (b + 4) 1 0) (b + 4) 2 0) b 8 0) S := fun I Q => r_forgetP E hB
  simp (disch := first | omega | exact Nat.le_of_ble_eq_true rfl | (simp (disch := omega) only [yb_k hB, yb_4 hB, yb_5 hB, yb_6 hB, yb_7 hB, yb_k1 hB, yb_l1 hB, yb_k2 hB, yb_l2 hB, yb_k3 hB, yb_l3 hB, yb_k4 hB, yb_l4 hB, yb_p hB, yb_pk hB, yb_p1 hB, yb_pk1 hB, yb_pl1 hB, yb_p2 hB, yb_pk2 hB, yb_pl2 hB, yb_p3 hB, yb_pk3 hB, yb_pl3 hB, yb_r hB, yb_rk hB, yb_r3 hB, yb_rk3 hB, yb_rl3 hB, yb_r4 hB, yb_rk4 hB, yb_rl4 hB, yb_g hB, yb_gk hB, yb_g7 hB, yb_gk7 hB, yb_gl7 hB, yb_g8 hB, yb_gk8 hB, yb_gl8 hB, yb_g9 hB, yb_gk9 hB, yb_gl9 hB, yb_g10 hB, yb_gk10 hB, yb_gl10 hB] <;> omega)) only [w_iconst, w_bipush, w_sipush, w_ldc_s, w_ldcw_s, w_ldc_i, w_ldcw_i, w_lconst, w_fconst, w_dconst, w_iload, w_iload_n, w_aload, w_aload_n, w_dload, w_istore, w_istore_n, w_astore_r, w_astore_s, w_astore_n_r, w_astore_n_s, w_dstore, w_iinc, w_iadd, w_isub, w_imul, w_iand, w_iushr, v_idiv, v_irem, w_ineg, w_i2l, w_i2c, w_i2f, w_i2d, v_f2d, w_lcmp, w_dcmp, v_fdiv, v_ddiv, w_dup_i, w_dup_r, w_dup2, w_dup_x2, w_pop_i, w_pop_r, w_goto, w_switch, w_ret_i, v_ret_z, v_ret_c, w_ret_a, w_ret_s, w_ret_f, w_ret_d, w_ret_v, v_iaload, v_baload, v_caload, v_laload, v_aaload, v_iastore, v_bastore, v_castore, v_lastore, v_aastore, v_alen, v_newa, v_anewa, w_new, w_throw, w_dead, v_getf_i, v_getf_z, v_getf_r, v_putf_i, v_putf_z, v_putf_r, w_call0, w_call1, w_callv1, w_calli1, w_callt1, w_call2, w_callv2, w_calli2, w_callt2, w_call3, w_callv3, w_calli3, w_call4, w_callv4, w_calli4, w_call5, w_callv5, w_calli5, w_call6, w_callv6, w_calli6, w_call7, w_callv7, w_calli7, w_call8, w_callv8, w_calli8, c_if0_eq_t, c_if0_eq_f, c_if2_eq_t, c_if2_eq_f, c_if0_ne_t, c_if0_ne_f, c_if2_ne_t, c_if2_ne_f, c_if0_lt_t, c_if0_lt_f, c_if2_lt_t, c_if2_lt_f, c_if0_ge_t, c_if0_ge_f, c_if2_ge_t, c_if2_ge_f, c_if0_gt_t, c_if0_gt_f, c_if2_gt_t, c_if2_gt_f, c_if0_le_t, c_if0_le_f, c_if2_le_t, c_if2_le_f, w_nil, uI_s, uA_r, uA_s, uD_d, mPut_0, mCl_own, mCv_go, mCl_min, mCl_cpy, mCv_obj, mAct_len, mAct_chrc, mAft_v, mAft_n, mAft_x, mGet_0, mSet_0, mGet_1, mSet_1, mGet_2, mSet_2, mGet_3, mSet_3, mGet_4, mSet_4, mGet_5, mSet_5, mGet_6, mSet_6, mGet_7, mSet_7, mGet_8, mSet_8, mGet_9, mSet_9, mGet_10, mSet_10, mGet_11, mSet_11, mGet_12, mSet_12, mGet_13, mSet_13, e_Ba_reset, a_Ba_reset_0, bk_Ba_reset_0, yb_k hB, yb_4 hB, yb_5 hB, yb_6 hB, yb_7 hB, yb_k1 hB, yb_l1 hB, yb_k2 hB, yb_l2 hB, yb_k3 hB, yb_l3 hB, yb_k4 hB, yb_l4 hB, yb_p hB, yb_pk hB, yb_p1 hB, yb_pk1 hB, yb_pl1 hB, yb_p2 hB, yb_pk2 hB, yb_pl2 hB, yb_p3 hB, yb_pk3 hB, yb_pl3 hB, yb_r hB, yb_rk hB, yb_r3 hB, yb_rk3 hB, yb_rl3 hB, yb_r4 hB, yb_rk4 hB, yb_rl4 hB, yb_g hB, yb_gk hB, yb_g7 hB, yb_gk7 hB, yb_gl7 hB, yb_g8 hB, yb_gk8 hB, yb_gl8 hB, yb_g9 hB, yb_gk9 hB, yb_gl9 hB, yb_g10 hB, yb_gk10 hB, yb_gl10 hB, g]
  generalize hI1 : mUp (mUp (mUp (mUp I b 0 0) b 1 0) b 2 0) b 3 0 = I1
  have e1 : ∀ a : Int, a ≠ b → I1 a = I a := fun a ha => by rw [← hI1, up_fa ha, up_fa ha, up_fa ha, up_fa ha]
  have z0 : I1 b 0 = 0 := by rw [← hI1, up_nk (by decide), up_nk (by decide), up_nk (by decide), up_eq rfl rfl]
  have z1 : I1 b 1 = 0 := by rw [← hI1, up_nk (by decide), up_nk (by decide), up_eq rfl rfl]
  have z2 : I1 b 2 = 0 := by rw [← hI1, up_nk (by decide), up_eq rfl rfl]
  have z3 : I1 b 3 = 0 := by rw [← hI1, up_eq rfl rfl]
  generalize hI2 : mUp (mUp (mUp (mUp I1 (b + 4) 0 0) (b + 4) 1 0) (b + 4) 2 0) b 8 0 = I2
  have e2 : ∀ a : Int, a ≠ b → a ≠ b + 4 → I2 a = I a := fun a ha h4 => by rw [← hI2, up_fa ha, up_fa h4, up_fa h4, up_fa h4]; exact e1 a ha
  have f2 : ∀ f : Int, f ≠ 8 → I2 b f = I1 b f := fun f hf => by rw [← hI2, up_nk hf, up_fa (by omega), up_fa (by omega), up_fa (by omega)]
  have hf0 : yF0 I2 b := by
    refine ⟨fun s s0 s1 => ?_, by rw [← hI2, up_eq rfl rfl]⟩
    rw [← hI2, up_fa (by omega)]
    by_cases c2 : s = 2
    · rw [up_eq rfl c2]
    · rw [up_nk c2]
      by_cases c1 : s = 1
      · rw [up_eq rfl c1]
      · rw [up_nk c1, up_eq rfl (by omega)]
  have hs : yS I2 b (fun _ => 0) := yS_mk hf0 ⟨by rw [f2 0 (by decide)]; exact z0, by rw [f2 1 (by decide)]; exact z1, by rw [f2 2 (by decide)]; exact z2, by rw [f2 3 (by decide)]; exact z3⟩ (fun p p0 p1 => by have p1 : p < 0 := p1; omega) (fun q q0 q1 => by have q1 : q < 0 := q1; omega) (fun i i0 i1 => by have i1 : i < 0 := i1; omega)
  refine k I2 (fun a ha => e2 a (by omega) (by omega)) hs ?_ hf0
  obtain ⟨⟨p1, p2, p3, p4⟩, r2, r3, r4, r5⟩ := ho
  refine ⟨⟨?_, fun p q0 q1 => ?_, fun q q0 q1 => ?_, fun q q0 q1 => ?_⟩, fun q q0 q1 => ?_, fun q q0 q1 => ?_, fun s s0 s1 => Or.inl (hf0.1 s s0 s1), Or.inl hf0.2⟩
  · rw [f2 0 (by decide), f2 1 (by decide), f2 2 (by decide), f2 3 (by decide), z0, z1, z2, z3]; decide
  · rw [e2 (b + (5 + 4 * p)) (by omega) (by omega), e2 (b + (5 + 4 * p) + 1) (by omega) (by omega), e2 (b + (5 + 4 * p) + 3) (by omega) (by omega)]; exact p2 p q0 q1
  · rw [e2 (b + (29 + 3 * q)) (by omega) (by omega), e2 (b + (29 + 3 * q) + 1) (by omega) (by omega), e2 (b + (29 + 3 * q) + 2) (by omega) (by omega)]; exact p3 q q0 q1
  · rw [f2 2 (by decide), z2] at q1
    omega
  · rw [e2 (b + (56 + 5 * q)) (by omega) (by omega), e2 (b + (56 + 5 * q) + 3) (by omega) (by omega), e2 (b + (56 + 5 * q) + 4) (by omega) (by omega)]; exact r2 q q0 q1
  · rw [f2 3 (by decide), z3] at q1
    omega
def oE2 (I : mN) (r b : Int) (tx : Int → Int) (N : Int) (T : Nat) (q : zRr) : Prop := (q.1 = 1 ∧ oSt I r b tx N T q.2.2 q.2.1 ∧ zK tx N q.2.1 = 0) ∨ (q.1 = 0 ∧ ((oFl I r b tx N T q.2.1) ∨ ∃ σ : sT, oSt I r b tx N T σ q.2.1 ∧ zK tx N q.2.1 ≠ 0))
theorem qBs_e (n : Nat) (σ : sT) (t : Int) : qBs tx N (n + 1) σ t = if zK tx N t = 0 then (1, t, σ) else if (qSt tx N σ t).1 = 1 then (if zK tx N (qSt tx N σ t).2.1 = 3 then qBs tx N n (qSt tx N σ t).2.2 ((qSt tx N σ t).2.1 + 1) else (0, (qSt tx N σ t).2.1, fun _ => 0)) else (0, (qSt tx N σ t).2.1, fun _ => 0) := rfl
theorem l_tb (E : Nat) (hrb : b + 106 ≤ r) (hB : yB S b) (n0 : 0 ≤ N) (n9 : N ≤ 900) (hr : yRd S r) (h01 : ∀ (σ : sT) (t : Int), (qSt tx N σ t).1 = 0 ∨ (qSt tx N σ t).1 = 1) : ∀ (n : Nat) (cnt : Int) (I : mN) (σ : sT) (t : Int), cnt + n = 900 → 0 ≤ cnt → oSt I r b tx N T σ t → (∀ (I' : mN) (cnt' : Int), rFs I I' r b → oE2 I' r b tx N T (qBs tx N n σ t) → mAt (mRun (E + 45)) 68 58 ([some (mR r), some (mR b), some (mI cnt')], [], I', S) Q) → mAt (mRun (E + 45)) 68 21 ([some (mR r), some (mR b), some (mI cnt)], [], I, S) Q
  | 0, cnt, I, σ, t, hc, c0, h, kk => by
    obtain rfl : cnt = 900 := by omega
    rw [a_Rd_takeBasin_21]
    simp (disch := first | omega | exact Nat.le_of_ble_eq_true rfl) only [w_iconst, w_bipush, w_sipush, w_ldc_s, w_ldcw_s, w_ldc_i, w_ldcw_i, w_lconst, w_fconst, w_dconst, w_iload, w_iload_n, w_aload, w_aload_n, w_dload, w_istore, w_istore_n, w_astore_r, w_astore_s, w_astore_n_r, w_astore_n_s, w_dstore, w_iinc, w_iadd, w_isub, w_imul, w_iand, w_iushr, v_idiv, v_irem, w_ineg, w_i2l, w_i2c, w_i2f, w_i2d, v_f2d, w_lcmp, w_dcmp, v_fdiv, v_ddiv, w_dup_i, w_dup_r, w_dup2, w_dup_x2, w_pop_i, w_pop_r, w_goto, w_switch, w_ret_i, v_ret_z, v_ret_c, w_ret_a, w_ret_s, w_ret_f, w_ret_d, w_ret_v, v_iaload, v_baload, v_caload, v_laload, v_aaload, v_iastore, v_bastore, v_castore, v_lastore, v_aastore, v_alen, v_newa, v_anewa, w_new, w_throw, w_dead, v_getf_i, v_getf_z, v_getf_r, v_putf_i, v_putf_z, v_putf_r, w_call0, w_call1, w_callv1, w_calli1, w_callt1, w_call2, w_callv2, w_calli2, w_callt2, w_call3, w_callv3, w_calli3, w_call4, w_callv4, w_calli4, w_call5, w_callv5, w_calli5, w_call6, w_callv6, w_calli6, w_call7, w_callv7, w_calli7, w_call8, w_callv8, w_calli8, c_if0_eq_t, c_if0_eq_f, c_if2_eq_t, c_if2_eq_f, c_if0_ne_t, c_if0_ne_f, c_if2_ne_t, c_if2_ne_f, c_if0_lt_t, c_if0_lt_f, c_if2_lt_t, c_if2_lt_f, c_if0_ge_t, c_if0_ge_f, c_if2_ge_t, c_if2_ge_f, c_if0_gt_t, c_if0_gt_f, c_if2_gt_t, c_if2_gt_f, c_if0_le_t, c_if0_le_f, c_if2_le_t, c_if2_le_f, w_nil, uI_s, uA_r, uA_s, uD_d, mPut_0, mCl_own, mCv_go, mCl_min, mCl_cpy, mCv_obj, mAct_len, mAct_chrc, mAft_v, mAft_n, mAft_x, mGet_0, mSet_0, mGet_1, mSet_1, mGet_2, mSet_2, mGet_3, mSet_3, mGet_4, mSet_4, mGet_5, mSet_5, mGet_6, mSet_6, mGet_7, mSet_7, mGet_8, mSet_8, mGet_9, mSet_9, mGet_10, mSet_10, mGet_11, mSet_11, mGet_12, mSet_12, mGet_13, mSet_13, bk_Rd_takeBasin_21]
    refine kk I 900 (rFs_r I r b) ?_
    have e : qBs tx N 0 σ t = if zK tx N t = 0 then (1, t, σ) else (0, t, fun _ => 0) := rfl
    rw [e]
    by_cases c : zK tx N t = 0
    · rw [if_pos c]; exact Or.inl ⟨rfl, h, c⟩
    · rw [if_neg c]; exact Or.inr ⟨rfl, Or.inr ⟨σ, h, c⟩⟩
  | n + 1, cnt, I, σ, t, hc, c0, h, kk => by
    have gk : ∀ Q : mQ, mRun (E + 45) 78 [mR r] I S Q = Q (.inl (some (mI (zK tx N t)))) I S := fun Q => r_kind (E + 44) n0 n9 hr h.1
    have w8 := h.1.2.2.1
    rw [qBs_e] at kk
    rw [a_Rd_takeBasin_21]
    by_cases c : zK tx N t = 0
    · rw [if_pos c] at kk
      rw [c] at gk
      simp (disch := first | omega | exact Nat.le_of_ble_eq_true rfl | (simp (disch := omega) only [yr_k hr, yr_0 hr, yr_k0 hr, yr_l0 hr, yr_3 hr, yr_k3 hr, yr_l3 hr, yr_4 hr, yr_k4 hr, yr_l4 hr, yr_5 hr, yr_k5 hr, yr_l5 hr, yr_9 hr, yr_k9 hr, yr_l9 hr, yr_11 hr, w8] <;> omega)) only [w_iconst, w_bipush, w_sipush, w_ldc_s, w_ldcw_s, w_ldc_i, w_ldcw_i, w_lconst, w_fconst, w_dconst, w_iload, w_iload_n, w_aload, w_aload_n, w_dload, w_istore, w_istore_n, w_astore_r, w_astore_s, w_astore_n_r, w_astore_n_s, w_dstore, w_iinc, w_iadd, w_isub, w_imul, w_iand, w_iushr, v_idiv, v_irem, w_ineg, w_i2l, w_i2c, w_i2f, w_i2d, v_f2d, w_lcmp, w_dcmp, v_fdiv, v_ddiv, w_dup_i, w_dup_r, w_dup2, w_dup_x2, w_pop_i, w_pop_r, w_goto, w_switch, w_ret_i, v_ret_z, v_ret_c, w_ret_a, w_ret_s, w_ret_f, w_ret_d, w_ret_v, v_iaload, v_baload, v_caload, v_laload, v_aaload, v_iastore, v_bastore, v_castore, v_lastore, v_aastore, v_alen, v_newa, v_anewa, w_new, w_throw, w_dead, v_getf_i, v_getf_z, v_getf_r, v_putf_i, v_putf_z, v_putf_r, w_call0, w_call1, w_callv1, w_calli1, w_callt1, w_call2, w_callv2, w_calli2, w_callt2, w_call3, w_callv3, w_calli3, w_call4, w_callv4, w_calli4, w_call5, w_callv5, w_calli5, w_call6, w_callv6, w_calli6, w_call7, w_callv7, w_calli7, w_call8, w_callv8, w_calli8, c_if0_eq_t, c_if0_eq_f, c_if2_eq_t, c_if2_eq_f, c_if0_ne_t, c_if0_ne_f, c_if2_ne_t, c_if2_ne_f, c_if0_lt_t, c_if0_lt_f, c_if2_lt_t, c_if2_lt_f, c_if0_ge_t, c_if0_ge_f, c_if2_ge_t, c_if2_ge_f, c_if0_gt_t, c_if0_gt_f, c_if2_gt_t, c_if2_gt_f, c_if0_le_t, c_if0_le_f, c_if2_le_t, c_if2_le_f, w_nil, uI_s, uA_r, uA_s, uD_d, mPut_0, mCl_own, mCv_go, mCl_min, mCl_cpy, mCv_obj, mAct_len, mAct_chrc, mAft_v, mAft_n, mAft_x, mGet_0, mSet_0, mGet_1, mSet_1, mGet_2, mSet_2, mGet_3, mSet_3, mGet_4, mSet_4, mGet_5, mSet_5, mGet_6, mSet_6, mGet_7, mSet_7, mGet_8, mSet_8, mGet_9, mSet_9, mGet_10, mSet_10, mGet_11, mSet_11, mGet_12, mSet_12, mGet_13, mSet_13, bk_Rd_takeBasin_21, yr_k hr, yr_0 hr, yr_k0 hr, yr_l0 hr, yr_3 hr, yr_k3 hr, yr_l3 hr, yr_4 hr, yr_k4 hr, yr_l4 hr, yr_5 hr, yr_k5 hr, yr_l5 hr, yr_9 hr, yr_k9 hr, yr_l9 hr, yr_11 hr, gk, w8]
      exact kk I cnt (rFs_r I r b) (Or.inl ⟨rfl, h, c⟩)
    · rw [if_neg c] at kk
      simp (disch := first | omega | exact Nat.le_of_ble_eq_true rfl | (simp (disch := omega) only [yr_k hr, yr_0 hr, yr_k0 hr, yr_l0 hr, yr_3 hr, yr_k3 hr, yr_l3 hr, yr_4 hr, yr_k4 hr, yr_l4 hr, yr_5 hr, yr_k5 hr, yr_l5 hr, yr_9 hr, yr_k9 hr, yr_l9 hr, yr_11 hr, w8] <;> omega)) only [w_iconst, w_bipush, w_sipush, w_ldc_s, w_ldcw_s, w_ldc_i, w_ldcw_i, w_lconst, w_fconst, w_dconst, w_iload, w_iload_n, w_aload, w_aload_n, w_dload, w_istore, w_istore_n, w_astore_r, w_astore_s, w_astore_n_r, w_astore_n_s, w_dstore, w_iinc, w_iadd, w_isub, w_imul, w_iand, w_iushr, v_idiv, v_irem, w_ineg, w_i2l, w_i2c, w_i2f, w_i2d, v_f2d, w_lcmp, w_dcmp, v_fdiv, v_ddiv, w_dup_i, w_dup_r, w_dup2, w_dup_x2, w_pop_i, w_pop_r, w_goto, w_switch, w_ret_i, v_ret_z, v_ret_c, w_ret_a, w_ret_s, w_ret_f, w_ret_d, w_ret_v, v_iaload, v_baload, v_caload, v_laload, v_aaload, v_iastore, v_bastore, v_castore, v_lastore, v_aastore, v_alen, v_newa, v_anewa, w_new, w_throw, w_dead, v_getf_i, v_getf_z, v_getf_r, v_putf_i, v_putf_z, v_putf_r, w_call0, w_call1, w_callv1, w_calli1, w_callt1, w_call2, w_callv2, w_calli2, w_callt2, w_call3, w_callv3, w_calli3, w_call4, w_callv4, w_calli4, w_call5, w_callv5, w_calli5, w_call6, w_callv6, w_calli6, w_call7, w_callv7, w_calli7, w_call8, w_callv8, w_calli8, c_if0_eq_t, c_if0_eq_f, c_if2_eq_t, c_if2_eq_f, c_if0_ne_t, c_if0_ne_f, c_if2_ne_t, c_if2_ne_f, c_if0_lt_t, c_if0_lt_f, c_if2_lt_t, c_if2_lt_f, c_if0_ge_t, c_if0_ge_f, c_if2_ge_t, c_if2_ge_f, c_if0_gt_t, c_if0_gt_f, c_if2_gt_t, c_if2_gt_f, c_if0_le_t, c_if0_le_f, c_if2_le_t, c_if2_le_f, w_nil, uI_s, uA_r, uA_s, uD_d, mPut_0, mCl_own, mCv_go, mCl_min, mCl_cpy, mCv_obj, mAct_len, mAct_chrc, mAft_v, mAft_n, mAft_x, mGet_0, mSet_0, mGet_1, mSet_1, mGet_2, mSet_2, mGet_3, mSet_3, mGet_4, mSet_4, mGet_5, mSet_5, mGet_6, mSet_6, mGet_7, mSet_7, mGet_8, mSet_8, mGet_9, mSet_9, mGet_10, mSet_10, mGet_11, mSet_11, mGet_12, mSet_12, mGet_13, mSet_13, bk_Rd_takeBasin_21, yr_k hr, yr_0 hr, yr_k0 hr, yr_l0 hr, yr_3 hr, yr_k3 hr, yr_l3 hr, yr_4 hr, yr_k4 hr, yr_l4 hr, yr_5 hr, yr_k5 hr, yr_l5 hr, yr_9 hr, yr_k9 hr, yr_l9 hr, yr_11 hr, gk, w8]
      refine p_stmt E hrb hB n0 n9 hr h (fun I1 f1 q1 q0 => ?_)
      have stopped : ∀ (I2 : mN) (cnt : Int), rFs I I2 r b → I2 r 8 = 1 → cnt < 900 → oE2 I2 r b tx N T (if (qSt tx N σ t).1 = 1 then (if zK tx N (qSt tx N σ t).2.1 = 3 then qBs tx N n (qSt tx N σ t).2.2 ((qSt tx N σ t).2.1 + 1) else (0, (qSt tx N σ t).2.1, fun _ => 0)) else (0, (qSt tx N σ t).2.1, fun _ => 0)) → mAt (mRun (E + 45)) 68 21 ([some (mR r), some (mR b), some (mI cnt)], [], I2, S) Q := fun I2 cnt f2 v8 hc h9 => by
        rw [a_Rd_takeBasin_21]
        simp (disch := first | omega | exact Nat.le_of_ble_eq_true rfl | (simp (disch := omega) only [yr_k hr, yr_0 hr, yr_k0 hr, yr_l0 hr, yr_3 hr, yr_k3 hr, yr_l3 hr, yr_4 hr, yr_k4 hr, yr_l4 hr, yr_5 hr, yr_k5 hr, yr_l5 hr, yr_9 hr, yr_k9 hr, yr_l9 hr, yr_11 hr, v8] <;> omega)) only [w_iconst, w_bipush, w_sipush, w_ldc_s, w_ldcw_s, w_ldc_i, w_ldcw_i, w_lconst, w_fconst, w_dconst, w_iload, w_iload_n, w_aload, w_aload_n, w_dload, w_istore, w_istore_n, w_astore_r, w_astore_s, w_astore_n_r, w_astore_n_s, w_dstore, w_iinc, w_iadd, w_isub, w_imul, w_iand, w_iushr, v_idiv, v_irem, w_ineg, w_i2l, w_i2c, w_i2f, w_i2d, v_f2d, w_lcmp, w_dcmp, v_fdiv, v_ddiv, w_dup_i, w_dup_r, w_dup2, w_dup_x2, w_pop_i, w_pop_r, w_goto, w_switch, w_ret_i, v_ret_z, v_ret_c, w_ret_a, w_ret_s, w_ret_f, w_ret_d, w_ret_v, v_iaload, v_baload, v_caload, v_laload, v_aaload, v_iastore, v_bastore, v_castore, v_lastore, v_aastore, v_alen, v_newa, v_anewa, w_new, w_throw, w_dead, v_getf_i, v_getf_z, v_getf_r, v_putf_i, v_putf_z, v_putf_r, w_call0, w_call1, w_callv1, w_calli1, w_callt1, w_call2, w_callv2, w_calli2, w_callt2, w_call3, w_callv3, w_calli3, w_call4, w_callv4, w_calli4, w_call5, w_callv5, w_calli5, w_call6, w_callv6, w_calli6, w_call7, w_callv7, w_calli7, w_call8, w_callv8, w_calli8, c_if0_eq_t, c_if0_eq_f, c_if2_eq_t, c_if2_eq_f, c_if0_ne_t, c_if0_ne_f, c_if2_ne_t, c_if2_ne_f, c_if0_lt_t, c_if0_lt_f, c_if2_lt_t, c_if2_lt_f, c_if0_ge_t, c_if0_ge_f, c_if2_ge_t, c_if2_ge_f, c_if0_gt_t, c_if0_gt_f, c_if2_gt_t, c_if2_gt_f, c_if0_le_t, c_if0_le_f, c_if2_le_t, c_if2_le_f, w_nil, uI_s, uA_r, uA_s, uD_d, mPut_0, mCl_own, mCv_go, mCl_min, mCl_cpy, mCv_obj, mAct_len, mAct_chrc, mAft_v, mAft_n, mAft_x, mGet_0, mSet_0, mGet_1, mSet_1, mGet_2, mSet_2, mGet_3, mSet_3, mGet_4, mSet_4, mGet_5, mSet_5, mGet_6, mSet_6, mGet_7, mSet_7, mGet_8, mSet_8, mGet_9, mSet_9, mGet_10, mSet_10, mGet_11, mSet_11, mGet_12, mSet_12, mGet_13, mSet_13, bk_Rd_takeBasin_21, yr_k hr, yr_0 hr, yr_k0 hr, yr_l0 hr, yr_3 hr, yr_k3 hr, yr_l3 hr, yr_4 hr, yr_k4 hr, yr_l4 hr, yr_5 hr, yr_k5 hr, yr_l5 hr, yr_9 hr, yr_k9 hr, yr_l9 hr, yr_11 hr, v8]
        exact kk I2 cnt f2 h9
      have atEnd : ∀ (I2 : mN), rFs I I2 r b → I2 r 8 = 1 → oE2 I2 r b tx N T (if (qSt tx N σ t).1 = 1 then (if zK tx N (qSt tx N σ t).2.1 = 3 then qBs tx N n (qSt tx N σ t).2.2 ((qSt tx N σ t).2.1 + 1) else (0, (qSt tx N σ t).2.1, fun _ => 0)) else (0, (qSt tx N σ t).2.1, fun _ => 0)) → mAt (mRun (E + 45)) 68 21 ([some (mR r), some (mR b), some (mI (cnt + 1))], [], I2, S) Q := fun I2 f2 v8 h9 => by
        by_cases cc : cnt + 1 < 900
        · exact stopped I2 (cnt + 1) f2 v8 cc h9
        · rw [a_Rd_takeBasin_21]
          simp (disch := first | omega | exact Nat.le_of_ble_eq_true rfl | (simp (disch := omega) only [yr_k hr, yr_0 hr, yr_k0 hr, yr_l0 hr, yr_3 hr, yr_k3 hr, yr_l3 hr, yr_4 hr, yr_k4 hr, yr_l4 hr, yr_5 hr, yr_k5 hr, yr_l5 hr, yr_9 hr, yr_k9 hr, yr_l9 hr, yr_11 hr, v8] <;> omega)) only [w_iconst, w_bipush, w_sipush, w_ldc_s, w_ldcw_s, w_ldc_i, w_ldcw_i, w_lconst, w_fconst, w_dconst, w_iload, w_iload_n, w_aload, w_aload_n, w_dload, w_istore, w_istore_n, w_astore_r, w_astore_s, w_astore_n_r, w_astore_n_s, w_dstore, w_iinc, w_iadd, w_isub, w_imul, w_iand, w_iushr, v_idiv, v_irem, w_ineg, w_i2l, w_i2c, w_i2f, w_i2d, v_f2d, w_lcmp, w_dcmp, v_fdiv, v_ddiv, w_dup_i, w_dup_r, w_dup2, w_dup_x2, w_pop_i, w_pop_r, w_goto, w_switch, w_ret_i, v_ret_z, v_ret_c, w_ret_a, w_ret_s, w_ret_f, w_ret_d, w_ret_v, v_iaload, v_baload, v_caload, v_laload, v_aaload, v_iastore, v_bastore, v_castore, v_lastore, v_aastore, v_alen, v_newa, v_anewa, w_new, w_throw, w_dead, v_getf_i, v_getf_z, v_getf_r, v_putf_i, v_putf_z, v_putf_r, w_call0, w_call1, w_callv1, w_calli1, w_callt1, w_call2, w_callv2, w_calli2, w_callt2, w_call3, w_callv3, w_calli3, w_call4, w_callv4, w_calli4, w_call5, w_callv5, w_calli5, w_call6, w_callv6, w_calli6, w_call7, w_callv7, w_calli7, w_call8, w_callv8, w_calli8, c_if0_eq_t, c_if0_eq_f, c_if2_eq_t, c_if2_eq_f, c_if0_ne_t, c_if0_ne_f, c_if2_ne_t, c_if2_ne_f, c_if0_lt_t, c_if0_lt_f, c_if2_lt_t, c_if2_lt_f, c_if0_ge_t, c_if0_ge_f, c_if2_ge_t, c_if2_ge_f, c_if0_gt_t, c_if0_gt_f, c_if2_gt_t, c_if2_gt_f, c_if0_le_t, c_if0_le_f, c_if2_le_t, c_if2_le_f, w_nil, uI_s, uA_r, uA_s, uD_d, mPut_0, mCl_own, mCv_go, mCl_min, mCl_cpy, mCv_obj, mAct_len, mAct_chrc, mAft_v, mAft_n, mAft_x, mGet_0, mSet_0, mGet_1, mSet_1, mGet_2, mSet_2, mGet_3, mSet_3, mGet_4, mSet_4, mGet_5, mSet_5, mGet_6, mSet_6, mGet_7, mSet_7, mGet_8, mSet_8, mGet_9, mSet_9, mGet_10, mSet_10, mGet_11, mSet_11, mGet_12, mSet_12, mGet_13, mSet_13, bk_Rd_takeBasin_21, yr_k hr, yr_0 hr, yr_k0 hr, yr_l0 hr, yr_3 hr, yr_k3 hr, yr_l3 hr, yr_4 hr, yr_k4 hr, yr_l4 hr, yr_5 hr, yr_k5 hr, yr_l5 hr, yr_9 hr, yr_k9 hr, yr_l9 hr, yr_11 hr, v8]
          exact kk I2 (cnt + 1) f2 h9
      rcases h01 σ t with hz | hz
      · have hfl := q0 hz
        have g3 : ∀ Q : mQ, mRun (E + 45) 80 [mR r, mI 3] I1 S Q = Q (.inl none) I1 S := fun Q => by rw [r_rtkX (E + 43) hr hfl.1 (by decide), up_id hfl.1]
        simp (disch := first | omega | exact Nat.le_of_ble_eq_true rfl | (simp (disch := omega) only [yr_k hr] <;> omega)) only [w_iconst, w_bipush, w_sipush, w_ldc_s, w_ldcw_s, w_ldc_i, w_ldcw_i, w_lconst, w_fconst, w_dconst, w_iload, w_iload_n, w_aload, w_aload_n, w_dload, w_istore, w_istore_n, w_astore_r, w_astore_s, w_astore_n_r, w_astore_n_s, w_dstore, w_iinc, w_iadd, w_isub, w_imul, w_iand, w_iushr, v_idiv, v_irem, w_ineg, w_i2l, w_i2c, w_i2f, w_i2d, v_f2d, w_lcmp, w_dcmp, v_fdiv, v_ddiv, w_dup_i, w_dup_r, w_dup2, w_dup_x2, w_pop_i, w_pop_r, w_goto, w_switch, w_ret_i, v_ret_z, v_ret_c, w_ret_a, w_ret_s, w_ret_f, w_ret_d, w_ret_v, v_iaload, v_baload, v_caload, v_laload, v_aaload, v_iastore, v_bastore, v_castore, v_lastore, v_aastore, v_alen, v_newa, v_anewa, w_new, w_throw, w_dead, v_getf_i, v_getf_z, v_getf_r, v_putf_i, v_putf_z, v_putf_r, w_call0, w_call1, w_callv1, w_calli1, w_callt1, w_call2, w_callv2, w_calli2, w_callt2, w_call3, w_callv3, w_calli3, w_call4, w_callv4, w_calli4, w_call5, w_callv5, w_calli5, w_call6, w_callv6, w_calli6, w_call7, w_callv7, w_calli7, w_call8, w_callv8, w_calli8, c_if0_eq_t, c_if0_eq_f, c_if2_eq_t, c_if2_eq_f, c_if0_ne_t, c_if0_ne_f, c_if2_ne_t, c_if2_ne_f, c_if0_lt_t, c_if0_lt_f, c_if2_lt_t, c_if2_lt_f, c_if0_ge_t, c_if0_ge_f, c_if2_ge_t, c_if2_ge_f, c_if0_gt_t, c_if0_gt_f, c_if2_gt_t, c_if2_gt_f, c_if0_le_t, c_if0_le_f, c_if2_le_t, c_if2_le_f, w_nil, uI_s, uA_r, uA_s, uD_d, mPut_0, mCl_own, mCv_go, mCl_min, mCl_cpy, mCv_obj, mAct_len, mAct_chrc, mAft_v, mAft_n, mAft_x, mGet_0, mSet_0, mGet_1, mSet_1, mGet_2, mSet_2, mGet_3, mSet_3, mGet_4, mSet_4, mGet_5, mSet_5, mGet_6, mSet_6, mGet_7, mSet_7, mGet_8, mSet_8, mGet_9, mSet_9, mGet_10, mSet_10, mGet_11, mSet_11, mGet_12, mSet_12, mGet_13, mSet_13, yr_k hr, g3, wr]
        refine atEnd I1 f1 hfl.1 ?_
        rw [if_neg (by rw [hz]; decide)]
        exact Or.inr ⟨rfl, Or.inl hfl⟩
      · have h1 := q1 hz
        by_cases c3 : zK tx N (qSt tx N σ t).2.1 = 3
        · have g3 : ∀ Q : mQ, mRun (E + 45) 80 [mR r, mI 3] I1 S Q = Q (.inl none) (mUp I1 r 7 ((qSt tx N σ t).2.1 + 1)) S := fun Q => r_rtk (E + 43) n0 n9 hr h1.1 c3 (by decide)
          have h2 := oSt_s hrb n0 n9 h1 (by omega)
          have f2 : rFs I1 (mUp I1 r 7 ((qSt tx N σ t).2.1 + 1)) r b := rFs_7
          simp (disch := first | omega | exact Nat.le_of_ble_eq_true rfl | (simp (disch := omega) only [yr_k hr] <;> omega)) only [w_iconst, w_bipush, w_sipush, w_ldc_s, w_ldcw_s, w_ldc_i, w_ldcw_i, w_lconst, w_fconst, w_dconst, w_iload, w_iload_n, w_aload, w_aload_n, w_dload, w_istore, w_istore_n, w_astore_r, w_astore_s, w_astore_n_r, w_astore_n_s, w_dstore, w_iinc, w_iadd, w_isub, w_imul, w_iand, w_iushr, v_idiv, v_irem, w_ineg, w_i2l, w_i2c, w_i2f, w_i2d, v_f2d, w_lcmp, w_dcmp, v_fdiv, v_ddiv, w_dup_i, w_dup_r, w_dup2, w_dup_x2, w_pop_i, w_pop_r, w_goto, w_switch, w_ret_i, v_ret_z, v_ret_c, w_ret_a, w_ret_s, w_ret_f, w_ret_d, w_ret_v, v_iaload, v_baload, v_caload, v_laload, v_aaload, v_iastore, v_bastore, v_castore, v_lastore, v_aastore, v_alen, v_newa, v_anewa, w_new, w_throw, w_dead, v_getf_i, v_getf_z, v_getf_r, v_putf_i, v_putf_z, v_putf_r, w_call0, w_call1, w_callv1, w_calli1, w_callt1, w_call2, w_callv2, w_calli2, w_callt2, w_call3, w_callv3, w_calli3, w_call4, w_callv4, w_calli4, w_call5, w_callv5, w_calli5, w_call6, w_callv6, w_calli6, w_call7, w_callv7, w_calli7, w_call8, w_callv8, w_calli8, c_if0_eq_t, c_if0_eq_f, c_if2_eq_t, c_if2_eq_f, c_if0_ne_t, c_if0_ne_f, c_if2_ne_t, c_if2_ne_f, c_if0_lt_t, c_if0_lt_f, c_if2_lt_t, c_if2_lt_f, c_if0_ge_t, c_if0_ge_f, c_if2_ge_t, c_if2_ge_f, c_if0_gt_t, c_if0_gt_f, c_if2_gt_t, c_if2_gt_f, c_if0_le_t, c_if0_le_f, c_if2_le_t, c_if2_le_f, w_nil, uI_s, uA_r, uA_s, uD_d, mPut_0, mCl_own, mCv_go, mCl_min, mCl_cpy, mCv_obj, mAct_len, mAct_chrc, mAft_v, mAft_n, mAft_x, mGet_0, mSet_0, mGet_1, mSet_1, mGet_2, mSet_2, mGet_3, mSet_3, mGet_4, mSet_4, mGet_5, mSet_5, mGet_6, mSet_6, mGet_7, mSet_7, mGet_8, mSet_8, mGet_9, mSet_9, mGet_10, mSet_10, mGet_11, mSet_11, mGet_12, mSet_12, mGet_13, mSet_13, yr_k hr, g3, wr]
          rw [if_pos hz, if_pos c3] at kk
          exact l_tb E hrb hB n0 n9 hr h01 n (cnt + 1) _ _ _ (by omega) (by omega) h2 (fun I3 cnt' f3 h3 => kk I3 cnt' (rFs_t f1 (rFs_t f2 f3)) h3)
        · have g3 : ∀ Q : mQ, mRun (E + 45) 80 [mR r, mI 3] I1 S Q = Q (.inl none) (mUp I1 r 8 1) S := fun Q => r_rtkN (E + 43) n0 n9 hr h1.1 c3
          simp (disch := first | omega | exact Nat.le_of_ble_eq_true rfl | (simp (disch := omega) only [yr_k hr] <;> omega)) only [w_iconst, w_bipush, w_sipush, w_ldc_s, w_ldcw_s, w_ldc_i, w_ldcw_i, w_lconst, w_fconst, w_dconst, w_iload, w_iload_n, w_aload, w_aload_n, w_dload, w_istore, w_istore_n, w_astore_r, w_astore_s, w_astore_n_r, w_astore_n_s, w_dstore, w_iinc, w_iadd, w_isub, w_imul, w_iand, w_iushr, v_idiv, v_irem, w_ineg, w_i2l, w_i2c, w_i2f, w_i2d, v_f2d, w_lcmp, w_dcmp, v_fdiv, v_ddiv, w_dup_i, w_dup_r, w_dup2, w_dup_x2, w_pop_i, w_pop_r, w_goto, w_switch, w_ret_i, v_ret_z, v_ret_c, w_ret_a, w_ret_s, w_ret_f, w_ret_d, w_ret_v, v_iaload, v_baload, v_caload, v_laload, v_aaload, v_iastore, v_bastore, v_castore, v_lastore, v_aastore, v_alen, v_newa, v_anewa, w_new, w_throw, w_dead, v_getf_i, v_getf_z, v_getf_r, v_putf_i, v_putf_z, v_putf_r, w_call0, w_call1, w_callv1, w_calli1, w_callt1, w_call2, w_callv2, w_calli2, w_callt2, w_call3, w_callv3, w_calli3, w_call4, w_callv4, w_calli4, w_call5, w_callv5, w_calli5, w_call6, w_callv6, w_calli6, w_call7, w_callv7, w_calli7, w_call8, w_callv8, w_calli8, c_if0_eq_t, c_if0_eq_f, c_if2_eq_t, c_if2_eq_f, c_if0_ne_t, c_if0_ne_f, c_if2_ne_t, c_if2_ne_f, c_if0_lt_t, c_if0_lt_f, c_if2_lt_t, c_if2_lt_f, c_if0_ge_t, c_if0_ge_f, c_if2_ge_t, c_if2_ge_f, c_if0_gt_t, c_if0_gt_f, c_if2_gt_t, c_if2_gt_f, c_if0_le_t, c_if0_le_f, c_if2_le_t, c_if2_le_f, w_nil, uI_s, uA_r, uA_s, uD_d, mPut_0, mCl_own, mCv_go, mCl_min, mCl_cpy, mCv_obj, mAct_len, mAct_chrc, mAft_v, mAft_n, mAft_x, mGet_0, mSet_0, mGet_1, mSet_1, mGet_2, mSet_2, mGet_3, mSet_3, mGet_4, mSet_4, mGet_5, mSet_5, mGet_6, mSet_6, mGet_7, mSet_7, mGet_8, mSet_8, mGet_9, mSet_9, mGet_10, mSet_10, mGet_11, mSet_11, mGet_12, mSet_12, mGet_13, mSet_13, yr_k hr, g3, wr]
          refine atEnd _ (rFs_t f1 rFs_8) (up_eq rfl rfl) ?_
          rw [if_pos hz, if_neg c3]
          exact Or.inr ⟨rfl, Or.inl (oFl_8 hrb h1)⟩
/-- an end is an end, or an error -/
theorem qN01 {lo hi t : Int} {f : Int → zRr} (h : ∀ v : Int, (f v).1 = 0 ∨ (f v).1 = 1) : (qNum tx N lo hi t f).1 = 0 ∨ (qNum tx N lo hi t f).1 = 1 := by
  unfold qNum
  split
  · exact h _
  · exact Or.inl rfl
theorem qW01 {r : Int} : ∀ (n : Nat) (σ : sT) (t : Int), (qWk tx N r n σ t).1 = 0 ∨ (qWk tx N r n σ t).1 = 1
  | 0, _, _ => Or.inr rfl
  | n + 1, σ, t => by
    show ((if zK tx N t = 17 then _ else _) : zRr).1 = 0 ∨ ((if zK tx N t = 17 then _ else _) : zRr).1 = 1
    by_cases c : zK tx N t = 17
    · rw [if_pos c]; exact qN01 (fun _ => qN01 (fun _ => qW01 n _ _))
    · rw [if_neg c]; exact Or.inr rfl
theorem qP01 {i : Int} : ∀ (n : Nat) (σ : sT) (t : Int), (qPa tx N i n σ t).1 = 0 ∨ (qPa tx N i n σ t).1 = 1
  | 0, _, _ => Or.inr rfl
  | n + 1, σ, t => by
    rw [qPa_e]
    split
    · exact qN01 (fun _ => qP01 n _ _)
    · split
      · exact qN01 (fun _ => qN01 (fun _ => qN01 (fun _ => qP01 n _ _)))
      · split
        · split
          · exact Or.inl rfl
          · exact qP01 n _ _
        · exact Or.inr rfl
theorem qF01 {s p : Int} : ∀ (n : Nat) (w : Int) (σ : sT) (t : Int), (qFl tx N s p n w σ t).1 = 0 ∨ (qFl tx N s p n w σ t).1 = 1
  | 0, _, _, _ => Or.inr rfl
  | n + 1, w, σ, t => by
    show ((if zK tx N t = 2 then _ else _) : zRr).1 = 0 ∨ ((if zK tx N t = 2 then _ else _) : zRr).1 = 1
    by_cases c : zK tx N t = 2
    · rw [if_pos c]; exact qN01 (fun _ => qF01 n _ _ _)
    · rw [if_neg c]; exact Or.inr rfl
theorem qS01 (σ : sT) (t : Int) : (qSt tx N σ t).1 = 0 ∨ (qSt tx N σ t).1 = 1 := by
  unfold qSt qPl qRe qRi qIn
  split
  · exact qN01 (fun _ => qN01 (fun _ => Or.inr rfl))
  · split
    · refine qN01 (fun _ => ?_)
      split
      · exact Or.inl rfl
      · exact qN01 (fun _ => qN01 (fun _ => qN01 (fun _ => qW01 _ _ _)))
    · split
      · exact qN01 (fun _ => qN01 (fun _ => qN01 (fun _ => qP01 _ _ _)))
      · split
        · exact qN01 (fun _ => qN01 (fun _ => qN01 (fun _ => qF01 _ _ _ _)))
        · exact Or.inl rfl
end QB
