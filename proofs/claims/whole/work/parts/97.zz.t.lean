/-! A change begun where the way is found: the copy has it. -/
def yWay (I : mN) (b : Int) (σ : sT) : Prop := (∀ r w : Int, 0 ≤ r → r < σ 2 → σ 0 ≤ w → w < 8 → I (b + (29 + 3 * r) + 2) w = sSe σ r w) ∧ (∀ p w : Int, 0 ≤ p → p < σ 1 → σ 0 ≤ w → w < 8 → I (b + (5 + 4 * p) + 1) (w + 1) = sSt σ p (w + 1) ∧ I (b + (5 + 4 * p) + 2) w = sRa σ p w) ∧ ∀ i w : Int, 0 ≤ i → i < σ 3 → σ 0 ≤ w → w < 8 → I (b + (56 + 5 * i) + 3) w = sAm σ 0 i w
theorem yS_way {I : mN} {b : Int} {σ : sT} (hw : sWf σ) (hs : yS I b σ) (h8 : I b 8 = 1) (h4 : I (b + 4) 0 = 1) : yWay I b σ := by
  refine ⟨(hs.2.2.2.2.2 h8).1, (hs.2.2.2.2.2 h8).2, fun i w i0 i1 w0 w1 => ?_⟩
  have h9 := hs.2.2.2.2.1 0 (by decide) (by decide) h4 i w i0 i1 w0 w1
  rw [show (0 : Int) * 8 + w = w by omega] at h9
  exact h9
theorem yWay_k {I J : mN} {b : Int} {σ : sT} (h : yWay I b σ) (hw : sWf σ) (e : ∀ a : Int, a ≠ b → a ≠ b + 4 → J a = I a) : yWay J b σ := by
  have hb := hw.1
  obtain ⟨h1, h2, h3⟩ := h
  refine ⟨fun r w r0 r1 w0 w1 => ?_, fun p w p0 p1 w0 w1 => ?_, fun i w i0 i1 w0 w1 => ?_⟩
  · rw [e _ (by omega) (by omega)]; exact h1 r w r0 r1 w0 w1
  · rw [e _ (by omega) (by omega), e (b + (5 + 4 * p) + 2) (by omega) (by omega)]; exact h2 p w p0 p1 w0 w1
  · rw [e _ (by omega) (by omega)]; exact h3 i w i0 i1 w0 w1
section XT9
variable {S : mH} {I : mN} {x m z : Int} {π : Int → Int → Int} {G : gT} {Q : mQ} (D : Nat)
theorem p_BrSt9 (hg : gWf G) (h : xQ S I x π G) (kk : ∀ (I' : mN) (S' : mH) (π' : Int → Int → Int), yX S' x π' → hE S S' x → (∀ k j : Int, k ≠ (G.1 1) → π' k j = π k j) → (∀ j : Int, 0 ≤ j → j < gK G → π' ((G.1 1)) j = if (G.1 (10 + G.1 1)) < 6 then π ((G.1 1)) j else π ((G.1 1)) (j + 1)) → (∀ a : Int, a ≠ x + (2 + 744 * (G.1 1)) → (a < (x + (4 + 744 * ((G.1 1))) + 106 * π' ((G.1 1)) (gK G)) ∨ (x + (4 + 744 * ((G.1 1))) + 106 * π' ((G.1 1)) (gK G)) + 106 ≤ a) → I' a = I a) → I' (x + (2 + 744 * (G.1 1))) 1 = gK G → I' (x + (2 + 744 * (G.1 1))) 2 = 0 → yS I' ((x + (4 + 744 * ((G.1 1))) + 106 * π' ((G.1 1)) (gK G))) ((G.2.1 (G.1 1) (G.1 (10 + G.1 1)))) → yOk I' ((x + (4 + 744 * ((G.1 1))) + 106 * π' ((G.1 1)) (gK G))) → (I' ((x + (4 + 744 * ((G.1 1))) + 106 * π' ((G.1 1)) (gK G))) 8 = I ((x + (4 + 744 * ((G.1 1))) + 106 * π ((G.1 1)) ((G.1 (10 + G.1 1))))) 8 ∧ I' (((x + (4 + 744 * ((G.1 1))) + 106 * π' ((G.1 1)) (gK G))) + 4) 0 = I (((x + (4 + 744 * ((G.1 1))) + 106 * π ((G.1 1)) ((G.1 (10 + G.1 1))))) + 4) 0) → Q (.inl (some (mR ((x + (4 + 744 * ((G.1 1))) + 106 * π' ((G.1 1)) (gK G)))))) I' S') : mRun (D + 4) 24 [mR (x + (2 + 744 * (G.1 1)))] I S Q := by
  obtain ⟨⟨c0, c1, c2⟩, u0, u1, u2⟩ := gJ_b hg
  have hK := gK_b hg
  have h1 := h.1
  have hu : I (x + (2 + 744 * (G.1 1))) 1 = (G.1 (10 + G.1 1)) := (h.2.2.1 ((G.1 1)) c0 c1).1
  have hs0 := h.2.2.2.2.1 ((G.1 1)) ((G.1 (10 + G.1 1))) c0 c2 u0 u1
  have hok : ∀ j : Int, 0 ≤ j → j < 7 → yOk I ((x + (4 + 744 * ((G.1 1))) + 106 * π ((G.1 1)) j)) := fun j j0 j1 => h.2.2.2.1 ((G.1 1)) (π ((G.1 1)) j) c0 c1 (yx_pi h1 c0 c1 j0 j1).1 (yx_pi h1 c0 c1 j0 j1).2
  have hBj : ∀ j : Int, 0 ≤ j → j < 7 → yB S ((x + (4 + 744 * ((G.1 1))) + 106 * π ((G.1 1)) j)) := fun j j0 j1 => yx_B h1 c0 c1 (yx_pi h1 c0 c1 j0 j1).1 (yx_pi h1 c0 c1 j0 j1).2
  have hdis : ∀ i j : Int, 0 ≤ i → i < 7 → 0 ≤ j → j < 7 → i ≠ j → ((x + (4 + 744 * ((G.1 1))) + 106 * π ((G.1 1)) i) + 106 ≤ (x + (4 + 744 * ((G.1 1))) + 106 * π ((G.1 1)) j) ∨ (x + (4 + 744 * ((G.1 1))) + 106 * π ((G.1 1)) j) + 106 ≤ (x + (4 + 744 * ((G.1 1))) + 106 * π ((G.1 1)) i)) := fun i j i0 i1 j0 j1 hne => by
    have a1 := yx_pi h1 c0 c1 i0 i1
    have a2 := yx_pi h1 c0 c1 j0 j1
    have a3 : π ((G.1 1)) i ≠ π ((G.1 1)) j := fun e => hne (yx_inj h1 c0 c1 i0 i1 j0 j1 e)
    omega
  have hout : ∀ j : Int, 0 ≤ j → j < 7 → (x + (2 + 744 * (G.1 1)) < (x + (4 + 744 * ((G.1 1))) + 106 * π ((G.1 1)) j) ∧ (x + (4 + 744 * ((G.1 1))) + 106 * π ((G.1 1)) j) + 106 ≤ x + 2234) := fun j j0 j1 => by
    have a1 := yx_pi h1 c0 c1 j0 j1
    omega
  have hnow : ∀ (Q : mQ), mRun (D + 3) 22 [mR (x + (2 + 744 * (G.1 1)))] I S Q = Q (.inl (some (mR ((x + (4 + 744 * ((G.1 1))) + 106 * π ((G.1 1)) ((G.1 (10 + G.1 1)))))))) I S := fun Q => r_Brnow (D + 2) h1 c0 c1 hu u0 (by omega)
  by_cases c6 : (G.1 (10 + G.1 1)) < 6
  · have eK := hK.2.2.1 c6
    simp (disch := first | omega | exact Nat.le_of_ble_eq_true rfl | (simp (disch := omega) only [yx_k h1, yx_0 h1, yx_4 h1, yx_5 h1, yx_6 h1, yx_7 h1, yx_8 h1, yx_9 h1, yx_10 h1, yx_k1 h1, yx_l1 h1, yx_b h1, yx_bk h1, yx_bs h1, yx_sk h1, yx_sl h1, yx_s h1, yx_e h1, yx_k9 h1, yx_l9 h1, yx_k10 h1, yx_l10 h1] <;> omega)) only [w_iconst, w_bipush, w_sipush, w_ldc_s, w_ldcw_s, w_ldc_i, w_ldcw_i, w_lconst, w_fconst, w_dconst, w_iload, w_iload_n, w_aload, w_aload_n, w_dload, w_istore, w_istore_n, w_astore_r, w_astore_s, w_astore_n_r, w_astore_n_s, w_dstore, w_iinc, w_iadd, w_isub, w_imul, w_iand, w_iushr, v_idiv, v_irem, w_ineg, w_i2l, w_i2c, w_i2f, w_i2d, v_f2d, w_lcmp, w_dcmp, v_fdiv, v_ddiv, w_dup_i, w_dup_r, w_dup2, w_dup_x2, w_pop_i, w_pop_r, w_goto, w_switch, w_ret_i, v_ret_z, v_ret_c, w_ret_a, w_ret_s, w_ret_f, w_ret_d, w_ret_v, v_iaload, v_baload, v_caload, v_laload, v_aaload, v_iastore, v_bastore, v_castore, v_lastore, v_aastore, v_alen, v_newa, v_anewa, w_new, w_throw, w_dead, v_getf_i, v_getf_z, v_getf_r, v_putf_i, v_putf_z, v_putf_r, w_call0, w_call1, w_callv1, w_calli1, w_callt1, w_call2, w_callv2, w_calli2, w_callt2, w_call3, w_callv3, w_calli3, w_call4, w_callv4, w_calli4, w_call5, w_callv5, w_calli5, w_call6, w_callv6, w_calli6, w_call7, w_callv7, w_calli7, w_call8, w_callv8, w_calli8, c_if0_eq_t, c_if0_eq_f, c_if2_eq_t, c_if2_eq_f, c_if0_ne_t, c_if0_ne_f, c_if2_ne_t, c_if2_ne_f, c_if0_lt_t, c_if0_lt_f, c_if2_lt_t, c_if2_lt_f, c_if0_ge_t, c_if0_ge_f, c_if2_ge_t, c_if2_ge_f, c_if0_gt_t, c_if0_gt_f, c_if2_gt_t, c_if2_gt_f, c_if0_le_t, c_if0_le_f, c_if2_le_t, c_if2_le_f, w_nil, uI_s, uA_r, uA_s, uD_d, mPut_0, mCl_own, mCv_go, mCl_min, mCl_cpy, mCv_obj, mAct_len, mAct_chrc, mAft_v, mAft_n, mAft_x, mGet_0, mSet_0, mGet_1, mSet_1, mGet_2, mSet_2, mGet_3, mSet_3, mGet_4, mSet_4, mGet_5, mSet_5, mGet_6, mSet_6, mGet_7, mSet_7, mGet_8, mSet_8, mGet_9, mSet_9, mGet_10, mSet_10, mGet_11, mSet_11, mGet_12, mSet_12, mGet_13, mSet_13, e_Br_startChange, a_Br_startChange_0, bk_Br_startChange_0, a_Br_startChange_31, bk_Br_startChange_31, yx_k h1, yx_0 h1, yx_4 h1, yx_5 h1, yx_6 h1, yx_7 h1, yx_8 h1, yx_9 h1, yx_10 h1, yx_k1 h1, yx_l1 h1, yx_b h1, yx_bk h1, yx_bs h1, yx_sk h1, yx_sl h1, yx_s h1, yx_e h1, yx_k9 h1, yx_l9 h1, yx_k10 h1, yx_l10 h1, hnow, hu, wr, up_nk, up_fa]
    generalize hJ1 : mUp (mUp I (x + (2 + 744 * (G.1 1))) 1 ((G.1 (10 + G.1 1)) + 1)) (x + (2 + 744 * (G.1 1))) 2 0 = J1
    have jne : ∀ a : Int, a ≠ x + (2 + 744 * (G.1 1)) → J1 a = I a := fun a ha => by rw [← hJ1, up_fa ha, up_fa ha]
    have j1 : J1 (x + (2 + 744 * (G.1 1))) 1 = (G.1 (10 + G.1 1)) + 1 := by rw [← hJ1, up_nk (by decide), up_eq rfl rfl]
    have j2 : J1 (x + (2 + 744 * (G.1 1))) 2 = 0 := by rw [← hJ1, up_eq rfl rfl]
    rw [r_Brnow (D + 2) h1 c0 c1 j1 (by omega) (by omega)]
    have hB1 := hBj ((G.1 (10 + G.1 1)) + 1) (by omega) (by omega)
    simp (disch := first | omega | exact Nat.le_of_ble_eq_true rfl | (simp (disch := omega) only [yb_k hB1] <;> omega)) only [w_iconst, w_bipush, w_sipush, w_ldc_s, w_ldcw_s, w_ldc_i, w_ldcw_i, w_lconst, w_fconst, w_dconst, w_iload, w_iload_n, w_aload, w_aload_n, w_dload, w_istore, w_istore_n, w_astore_r, w_astore_s, w_astore_n_r, w_astore_n_s, w_dstore, w_iinc, w_iadd, w_isub, w_imul, w_iand, w_iushr, v_idiv, v_irem, w_ineg, w_i2l, w_i2c, w_i2f, w_i2d, v_f2d, w_lcmp, w_dcmp, v_fdiv, v_ddiv, w_dup_i, w_dup_r, w_dup2, w_dup_x2, w_pop_i, w_pop_r, w_goto, w_switch, w_ret_i, v_ret_z, v_ret_c, w_ret_a, w_ret_s, w_ret_f, w_ret_d, w_ret_v, v_iaload, v_baload, v_caload, v_laload, v_aaload, v_iastore, v_bastore, v_castore, v_lastore, v_aastore, v_alen, v_newa, v_anewa, w_new, w_throw, w_dead, v_getf_i, v_getf_z, v_getf_r, v_putf_i, v_putf_z, v_putf_r, w_call0, w_call1, w_callv1, w_calli1, w_callt1, w_call2, w_callv2, w_calli2, w_callt2, w_call3, w_callv3, w_calli3, w_call4, w_callv4, w_calli4, w_call5, w_callv5, w_calli5, w_call6, w_callv6, w_calli6, w_call7, w_callv7, w_calli7, w_call8, w_callv8, w_calli8, c_if0_eq_t, c_if0_eq_f, c_if2_eq_t, c_if2_eq_f, c_if0_ne_t, c_if0_ne_f, c_if2_ne_t, c_if2_ne_f, c_if0_lt_t, c_if0_lt_f, c_if2_lt_t, c_if2_lt_f, c_if0_ge_t, c_if0_ge_f, c_if2_ge_t, c_if2_ge_f, c_if0_gt_t, c_if0_gt_f, c_if2_gt_t, c_if2_gt_f, c_if0_le_t, c_if0_le_f, c_if2_le_t, c_if2_le_f, w_nil, uI_s, uA_r, uA_s, uD_d, mPut_0, mCl_own, mCv_go, mCl_min, mCl_cpy, mCv_obj, mAct_len, mAct_chrc, mAft_v, mAft_n, mAft_x, mGet_0, mSet_0, mGet_1, mSet_1, mGet_2, mSet_2, mGet_3, mSet_3, mGet_4, mSet_4, mGet_5, mSet_5, mGet_6, mSet_6, mGet_7, mSet_7, mGet_8, mSet_8, mGet_9, mSet_9, mGet_10, mSet_10, mGet_11, mSet_11, mGet_12, mSet_12, mGet_13, mSet_13, yb_k hB1]
    have hin : ∀ j a : Int, 0 ≤ j → j < 7 → (x + (4 + 744 * ((G.1 1))) + 106 * π ((G.1 1)) j) ≤ a → a < (x + (4 + 744 * ((G.1 1))) + 106 * π ((G.1 1)) j) + 106 → J1 a = I a := fun j a q0 q1 a0 a1 => jne a (by have := hout j q0 q1; omega)
    have ok1 : ∀ j : Int, 0 ≤ j → j < 7 → yOk J1 ((x + (4 + 744 * ((G.1 1))) + 106 * π ((G.1 1)) j)) := fun j q0 q1 => yOk_k (hok j q0 q1) (fun a a0 a1 => hin j a q0 q1 a0 a1)
    have hd9 := hdis ((G.1 (10 + G.1 1)) + 1) ((G.1 (10 + G.1 1))) (by omega) (by omega) (by omega) (by omega) (by omega)
    refine p_Ba_copy D hB1 (hBj ((G.1 (10 + G.1 1))) u0 (by omega)) hd9 (ok1 ((G.1 (10 + G.1 1))) u0 (by omega)) (fun I' hc => ?_)
    have hf := hc.1.1.1
    have i1 : I' (x + (2 + 744 * (G.1 1))) = J1 (x + (2 + 744 * (G.1 1))) := hf _ (by have := hout ((G.1 (10 + G.1 1)) + 1) (by omega) (by omega); omega)
    have hnow2 : ∀ (Q : mQ), mRun (D + 3) 22 [mR (x + (2 + 744 * (G.1 1)))] I' S Q = Q (.inl (some (mR ((x + (4 + 744 * ((G.1 1))) + 106 * π ((G.1 1)) ((G.1 (10 + G.1 1)) + 1)))))) I' S := fun Q => r_Brnow (D + 2) h1 c0 c1 (by rw [i1]; exact j1) (by omega) (by omega)
    simp (disch := first | omega | exact Nat.le_of_ble_eq_true rfl | (simp (disch := omega) only [yx_k h1, yx_0 h1, yx_4 h1, yx_5 h1, yx_6 h1, yx_7 h1, yx_8 h1, yx_9 h1, yx_10 h1, yx_k1 h1, yx_l1 h1, yx_b h1, yx_bk h1, yx_bs h1, yx_sk h1, yx_sl h1, yx_s h1, yx_e h1, yx_k9 h1, yx_l9 h1, yx_k10 h1, yx_l10 h1] <;> omega)) only [w_iconst, w_bipush, w_sipush, w_ldc_s, w_ldcw_s, w_ldc_i, w_ldcw_i, w_lconst, w_fconst, w_dconst, w_iload, w_iload_n, w_aload, w_aload_n, w_dload, w_istore, w_istore_n, w_astore_r, w_astore_s, w_astore_n_r, w_astore_n_s, w_dstore, w_iinc, w_iadd, w_isub, w_imul, w_iand, w_iushr, v_idiv, v_irem, w_ineg, w_i2l, w_i2c, w_i2f, w_i2d, v_f2d, w_lcmp, w_dcmp, v_fdiv, v_ddiv, w_dup_i, w_dup_r, w_dup2, w_dup_x2, w_pop_i, w_pop_r, w_goto, w_switch, w_ret_i, v_ret_z, v_ret_c, w_ret_a, w_ret_s, w_ret_f, w_ret_d, w_ret_v, v_iaload, v_baload, v_caload, v_laload, v_aaload, v_iastore, v_bastore, v_castore, v_lastore, v_aastore, v_alen, v_newa, v_anewa, w_new, w_throw, w_dead, v_getf_i, v_getf_z, v_getf_r, v_putf_i, v_putf_z, v_putf_r, w_call0, w_call1, w_callv1, w_calli1, w_callt1, w_call2, w_callv2, w_calli2, w_callt2, w_call3, w_callv3, w_calli3, w_call4, w_callv4, w_calli4, w_call5, w_callv5, w_calli5, w_call6, w_callv6, w_calli6, w_call7, w_callv7, w_calli7, w_call8, w_callv8, w_calli8, c_if0_eq_t, c_if0_eq_f, c_if2_eq_t, c_if2_eq_f, c_if0_ne_t, c_if0_ne_f, c_if2_ne_t, c_if2_ne_f, c_if0_lt_t, c_if0_lt_f, c_if2_lt_t, c_if2_lt_f, c_if0_ge_t, c_if0_ge_f, c_if2_ge_t, c_if2_ge_f, c_if0_gt_t, c_if0_gt_f, c_if2_gt_t, c_if2_gt_f, c_if0_le_t, c_if0_le_f, c_if2_le_t, c_if2_le_f, w_nil, uI_s, uA_r, uA_s, uD_d, mPut_0, mCl_own, mCv_go, mCl_min, mCl_cpy, mCv_obj, mAct_len, mAct_chrc, mAft_v, mAft_n, mAft_x, mGet_0, mSet_0, mGet_1, mSet_1, mGet_2, mSet_2, mGet_3, mSet_3, mGet_4, mSet_4, mGet_5, mSet_5, mGet_6, mSet_6, mGet_7, mSet_7, mGet_8, mSet_8, mGet_9, mSet_9, mGet_10, mSet_10, mGet_11, mSet_11, mGet_12, mSet_12, mGet_13, mSet_13, yx_k h1, yx_0 h1, yx_4 h1, yx_5 h1, yx_6 h1, yx_7 h1, yx_8 h1, yx_9 h1, yx_10 h1, yx_k1 h1, yx_l1 h1, yx_b h1, yx_bk h1, yx_bs h1, yx_sk h1, yx_sl h1, yx_s h1, yx_e h1, yx_k9 h1, yx_l9 h1, yx_k10 h1, yx_l10 h1, hnow2]
    have e1 : (x + (4 + 744 * ((G.1 1))) + 106 * π ((G.1 1)) ((G.1 (10 + G.1 1)) + 1)) = (x + (4 + 744 * ((G.1 1))) + 106 * π ((G.1 1)) (gK G)) := by rw [eK]
    rw [e1]
    rw [e1] at hc hf hd9
    have ok9 := ok1 (gK G) (by omega) (by omega)
    exact kk I' S π h1 hE_r (fun _ _ _ => rfl) (fun j q0 q1 => by rw [if_pos c6]) (fun a a1 a2 => by rw [hf a a2]; exact jne a a1) (by rw [i1, j1, eK]) (by rw [i1, j2]) (yS_cp (gO_w hg).1 (yS_k (gO_w hg).1 hs0 (fun a a0 a1 => hin ((G.1 (10 + G.1 1))) a u0 (by omega) a0 a1)) hc) (yOk_cp hd9 (ok1 ((G.1 (10 + G.1 1))) u0 (by omega)) ok9 hc) ⟨by rw [hc.2.2, hin ((G.1 (10 + G.1 1))) _ u0 (by omega) (by omega) (by omega)], by rw [hc.2.1 0 (by decide) (by decide), hin ((G.1 (10 + G.1 1))) _ u0 (by omega) (by omega) (by omega)]⟩
  · have eK := hK.2.2.2 c6
    have hu6 : I (x + (2 + 744 * (G.1 1))) 1 = 6 := by rw [hu]; exact eK.2
    simp (disch := first | omega | exact Nat.le_of_ble_eq_true rfl | (simp (disch := omega) only [yx_k h1, yx_0 h1, yx_4 h1, yx_5 h1, yx_6 h1, yx_7 h1, yx_8 h1, yx_9 h1, yx_10 h1, yx_k1 h1, yx_l1 h1, yx_b h1, yx_bk h1, yx_bs h1, yx_sk h1, yx_sl h1, yx_s h1, yx_e h1, yx_k9 h1, yx_l9 h1, yx_k10 h1, yx_l10 h1] <;> omega)) only [w_iconst, w_bipush, w_sipush, w_ldc_s, w_ldcw_s, w_ldc_i, w_ldcw_i, w_lconst, w_fconst, w_dconst, w_iload, w_iload_n, w_aload, w_aload_n, w_dload, w_istore, w_istore_n, w_astore_r, w_astore_s, w_astore_n_r, w_astore_n_s, w_dstore, w_iinc, w_iadd, w_isub, w_imul, w_iand, w_iushr, v_idiv, v_irem, w_ineg, w_i2l, w_i2c, w_i2f, w_i2d, v_f2d, w_lcmp, w_dcmp, v_fdiv, v_ddiv, w_dup_i, w_dup_r, w_dup2, w_dup_x2, w_pop_i, w_pop_r, w_goto, w_switch, w_ret_i, v_ret_z, v_ret_c, w_ret_a, w_ret_s, w_ret_f, w_ret_d, w_ret_v, v_iaload, v_baload, v_caload, v_laload, v_aaload, v_iastore, v_bastore, v_castore, v_lastore, v_aastore, v_alen, v_newa, v_anewa, w_new, w_throw, w_dead, v_getf_i, v_getf_z, v_getf_r, v_putf_i, v_putf_z, v_putf_r, w_call0, w_call1, w_callv1, w_calli1, w_callt1, w_call2, w_callv2, w_calli2, w_callt2, w_call3, w_callv3, w_calli3, w_call4, w_callv4, w_calli4, w_call5, w_callv5, w_calli5, w_call6, w_callv6, w_calli6, w_call7, w_callv7, w_calli7, w_call8, w_callv8, w_calli8, c_if0_eq_t, c_if0_eq_f, c_if2_eq_t, c_if2_eq_f, c_if0_ne_t, c_if0_ne_f, c_if2_ne_t, c_if2_ne_f, c_if0_lt_t, c_if0_lt_f, c_if2_lt_t, c_if2_lt_f, c_if0_ge_t, c_if0_ge_f, c_if2_ge_t, c_if2_ge_f, c_if0_gt_t, c_if0_gt_f, c_if2_gt_t, c_if2_gt_f, c_if0_le_t, c_if0_le_f, c_if2_le_t, c_if2_le_f, w_nil, uI_s, uA_r, uA_s, uD_d, mPut_0, mCl_own, mCv_go, mCl_min, mCl_cpy, mCv_obj, mAct_len, mAct_chrc, mAft_v, mAft_n, mAft_x, mGet_0, mSet_0, mGet_1, mSet_1, mGet_2, mSet_2, mGet_3, mSet_3, mGet_4, mSet_4, mGet_5, mSet_5, mGet_6, mSet_6, mGet_7, mSet_7, mGet_8, mSet_8, mGet_9, mSet_9, mGet_10, mSet_10, mGet_11, mSet_11, mGet_12, mSet_12, mGet_13, mSet_13, e_Br_startChange, a_Br_startChange_0, bk_Br_startChange_0, a_Br_startChange_27, bk_Br_startChange_27, yx_k h1, yx_0 h1, yx_4 h1, yx_5 h1, yx_6 h1, yx_7 h1, yx_8 h1, yx_9 h1, yx_10 h1, yx_k1 h1, yx_l1 h1, yx_b h1, yx_bk h1, yx_bs h1, yx_sk h1, yx_sl h1, yx_s h1, yx_e h1, yx_k9 h1, yx_l9 h1, yx_k10 h1, yx_l10 h1, hnow, hu6]
    refine p_forgetO (D + 2) h1 c0 c1 (fun S1 e2 e1 a1 a2 => ?_)
    have p0 := yx_pi h1 c0 c1 (show (0 : Int) ≤ 0 by decide) (by decide)
    have hX1 : yX S1 x (fun k j => if k = (G.1 1) then (if j < 6 then π k (j + 1) else π k 0) else π k j) := by
      refine yX_h h1 (fun a _ _ a3 => e1 a (a3 ((G.1 1)) c0 c1)) (fun a _ _ => by rw [e2]; exact ⟨rfl, rfl⟩) (fun k j k0 k1 j0 j1 => ?_) (fun k j j' k0 k1 j0 j1 j0' j1' e => ?_)
      · by_cases ck : k = (G.1 1)
        · rw [if_pos ck, ck]
          by_cases cj : j < 6
          · rw [if_pos cj]
            exact ⟨a1 j j0 cj, yx_pi h1 c0 c1 (by omega) (by omega)⟩
          · rw [if_neg cj]
            obtain rfl : j = 6 := by omega
            exact ⟨a2, yx_pi h1 c0 c1 (by decide) (by decide)⟩
        · rw [if_neg ck, e1 _ (by omega)]
          exact ⟨yx_s h1 k0 k1 j0 j1, yx_pi h1 k0 k1 j0 j1⟩
      · by_cases ck : k = (G.1 1)
        · rw [if_pos ck, if_pos ck] at e
          by_cases cj : j < 6
          · rw [if_pos cj] at e
            by_cases cj' : j' < 6
            · rw [if_pos cj'] at e
              have := yx_inj h1 k0 k1 (by omega) (by omega) (by omega) (by omega) e
              omega
            · rw [if_neg cj'] at e
              have := yx_inj h1 k0 k1 (by omega) (by omega) (by omega) (by omega) e
              omega
          · rw [if_neg cj] at e
            by_cases cj' : j' < 6
            · rw [if_pos cj'] at e
              have := yx_inj h1 k0 k1 (by omega) (by omega) (by omega) (by omega) e
              omega
            · omega
        · rw [if_neg ck, if_neg ck] at e
          exact yx_inj h1 k0 k1 j0 j1 j0' j1' e
    generalize hπ : (fun k j => if k = (G.1 1) then (if j < 6 then π k (j + 1) else π k 0) else π k j : Int → Int → Int) = π' at hX1
    have q6 : π' ((G.1 1)) 6 = π ((G.1 1)) 0 := by rw [← hπ]; dsimp only; rw [if_pos rfl, if_neg (by decide)]
    have qj : ∀ j : Int, j < 6 → π' ((G.1 1)) j = π ((G.1 1)) (j + 1) := fun j hj => by rw [← hπ]; dsimp only; rw [if_pos rfl, if_pos hj]
    have b6 : (x + (4 + 744 * ((G.1 1))) + 106 * π' ((G.1 1)) 6) = (x + (4 + 744 * ((G.1 1))) + 106 * π ((G.1 1)) 0) := by show _ + 106 * π' ((G.1 1)) 6 = _ + 106 * π ((G.1 1)) 0; rw [q6]
    generalize hJ1 : mUp I (x + (2 + 744 * (G.1 1))) 2 0 = J1
    have jne : ∀ a : Int, a ≠ x + (2 + 744 * (G.1 1)) → J1 a = I a := fun a ha => by rw [← hJ1, up_fa ha]
    have j1 : J1 (x + (2 + 744 * (G.1 1))) 1 = 6 := by rw [← hJ1, up_nk (by decide)]; exact hu6
    have j2 : J1 (x + (2 + 744 * (G.1 1))) 2 = 0 := by rw [← hJ1, up_eq rfl rfl]
    have hnow1 : ∀ (Q : mQ), mRun (D + 3) 22 [mR (x + (2 + 744 * (G.1 1)))] J1 S1 Q = Q (.inl (some (mR ((x + (4 + 744 * ((G.1 1))) + 106 * π' ((G.1 1)) 6))))) J1 S1 := fun Q => r_Brnow (D + 2) hX1 c0 c1 j1 (by decide) (by decide)
    have hB6 : yB S1 ((x + (4 + 744 * ((G.1 1))) + 106 * π' ((G.1 1)) 6)) := yx_B hX1 c0 c1 (yx_pi hX1 c0 c1 (by decide) (by decide)).1 (yx_pi hX1 c0 c1 (by decide) (by decide)).2
    have hB5 : yB S1 ((x + (4 + 744 * ((G.1 1))) + 106 * π ((G.1 1)) ((G.1 (10 + G.1 1))))) := yx_B hX1 c0 c1 (yx_pi h1 c0 c1 u0 (by omega)).1 (yx_pi h1 c0 c1 u0 (by omega)).2
    simp (disch := first | omega | exact Nat.le_of_ble_eq_true rfl | (simp (disch := omega) only [yx_k hX1, yx_0 hX1, yx_4 hX1, yx_5 hX1, yx_6 hX1, yx_7 hX1, yx_8 hX1, yx_9 hX1, yx_10 hX1, yx_k1 hX1, yx_l1 hX1, yx_b hX1, yx_bk hX1, yx_bs hX1, yx_sk hX1, yx_sl hX1, yx_s hX1, yx_e hX1, yx_k9 hX1, yx_l9 hX1, yx_k10 hX1, yx_l10 hX1, yb_k hB6] <;> omega)) only [w_iconst, w_bipush, w_sipush, w_ldc_s, w_ldcw_s, w_ldc_i, w_ldcw_i, w_lconst, w_fconst, w_dconst, w_iload, w_iload_n, w_aload, w_aload_n, w_dload, w_istore, w_istore_n, w_astore_r, w_astore_s, w_astore_n_r, w_astore_n_s, w_dstore, w_iinc, w_iadd, w_isub, w_imul, w_iand, w_iushr, v_idiv, v_irem, w_ineg, w_i2l, w_i2c, w_i2f, w_i2d, v_f2d, w_lcmp, w_dcmp, v_fdiv, v_ddiv, w_dup_i, w_dup_r, w_dup2, w_dup_x2, w_pop_i, w_pop_r, w_goto, w_switch, w_ret_i, v_ret_z, v_ret_c, w_ret_a, w_ret_s, w_ret_f, w_ret_d, w_ret_v, v_iaload, v_baload, v_caload, v_laload, v_aaload, v_iastore, v_bastore, v_castore, v_lastore, v_aastore, v_alen, v_newa, v_anewa, w_new, w_throw, w_dead, v_getf_i, v_getf_z, v_getf_r, v_putf_i, v_putf_z, v_putf_r, w_call0, w_call1, w_callv1, w_calli1, w_callt1, w_call2, w_callv2, w_calli2, w_callt2, w_call3, w_callv3, w_calli3, w_call4, w_callv4, w_calli4, w_call5, w_callv5, w_calli5, w_call6, w_callv6, w_calli6, w_call7, w_callv7, w_calli7, w_call8, w_callv8, w_calli8, c_if0_eq_t, c_if0_eq_f, c_if2_eq_t, c_if2_eq_f, c_if0_ne_t, c_if0_ne_f, c_if2_ne_t, c_if2_ne_f, c_if0_lt_t, c_if0_lt_f, c_if2_lt_t, c_if2_lt_f, c_if0_ge_t, c_if0_ge_f, c_if2_ge_t, c_if2_ge_f, c_if0_gt_t, c_if0_gt_f, c_if2_gt_t, c_if2_gt_f, c_if0_le_t, c_if0_le_f, c_if2_le_t, c_if2_le_f, w_nil, uI_s, uA_r, uA_s, uD_d, mPut_0, mCl_own, mCv_go, mCl_min, mCl_cpy, mCv_obj, mAct_len, mAct_chrc, mAft_v, mAft_n, mAft_x, mGet_0, mSet_0, mGet_1, mSet_1, mGet_2, mSet_2, mGet_3, mSet_3, mGet_4, mSet_4, mGet_5, mSet_5, mGet_6, mSet_6, mGet_7, mSet_7, mGet_8, mSet_8, mGet_9, mSet_9, mGet_10, mSet_10, mGet_11, mSet_11, mGet_12, mSet_12, mGet_13, mSet_13, a_Br_startChange_31, bk_Br_startChange_31, yx_k hX1, yx_0 hX1, yx_4 hX1, yx_5 hX1, yx_6 hX1, yx_7 hX1, yx_8 hX1, yx_9 hX1, yx_10 hX1, yx_k1 hX1, yx_l1 hX1, yx_b hX1, yx_bk hX1, yx_bs hX1, yx_sk hX1, yx_sl hX1, yx_s hX1, yx_e hX1, yx_k9 hX1, yx_l9 hX1, yx_k10 hX1, yx_l10 hX1, hJ1, hnow1]
    have hin : ∀ j a : Int, 0 ≤ j → j < 7 → (x + (4 + 744 * ((G.1 1))) + 106 * π ((G.1 1)) j) ≤ a → a < (x + (4 + 744 * ((G.1 1))) + 106 * π ((G.1 1)) j) + 106 → J1 a = I a := fun j a q0 q1 a0 a1 => jne a (by have := hout j q0 q1; omega)
    have ok1 : ∀ j : Int, 0 ≤ j → j < 7 → yOk J1 ((x + (4 + 744 * ((G.1 1))) + 106 * π ((G.1 1)) j)) := fun j q0 q1 => yOk_k (hok j q0 q1) (fun a a0 a1 => hin j a q0 q1 a0 a1)
    have hd9 := hdis 0 ((G.1 (10 + G.1 1))) (by omega) (by omega) (by omega) (by omega) (by omega)
    have ho0 := hout 0 (by decide) (by decide)
    rw [← b6] at hd9 ho0
    refine p_Ba_copy D hB6 hB5 hd9 (ok1 ((G.1 (10 + G.1 1))) u0 (by omega)) (fun I' hc => ?_)
    have hf := hc.1.1.1
    have i1 : I' (x + (2 + 744 * (G.1 1))) = J1 (x + (2 + 744 * (G.1 1))) := hf _ (by omega)
    have hnow2 : ∀ (Q : mQ), mRun (D + 3) 22 [mR (x + (2 + 744 * (G.1 1)))] I' S1 Q = Q (.inl (some (mR ((x + (4 + 744 * ((G.1 1))) + 106 * π' ((G.1 1)) 6))))) I' S1 := fun Q => r_Brnow (D + 2) hX1 c0 c1 (by rw [i1]; exact j1) (by decide) (by decide)
    simp (disch := first | omega | exact Nat.le_of_ble_eq_true rfl | (simp (disch := omega) only [yx_k hX1, yx_0 hX1, yx_4 hX1, yx_5 hX1, yx_6 hX1, yx_7 hX1, yx_8 hX1, yx_9 hX1, yx_10 hX1, yx_k1 hX1, yx_l1 hX1, yx_b hX1, yx_bk hX1, yx_bs hX1, yx_sk hX1, yx_sl hX1, yx_s hX1, yx_e hX1, yx_k9 hX1, yx_l9 hX1, yx_k10 hX1, yx_l10 hX1] <;> omega)) only [w_iconst, w_bipush, w_sipush, w_ldc_s, w_ldcw_s, w_ldc_i, w_ldcw_i, w_lconst, w_fconst, w_dconst, w_iload, w_iload_n, w_aload, w_aload_n, w_dload, w_istore, w_istore_n, w_astore_r, w_astore_s, w_astore_n_r, w_astore_n_s, w_dstore, w_iinc, w_iadd, w_isub, w_imul, w_iand, w_iushr, v_idiv, v_irem, w_ineg, w_i2l, w_i2c, w_i2f, w_i2d, v_f2d, w_lcmp, w_dcmp, v_fdiv, v_ddiv, w_dup_i, w_dup_r, w_dup2, w_dup_x2, w_pop_i, w_pop_r, w_goto, w_switch, w_ret_i, v_ret_z, v_ret_c, w_ret_a, w_ret_s, w_ret_f, w_ret_d, w_ret_v, v_iaload, v_baload, v_caload, v_laload, v_aaload, v_iastore, v_bastore, v_castore, v_lastore, v_aastore, v_alen, v_newa, v_anewa, w_new, w_throw, w_dead, v_getf_i, v_getf_z, v_getf_r, v_putf_i, v_putf_z, v_putf_r, w_call0, w_call1, w_callv1, w_calli1, w_callt1, w_call2, w_callv2, w_calli2, w_callt2, w_call3, w_callv3, w_calli3, w_call4, w_callv4, w_calli4, w_call5, w_callv5, w_calli5, w_call6, w_callv6, w_calli6, w_call7, w_callv7, w_calli7, w_call8, w_callv8, w_calli8, c_if0_eq_t, c_if0_eq_f, c_if2_eq_t, c_if2_eq_f, c_if0_ne_t, c_if0_ne_f, c_if2_ne_t, c_if2_ne_f, c_if0_lt_t, c_if0_lt_f, c_if2_lt_t, c_if2_lt_f, c_if0_ge_t, c_if0_ge_f, c_if2_ge_t, c_if2_ge_f, c_if0_gt_t, c_if0_gt_f, c_if2_gt_t, c_if2_gt_f, c_if0_le_t, c_if0_le_f, c_if2_le_t, c_if2_le_f, w_nil, uI_s, uA_r, uA_s, uD_d, mPut_0, mCl_own, mCv_go, mCl_min, mCl_cpy, mCv_obj, mAct_len, mAct_chrc, mAft_v, mAft_n, mAft_x, mGet_0, mSet_0, mGet_1, mSet_1, mGet_2, mSet_2, mGet_3, mSet_3, mGet_4, mSet_4, mGet_5, mSet_5, mGet_6, mSet_6, mGet_7, mSet_7, mGet_8, mSet_8, mGet_9, mSet_9, mGet_10, mSet_10, mGet_11, mSet_11, mGet_12, mSet_12, mGet_13, mSet_13, yx_k hX1, yx_0 hX1, yx_4 hX1, yx_5 hX1, yx_6 hX1, yx_7 hX1, yx_8 hX1, yx_9 hX1, yx_10 hX1, yx_k1 hX1, yx_l1 hX1, yx_b hX1, yx_bk hX1, yx_bs hX1, yx_sk hX1, yx_sl hX1, yx_s hX1, yx_e hX1, yx_k9 hX1, yx_l9 hX1, yx_k10 hX1, yx_l10 hX1, hnow2]
    have ok9 := ok1 0 (by decide) (by decide)
    rw [← b6] at ok9
    have kk' := kk I' S1 π' hX1 ⟨e2, fun a ha => e1 a (by omega)⟩
    rw [eK.1] at kk'
    refine kk' (fun k j hk => by rw [← hπ]; dsimp only; rw [if_neg hk]) (fun j q0 q1 => by rw [if_neg c6]; exact qj j q1) (fun a a1 a2 => by rw [hf a a2]; exact jne a a1) (by rw [i1, j1]) (by rw [i1, j2]) (yS_cp (gO_w hg).1 (yS_k (gO_w hg).1 hs0 (fun a a0 a1 => hin ((G.1 (10 + G.1 1))) a u0 (by omega) a0 a1)) hc) (yOk_cp hd9 (ok1 ((G.1 (10 + G.1 1))) u0 (by omega)) ok9 hc) ⟨by rw [hc.2.2, hin ((G.1 (10 + G.1 1))) _ u0 (by omega) (by omega) (by omega)], by rw [hc.2.1 0 (by decide) (by decide), hin ((G.1 (10 + G.1 1))) _ u0 (by omega) (by omega) (by omega)]⟩
theorem p_startC9 (hg : gWf G) (h : xQ S I x π G) (kk : ∀ (I' : mN) (S' : mH) (π' : Int → Int → Int) (b : Int), xQ S' I' x π' (gPush G ((G.2.1 (G.1 1) (G.1 (10 + G.1 1))))) → xF I I' x → hE S S' x → b = (x + (4 + 744 * ((G.1 1))) + 106 * π' ((G.1 1)) (gK G)) → (∀ s : Int, 0 ≤ s → s < 3 → I' (b + 4) s = 0) → I' b 8 = 0 → (∀ a : Int, x + 2234 ≤ a → I' a = I a) → (I ((x + (4 + 744 * ((G.1 1))) + 106 * π ((G.1 1)) ((G.1 (10 + G.1 1))))) 8 = 1 → I (((x + (4 + 744 * ((G.1 1))) + 106 * π ((G.1 1)) ((G.1 (10 + G.1 1))))) + 4) 0 = 1 → yWay I' b ((G.2.1 (G.1 1) (G.1 (10 + G.1 1))))) → Q (.inl (some (mR b))) I' S') : mRun (D + 5) 174 [mR x] I S Q := by
  obtain ⟨⟨c0, c1, c2⟩, u0, u1, u2⟩ := gJ_b hg
  have hK := gK_b hg
  have hN3 := hg.1.2
  have h1 := h.1
  have hc := h.2.1.2
  simp (disch := first | omega | exact Nat.le_of_ble_eq_true rfl | (simp (disch := omega) only [yx_k h1, yx_0 h1, yx_4 h1, yx_5 h1, yx_6 h1, yx_7 h1, yx_8 h1, yx_9 h1, yx_10 h1, yx_k1 h1, yx_l1 h1, yx_b h1, yx_bk h1, yx_bs h1, yx_sk h1, yx_sl h1, yx_s h1, yx_e h1, yx_k9 h1, yx_l9 h1, yx_k10 h1, yx_l10 h1, hc] <;> omega)) only [w_iconst, w_bipush, w_sipush, w_ldc_s, w_ldcw_s, w_ldc_i, w_ldcw_i, w_lconst, w_fconst, w_dconst, w_iload, w_iload_n, w_aload, w_aload_n, w_dload, w_istore, w_istore_n, w_astore_r, w_astore_s, w_astore_n_r, w_astore_n_s, w_dstore, w_iinc, w_iadd, w_isub, w_imul, w_iand, w_iushr, v_idiv, v_irem, w_ineg, w_i2l, w_i2c, w_i2f, w_i2d, v_f2d, w_lcmp, w_dcmp, v_fdiv, v_ddiv, w_dup_i, w_dup_r, w_dup2, w_dup_x2, w_pop_i, w_pop_r, w_goto, w_switch, w_ret_i, v_ret_z, v_ret_c, w_ret_a, w_ret_s, w_ret_f, w_ret_d, w_ret_v, v_iaload, v_baload, v_caload, v_laload, v_aaload, v_iastore, v_bastore, v_castore, v_lastore, v_aastore, v_alen, v_newa, v_anewa, w_new, w_throw, w_dead, v_getf_i, v_getf_z, v_getf_r, v_putf_i, v_putf_z, v_putf_r, w_call0, w_call1, w_callv1, w_calli1, w_callt1, w_call2, w_callv2, w_calli2, w_callt2, w_call3, w_callv3, w_calli3, w_call4, w_callv4, w_calli4, w_call5, w_callv5, w_calli5, w_call6, w_callv6, w_calli6, w_call7, w_callv7, w_calli7, w_call8, w_callv8, w_calli8, c_if0_eq_t, c_if0_eq_f, c_if2_eq_t, c_if2_eq_f, c_if0_ne_t, c_if0_ne_f, c_if2_ne_t, c_if2_ne_f, c_if0_lt_t, c_if0_lt_f, c_if2_lt_t, c_if2_lt_f, c_if0_ge_t, c_if0_ge_f, c_if2_ge_t, c_if2_ge_f, c_if0_gt_t, c_if0_gt_f, c_if2_gt_t, c_if2_gt_f, c_if0_le_t, c_if0_le_f, c_if2_le_t, c_if2_le_f, w_nil, uI_s, uA_r, uA_s, uD_d, mPut_0, mCl_own, mCv_go, mCl_min, mCl_cpy, mCv_obj, mAct_len, mAct_chrc, mAft_v, mAft_n, mAft_x, mGet_0, mSet_0, mGet_1, mSet_1, mGet_2, mSet_2, mGet_3, mSet_3, mGet_4, mSet_4, mGet_5, mSet_5, mGet_6, mSet_6, mGet_7, mSet_7, mGet_8, mSet_8, mGet_9, mSet_9, mGet_10, mSet_10, mGet_11, mSet_11, mGet_12, mSet_12, mGet_13, mSet_13, e_RS_startChange, a_RS_startChange_0, bk_RS_startChange_0, yx_k h1, yx_0 h1, yx_4 h1, yx_5 h1, yx_6 h1, yx_7 h1, yx_8 h1, yx_9 h1, yx_10 h1, yx_k1 h1, yx_l1 h1, yx_b h1, yx_bk h1, yx_bs h1, yx_sk h1, yx_sl h1, yx_s h1, yx_e h1, yx_k9 h1, yx_l9 h1, yx_k10 h1, yx_l10 h1, hc]
  refine p_BrSt9 D hg h (fun I1 S1 π' hX e1 p1 p2 f1 v1 v2 hs ho fl => ?_)
  have hpb := yx_pi hX c0 c1 (show 0 ≤ gK G by omega) (show gK G < 7 by omega)
  have hB := yx_B hX c0 c1 hpb.1 hpb.2
  simp (disch := first | omega | exact Nat.le_of_ble_eq_true rfl | (simp (disch := omega) only [yb_k hB] <;> omega)) only [w_iconst, w_bipush, w_sipush, w_ldc_s, w_ldcw_s, w_ldc_i, w_ldcw_i, w_lconst, w_fconst, w_dconst, w_iload, w_iload_n, w_aload, w_aload_n, w_dload, w_istore, w_istore_n, w_astore_r, w_astore_s, w_astore_n_r, w_astore_n_s, w_dstore, w_iinc, w_iadd, w_isub, w_imul, w_iand, w_iushr, v_idiv, v_irem, w_ineg, w_i2l, w_i2c, w_i2f, w_i2d, v_f2d, w_lcmp, w_dcmp, v_fdiv, v_ddiv, w_dup_i, w_dup_r, w_dup2, w_dup_x2, w_pop_i, w_pop_r, w_goto, w_switch, w_ret_i, v_ret_z, v_ret_c, w_ret_a, w_ret_s, w_ret_f, w_ret_d, w_ret_v, v_iaload, v_baload, v_caload, v_laload, v_aaload, v_iastore, v_bastore, v_castore, v_lastore, v_aastore, v_alen, v_newa, v_anewa, w_new, w_throw, w_dead, v_getf_i, v_getf_z, v_getf_r, v_putf_i, v_putf_z, v_putf_r, w_call0, w_call1, w_callv1, w_calli1, w_callt1, w_call2, w_callv2, w_calli2, w_callt2, w_call3, w_callv3, w_calli3, w_call4, w_callv4, w_calli4, w_call5, w_callv5, w_calli5, w_call6, w_callv6, w_calli6, w_call7, w_callv7, w_calli7, w_call8, w_callv8, w_calli8, c_if0_eq_t, c_if0_eq_f, c_if2_eq_t, c_if2_eq_f, c_if0_ne_t, c_if0_ne_f, c_if2_ne_t, c_if2_ne_f, c_if0_lt_t, c_if0_lt_f, c_if2_lt_t, c_if2_lt_f, c_if0_ge_t, c_if0_ge_f, c_if2_ge_t, c_if2_ge_f, c_if0_gt_t, c_if0_gt_f, c_if2_gt_t, c_if2_gt_f, c_if0_le_t, c_if0_le_f, c_if2_le_t, c_if2_le_f, w_nil, uI_s, uA_r, uA_s, uD_d, mPut_0, mCl_own, mCv_go, mCl_min, mCl_cpy, mCv_obj, mAct_len, mAct_chrc, mAft_v, mAft_n, mAft_x, mGet_0, mSet_0, mGet_1, mSet_1, mGet_2, mSet_2, mGet_3, mSet_3, mGet_4, mSet_4, mGet_5, mSet_5, mGet_6, mSet_6, mGet_7, mSet_7, mGet_8, mSet_8, mGet_9, mSet_9, mGet_10, mSet_10, mGet_11, mSet_11, mGet_12, mSet_12, mGet_13, mSet_13, yb_k hB, r_forgetP (D + 3) hB]
  generalize hJ : mUp (mUp (mUp (mUp I1 ((x + (4 + 744 * ((G.1 1))) + 106 * π' ((G.1 1)) (gK G)) + 4) 0 0) ((x + (4 + 744 * ((G.1 1))) + 106 * π' ((G.1 1)) (gK G)) + 4) 1 0) ((x + (4 + 744 * ((G.1 1))) + 106 * π' ((G.1 1)) (gK G)) + 4) 2 0) ((x + (4 + 744 * ((G.1 1))) + 106 * π' ((G.1 1)) (gK G))) 8 0 = J
  obtain ⟨jo, js, jn, j4, j8, -⟩ := yFg ho hs hJ.symm
  have fJ : ∀ a : Int, a ≠ x + (2 + 744 * (G.1 1)) → (a < (x + (4 + 744 * ((G.1 1))) + 106 * π' ((G.1 1)) (gK G)) ∨ (x + (4 + 744 * ((G.1 1))) + 106 * π' ((G.1 1)) (gK G)) + 106 ≤ a) → J a = I a := fun a a1 a2 => by rw [jn a (by omega) (by omega)]; exact f1 a a1 a2
  have hbr : J (x + (2 + 744 * (G.1 1))) = I1 (x + (2 + 744 * (G.1 1))) := jn _ (by omega) (by omega)
  refine kk J S1 π' _ ?_ (fun a ha => fJ a (by omega) (by omega)) e1 rfl j4 j8 (fun a ha => fJ a (by omega) (by omega)) (fun q8 q4 => yWay_k (yS_way (gO_w hg).1 hs (fl.1.trans q8) (fl.2.trans q4)) (gO_w hg).1 (fun a a0 a1 => jn a a0 a1))
  obtain ⟨-, h2, h3, h4, h5, h6, h7, h8, h9, h10, h11⟩ := h
  have e5 : ∀ a : Int, x + 2234 ≤ a → J a = I a := fun a ha => fJ a (by omega) (by omega)
  have ok6 : yOk J (x + 2234) := yOk_k h6 (fun a a0 a1 => e5 a (by omega))
  have oq7 : nOldQ J (x + 2341) := by
    unfold nOldQ at h7 ⊢
    rw [e5 _ (by omega), e5 (x + 2341 + 10) (by omega), e5 (x + 2341 + 11) (by omega)]; exact h7
  have eT : ((gPush G ((G.2.1 (G.1 1) (G.1 (10 + G.1 1))))).1 2) = (G.1 2) := gPush_1 (by omega) (by omega) (by omega) (by omega)
  have eR : ((gPush G ((G.2.1 (G.1 1) (G.1 (10 + G.1 1))))).1 3) = (G.1 3) := gPush_1 (by omega) (by omega) (by omega) (by omega)
  have eW : ((gPush G ((G.2.1 (G.1 1) (G.1 (10 + G.1 1))))).1 4) = (G.1 4) := gPush_1 (by omega) (by omega) (by omega) (by omega)
  refine ⟨hX, ?_, fun k k0 k1 => ?_, fun k j k0 k1 j0 j1 => ?_, fun k j k0 k1 j0 j1 => ?_, ok6, oq7, ?_, ?_, ?_, ?_⟩
  · rw [gPush_N hg, gPush_C hg, fJ x (by omega) (by omega)]; exact h2
  · rw [gPush_U hg k0 k1, gPush_E hg k0 k1]
    by_cases c : k = (G.1 1)
    · rw [if_pos c, if_pos c, c, hbr, v1, v2]; exact ⟨rfl, by omega⟩
    · rw [if_neg c, if_neg c, fJ (x + (2 + 744 * k)) (by omega) (by first | omega | exact xSep1 (by omega) (by omega))]; exact h3 k k0 k1
  · by_cases c : k = (G.1 1) ∧ j = π' ((G.1 1)) (gK G)
    · rw [c.1, c.2]; exact jo
    · exact yOk_k (h4 k j k0 k1 j0 j1) (fun a a0 a1 => fJ a (xOut a0 a1 k0 k1 j0 j1) (by first | omega | exact xSep2 a0 a1 (by omega) (by omega) (by omega) (by omega) (by omega)))
  · rw [gPush_N hg] at k1
    rw [gPush_E hg k0 (by omega)] at j1
    rw [gPush_S]
    by_cases c : k = (G.1 1)
    · rw [if_pos c] at j1 ⊢
      subst c
      by_cases cj : j = gK G
      · rw [if_pos cj, cj]; exact js
      · rw [if_neg cj]
        have hpj := p2 j j0 (by omega)
        have hp' := yx_pi hX c0 c1 j0 (show j < 7 by omega)
        have hne : π' ((G.1 1)) j ≠ π' ((G.1 1)) (gK G) := fun e => cj (yx_inj hX c0 c1 j0 (by omega) (by omega) (by omega) e)
        have hk : ∀ a : Int, x + (4 + 744 * (G.1 1)) + 106 * π' ((G.1 1)) j ≤ a → a < x + (4 + 744 * (G.1 1)) + 106 * π' ((G.1 1)) j + 106 → J a = I a := fun a a0 a1 => fJ a (by omega) (by first | omega | exact xSep2 a0 a1 (by omega) (by omega) (by omega) (by omega) (by omega))
        by_cases c6 : (G.1 (10 + G.1 1)) < 6
        · rw [if_pos c6] at hpj ⊢
          rw [hpj] at hk ⊢
          have hj9 : j ≤ (G.1 (20 + ((G.1 1)))) := by have := hK.2.2.1 c6; omega
          exact yS_k (hg.2.2.2.1 _ j c0 c2 j0 hj9).1 (h5 _ j c0 c2 j0 hj9) hk
        · rw [if_neg c6] at hpj ⊢
          rw [hpj] at hk ⊢
          have hj9 : j + 1 ≤ (G.1 (20 + ((G.1 1)))) := by have := hK.2.2.2 c6; omega
          exact yS_k (hg.2.2.2.1 _ (j + 1) c0 c2 (by omega) hj9).1 (h5 _ (j + 1) c0 c2 (by omega) hj9) hk
    · rw [if_neg c] at j1 ⊢
      rw [p1 k j c]
      have hp' := yx_pi h1 k0 (show k < 3 by omega) j0 (by have := (hg.2.2.1 k k0 (by omega)).1; omega)
      exact yS_k (hg.2.2.2.1 k j k0 k1 j0 j1).1 (h5 k j k0 k1 j0 j1) (fun a a0 a1 => fJ a (xOut a0 a1 k0 (by omega) hp'.1 hp'.2) (by first | omega | exact xSep2 a0 a1 (by omega) (by omega) (by omega) (by omega) (by omega)))
  · rw [e5 _ (by omega)]; exact h8
  · rw [e5 (x + 2359) (by omega), e5 (x + 2360) (by omega), eT, eR]; exact h9
  · rw [e5 (x + 2364) (by omega), e5 (x + 2357) (by omega), e5 (x + 2358) (by omega)]; exact h10
  · rw [e5 (x + 2365) (by omega), e5 (x + 2366) (by omega), eW]; exact h11
theorem p_start9 (hg : gWf G) (h : xQ S I x π G) (kk : ∀ (I1 : mN) (S1 : mH) (π1 : Int → Int → Int) (b1 b0 : Int), yX S1 x π1 → yB S1 b1 → yS I1 b1 ((G.2.1 (G.1 1) (G.1 (10 + G.1 1)))) → yOk I1 b1 → yF0 I1 b1 → (x < b1 ∧ b1 + 106 ≤ x + 2234) → (I ((x + (4 + 744 * ((G.1 1))) + 106 * π ((G.1 1)) ((G.1 (10 + G.1 1))))) 8 = 1 → I (((x + (4 + 744 * ((G.1 1))) + 106 * π ((G.1 1)) ((G.1 (10 + G.1 1))))) + 4) 0 = 1 → yWay I1 b1 ((G.2.1 (G.1 1) (G.1 (10 + G.1 1))))) → (xF I I1 x ∧ ∀ a : Int, x + 2234 ≤ a → I1 a = I a) →
    (∀ (τ : sT) (I2 : mN), sWf τ → sZ τ → yS I2 b1 τ → yOk I2 b1 → (∀ a : Int, (a < b1 ∨ b1 + 106 ≤ a) → a ≠ x + 2340 → I2 a = I1 a) → (∀ (D : Nat) (Q : mQ), mRun (D + 2) 175 [mR x] I2 S1 Q = Q (.inl (some (mR b0))) I2 S1) ∧ (∀ (D : Nat) (Q : mQ), mRun (D + 2) 173 [mR x] I2 S1 Q = Q (.inl (some (mR b1))) I2 S1) ∧ ∀ (D : Nat) (Q : mQ) (ans : Int), (∀ I3 : mN, xR S1 I3 x (gPush G τ) → xEnd S I S1 I3 x → Q (.inl (some (mI ans))) I3 S1) → mRun (D + 41) 176 [mR x, mR b0, mI ans] I2 S1 Q) → Q (.inl (some (mR b1))) I1 S1) : mRun (D + 5) 174 [mR x] I S Q := by
  have hJ := gJ_b hg
  have hK := gK_b hg
  have hO := gO_w hg
  refine p_startC9 D hg h (fun I1 S1 π1 b1 hq f1 e1 hb1 h4 h8 hT hW => ?_)
  have hp := yx_pi hq.1 hJ.1.1 hJ.1.2.1 (show 0 ≤ gK G by omega) (show gK G < 7 by omega)
  have hB := yx_B hq.1 hJ.1.1 hJ.1.2.1 hp.1 hp.2
  have ho := hq.2.2.2.1 ((G.1 1)) (π1 ((G.1 1)) (gK G)) hJ.1.1 hJ.1.2.1 hp.1 hp.2
  have hs := hq.2.2.2.2.1 ((G.1 1)) (gK G) hJ.1.1 (by rw [gPush_N hg]; exact hJ.1.2.2) (by omega) (by rw [gPush_E hg hJ.1.1 hJ.1.2.1, if_pos rfl]; exact Int.le_refl _)
  rw [gPush_S, if_pos rfl, if_pos rfl] at hs
  rw [← hb1] at hs ho hB
  have hb1' := hb1
  refine kk I1 S1 π1 b1 ((x + (4 + 744 * ((G.1 1))) + 106 * π1 ((G.1 1)) (gK G - 1))) hq.1 hB hs ho ⟨h4, h8⟩ (by omega) hW ⟨f1, hT⟩ (fun τ I2 hw hz hs2 ho2 hf2 => ?_)
  have ht2 : yOk I2 (x + 2234) := yOk_k hq.2.2.2.2.2.1 (fun a a0 a1 => hf2 a (by omega) (by omega))
  have hn2 : nOldQ I2 (x + 2341) := nOldQ_k hq.2.2.2.2.2.2.1 (fun a a0 a1 => hf2 a (by omega) (by omega))
  rw [hb1] at hs2 ho2 hf2 ⊢
  have hq2 : xQ S1 I2 x π1 (gPush G τ) := xQ_set hg hO.1 hO.2 hq (fun a a1 a2 _ => hf2 a a1 (by omega)) ht2 hn2 ho2 hs2
  refine ⟨fun D Q => xBef D hg hw hz hq2, fun D Q => xNw D hg hw hz hq2, fun D Q ans k => xFin D hg hw hz hq2 (fun I3 hR f3 => k I3 hR (xEnd_E e1 (xF_t f1 (xF_t (fun a ha => hf2 a (by omega) (by omega)) f3))))⟩
end XT9
