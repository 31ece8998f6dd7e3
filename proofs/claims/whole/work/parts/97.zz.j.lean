/-! Errors, by the office. -/
section ZJ
variable {S : mH} {I : mN} {x : Int} {π : Int → Int → Int} {G : gT} {Q : mQ} (D : Nat)
theorem yS_zpl {b : Int} {σ : sT} (hw : sWf σ) (hs : yS I b σ) (hp : I (b + 4) 0 = 1) : zPlan (yNet I b 0) (I b 3).toNat (I b 0) (yRk I b) (zPo I b) (sAk σ 0) (zAm I b 0) := by
  have hA : ∀ o t : Int, 0 ≤ o → o < σ 3 → 0 ≤ t → t < 8 → zAm I b 0 o t = sAm σ 0 o t := fun o t o0 o1 t0 t1 => yS_plan1 hs hp (by decide) (by decide) o0 o1 t0 t1
  rw [hs.1.2.2.2, hs.1.1]
  have hP := sPlan_all hw (show (0 : Int) ≤ 0 by decide) (show (0 : Int) < 3 by decide)
  have h3 := hw.1.2.2.2
  unfold sPlan at hP
  exact zPlan_cg (zAg_symm (yS_ag hw hs (by decide) (by decide))) (fun o o0 o1 => (yS_rk hw hs o0 (by omega)).symm) (fun o o0 o1 => (yS_po hs o0 (by omega)).symm) (fun o t o0 o1 t0 t1 t2 => (hA o t o0 (by omega) t1 t2).symm) (fun _ _ _ _ _ _ _ => rfl) hP
theorem yS_bal {n b : Int} {σ : sT} (hw : sWf σ) (hs : yS I b σ) (ho : yOk I b) (hp : I (b + 4) 0 = 1) (h8 : I b 8 = 1) (su : ∀ v : Int, 0 ≤ v → v < 48 → I (n + 7) v = sSu σ 0 v) : yBal I n b := by
  intro p w p0 p1 w0 w1
  obtain ⟨e0, e1, e2, e3⟩ := hs.1
  obtain ⟨⟨v0, v0'⟩, ⟨v1, v1'⟩, ⟨v2, v2'⟩, v3, v3'⟩ := id hw.1
  rw [e0] at w0
  rw [e1] at p1
  have hp6 : p < 6 := by omega
  obtain ⟨q1, q2⟩ := hs.2.2.2.2.2 h8
  obtain ⟨m1, m2⟩ := q2 p w p0 p1 w0 w1
  obtain ⟨-, g2, -⟩ := ho.1.2.1 p p0 hp6
  have gw := g2 w (by omega) (by omega)
  have gw1 := g2 (w + 1) (by omega) (by omega)
  have hc := (sWf_P hw p0 hp6).1
  have hL := sLp_bd hw p0 hp6 w0 w1
  have hst : sSt σ p (w + 1) = zMn (sLp σ p w) (σ (4 + 2 * p)) := by
    unfold sSt
    rw [if_neg (by omega), if_neg (by omega), show w + 1 - 1 = w by omega]
  have hra : sRa σ p w = sLp σ p w - zMn (sLp σ p w) (σ (4 + 2 * p)) := by
    unfold sRa
    rw [if_neg (by omega)]
  have hrb : -500000 ≤ sRa σ p w ∧ sRa σ p w ≤ 1000000 := by
    rw [hra]
    unfold zMn
    split <;> omega
  refine ⟨⟨by omega, gw.2⟩, ⟨by omega, gw1.2⟩, by rw [m2]; exact hrb, ?_⟩
  have a1 : sm (I b 2).toNat (yIn I b (I b 0) p w) = sm (σ 2).toNat (sTi σ p w) := by
    rw [e2, e0]
    refine sm_congr (fun r r0 r1 => ?_)
    obtain ⟨⟨b0, b1, b2⟩, -⟩ := hs.2.2.1 r r0 (by omega)
    unfold yIn sTi
    rw [b1, b2]
    by_cases c : σ (17 + 11 * r) = p ∧ σ 0 ≤ w - σ (18 + 11 * r)
    · rw [if_pos c, if_pos c]
      have := (hw.2.2.1 r r0 (by omega)).1
      exact q1 r _ r0 (by omega) c.2 (by omega)
    · rw [if_neg c, if_neg c]
  have a2 : sm (I b 3).toNat (yAo I b p w) = sm (σ 3).toNat (sTa σ p w) := by
    rw [e3]
    refine sm_congr (fun r r0 r1 => ?_)
    have b0 := (hs.2.2.2.1 r r0 (by omega)).1.1
    unfold yAo sTa
    rw [b0]
    by_cases c : σ (259 + 76 * r) = p
    · rw [if_pos c, if_pos c]
      have h9 := yS_plan1 (s := 0) hs hp (by decide) (by decide) r0 (show r < σ 3 by omega) (show 0 ≤ w by omega) w1
      rw [show (0 : Int) * 8 + w = w by omega] at h9
      exact h9
    · rw [if_neg c, if_neg c]
  have a3 : sm (I b 2).toNat (yOu I b p w) = sm (σ 2).toNat (sTo' σ p w) := by
    rw [e2]
    refine sm_congr (fun r r0 r1 => ?_)
    obtain ⟨⟨b0, b1, b2⟩, -⟩ := hs.2.2.1 r r0 (by omega)
    unfold yOu sTo'
    rw [b0]
    by_cases c : σ (16 + 11 * r) = p
    · rw [if_pos c, if_pos c]
      exact q1 r w r0 (by omega) w0 w1
    · rw [if_neg c, if_neg c]
  have hbs := sBs_e σ p w
  rw [a1, a2, a3, m1, m2, hst, hra, e0, su (p * 8 + w) (by omega) (by omega)]
  by_cases c : σ 0 < w
  · rw [if_pos c]
    obtain ⟨l1, -⟩ := q2 p (w - 1) p0 p1 (by omega) (by omega)
    have l2 := sLp_s (σ := σ) (p := p) (w := w - 1) (by omega)
    rw [show w - 1 + 1 = w by omega] at l1 l2
    have l3 : sSt σ p w = zMn (sLp σ p (w - 1)) (σ (4 + 2 * p)) := by
      unfold sSt
      rw [if_neg (by omega), if_neg (by omega)]
    rw [l1, l3]
    omega
  · rw [if_neg c]
    have l2 := sLp_0 (σ := σ) (p := p)
    rw [show σ 0 = w by omega] at l2
    omega
theorem cx_56 (hg : gWf G) (h : xR S I x G) (kk : xK S I x Q (r56 G)) : mRun (D + 50) 172 [mR x] I S Q := by
  obtain ⟨π, hx, h3⟩ := id h
  obtain ⟨b, hb, hnow, hB, ho, hs, hxb, hbx⟩ := xNow hg hx
  have h1 := hx.1
  have hw := (gO_w hg).1
  have cc := gJ_b hg
  have hk9 := yn_k (yx_n h1)
  have hv := hw.1
  have hn1 : ∀ Q : mQ, mRun (D + 49) 173 [mR x] I S Q = Q (.inl (some (mR b))) I S := fun Q => hnow (D + 47) Q
  simp (disch := first | omega | exact Nat.le_of_ble_eq_true rfl | (simp (disch := omega) only [yx_k h1, yx_0 h1, yx_4 h1, yx_5 h1, yx_6 h1, yx_7 h1, yx_8 h1, yx_9 h1, yx_10 h1, yx_k1 h1, yx_l1 h1, yx_b h1, yx_bk h1, yx_bs h1, yx_sk h1, yx_sl h1, yx_s h1, yx_e h1, yx_k9 h1, yx_l9 h1, yx_k10 h1, yx_l10 h1, hk9] <;> omega)) only [w_iconst, w_bipush, w_sipush, w_ldc_s, w_ldcw_s, w_ldc_i, w_ldcw_i, w_lconst, w_fconst, w_dconst, w_iload, w_iload_n, w_aload, w_aload_n, w_dload, w_istore, w_istore_n, w_astore_r, w_astore_s, w_astore_n_r, w_astore_n_s, w_dstore, w_iinc, w_iadd, w_isub, w_imul, w_iand, w_iushr, v_idiv, v_irem, w_ineg, w_i2l, w_i2c, w_i2f, w_i2d, v_f2d, w_lcmp, w_dcmp, v_fdiv, v_ddiv, w_dup_i, w_dup_r, w_dup2, w_dup_x2, w_pop_i, w_pop_r, w_goto, w_switch, w_ret_i, v_ret_z, v_ret_c, w_ret_a, w_ret_s, w_ret_f, w_ret_d, w_ret_v, v_iaload, v_baload, v_caload, v_laload, v_aaload, v_iastore, v_bastore, v_castore, v_lastore, v_aastore, v_alen, v_newa, v_anewa, w_new, w_throw, w_dead, v_getf_i, v_getf_z, v_getf_r, v_putf_i, v_putf_z, v_putf_r, w_call0, w_call1, w_callv1, w_calli1, w_callt1, w_call2, w_callv2, w_calli2, w_callt2, w_call3, w_callv3, w_calli3, w_call4, w_callv4, w_calli4, w_call5, w_callv5, w_calli5, w_call6, w_callv6, w_calli6, w_call7, w_callv7, w_calli7, w_call8, w_callv8, w_calli8, c_if0_eq_t, c_if0_eq_f, c_if2_eq_t, c_if2_eq_f, c_if0_ne_t, c_if0_ne_f, c_if2_ne_t, c_if2_ne_f, c_if0_lt_t, c_if0_lt_f, c_if2_lt_t, c_if2_lt_f, c_if0_ge_t, c_if0_ge_f, c_if2_ge_t, c_if2_ge_f, c_if0_gt_t, c_if0_gt_f, c_if2_gt_t, c_if2_gt_f, c_if0_le_t, c_if0_le_f, c_if2_le_t, c_if2_le_f, w_nil, uI_s, uA_r, uA_s, uD_d, mPut_0, mCl_own, mCv_go, mCl_min, mCl_cpy, mCv_obj, mAct_len, mAct_chrc, mAft_v, mAft_n, mAft_x, mGet_0, mSet_0, mGet_1, mSet_1, mGet_2, mSet_2, mGet_3, mSet_3, mGet_4, mSet_4, mGet_5, mSet_5, mGet_6, mSet_6, mGet_7, mSet_7, mGet_8, mSet_8, mGet_9, mSet_9, mGet_10, mSet_10, mGet_11, mSet_11, mGet_12, mSet_12, mGet_13, mSet_13, e_RS_errors, a_RS_errors_0, bk_RS_errors_0, yx_k h1, yx_0 h1, yx_4 h1, yx_5 h1, yx_6 h1, yx_7 h1, yx_8 h1, yx_9 h1, yx_10 h1, yx_k1 h1, yx_l1 h1, yx_b h1, yx_bk h1, yx_bs h1, yx_sk h1, yx_sl h1, yx_s h1, yx_e h1, yx_k9 h1, yx_l9 h1, yx_k10 h1, yx_l10 h1, hk9, hn1]
  refine p_wayX (D + 8) hg hx hb.symm cc.1.1 cc.1.2.2 cc.2.1 cc.2.2.1 (fun I1 hx1 f1 e1 s1 => ?_)
  have hR1 : xR S I1 x G := xR_p hx1 h3 f1 hxb hbx
  have hf1 : xF I I1 x := yFn_x f1 rfl rfl (by omega) (by omega)
  obtain ⟨b2, hb2, -, -, ho1, -, -, -⟩ := xNow hg hx1
  have eb : b2 = b := by rw [hb2, hb]
  rw [eb] at ho1
  have e10 : I1 (b + 4) 0 = 1 := by
    rcases ho1.2.2.2.2 with q | q
    · rw [e1] at q; exact absurd q (by decide)
    · exact q.2
  simp (disch := first | omega | exact Nat.le_of_ble_eq_true rfl | (simp (disch := omega) only [yx_k h1, yx_0 h1, yx_4 h1, yx_5 h1, yx_6 h1, yx_7 h1, yx_8 h1, yx_9 h1, yx_10 h1, yx_k1 h1, yx_l1 h1, yx_b h1, yx_bk h1, yx_bs h1, yx_sk h1, yx_sl h1, yx_s h1, yx_e h1, yx_k9 h1, yx_l9 h1, yx_k10 h1, yx_l10 h1, hk9] <;> omega)) only [w_iconst, w_bipush, w_sipush, w_ldc_s, w_ldcw_s, w_ldc_i, w_ldcw_i, w_lconst, w_fconst, w_dconst, w_iload, w_iload_n, w_aload, w_aload_n, w_dload, w_istore, w_istore_n, w_astore_r, w_astore_s, w_astore_n_r, w_astore_n_s, w_dstore, w_iinc, w_iadd, w_isub, w_imul, w_iand, w_iushr, v_idiv, v_irem, w_ineg, w_i2l, w_i2c, w_i2f, w_i2d, v_f2d, w_lcmp, w_dcmp, v_fdiv, v_ddiv, w_dup_i, w_dup_r, w_dup2, w_dup_x2, w_pop_i, w_pop_r, w_goto, w_switch, w_ret_i, v_ret_z, v_ret_c, w_ret_a, w_ret_s, w_ret_f, w_ret_d, w_ret_v, v_iaload, v_baload, v_caload, v_laload, v_aaload, v_iastore, v_bastore, v_castore, v_lastore, v_aastore, v_alen, v_newa, v_anewa, w_new, w_throw, w_dead, v_getf_i, v_getf_z, v_getf_r, v_putf_i, v_putf_z, v_putf_r, w_call0, w_call1, w_callv1, w_calli1, w_callt1, w_call2, w_callv2, w_calli2, w_callt2, w_call3, w_callv3, w_calli3, w_call4, w_callv4, w_calli4, w_call5, w_callv5, w_calli5, w_call6, w_callv6, w_calli6, w_call7, w_callv7, w_calli7, w_call8, w_callv8, w_calli8, c_if0_eq_t, c_if0_eq_f, c_if2_eq_t, c_if2_eq_f, c_if0_ne_t, c_if0_ne_f, c_if2_ne_t, c_if2_ne_f, c_if0_lt_t, c_if0_lt_f, c_if2_lt_t, c_if2_lt_f, c_if0_ge_t, c_if0_ge_f, c_if2_ge_t, c_if2_ge_f, c_if0_gt_t, c_if0_gt_f, c_if2_gt_t, c_if2_gt_f, c_if0_le_t, c_if0_le_f, c_if2_le_t, c_if2_le_f, w_nil, uI_s, uA_r, uA_s, uD_d, mPut_0, mCl_own, mCv_go, mCl_min, mCl_cpy, mCv_obj, mAct_len, mAct_chrc, mAft_v, mAft_n, mAft_x, mGet_0, mSet_0, mGet_1, mSet_1, mGet_2, mSet_2, mGet_3, mSet_3, mGet_4, mSet_4, mGet_5, mSet_5, mGet_6, mSet_6, mGet_7, mSet_7, mGet_8, mSet_8, mGet_9, mSet_9, mGet_10, mSet_10, mGet_11, mSet_11, mGet_12, mSet_12, mGet_13, mSet_13, yx_k h1, yx_0 h1, yx_4 h1, yx_5 h1, yx_6 h1, yx_7 h1, yx_8 h1, yx_9 h1, yx_10 h1, yx_k1 h1, yx_l1 h1, yx_b h1, yx_bk h1, yx_bs h1, yx_sk h1, yx_sl h1, yx_s h1, yx_e h1, yx_k9 h1, yx_l9 h1, yx_k10 h1, yx_l10 h1, hk9]
  refine p_wrongW (D := D + 44) (ask := sAk ((G.2.1 (G.1 1) (G.1 (10 + G.1 1)))) 0) (by omega) (yx_n h1) hB (by omega) (by omega) ho1.1 hx1.2.2.2.2.2.2.1 (yS_zpl hw s1 e10) (yS_nAsk (D + 9) (yx_e h1) hB (by omega) hw ho1 s1 (by decide) (by decide)) (fun r r0 r1 => ?_) (fun r r0 r1 j j0 j1 => (ho1.2.1 r r0 r1).2.2.2 j j0 (by omega)) (fun I2 N0 hag hW => ?_)
  · have := ho1.2.2.1 r r0 r1
    have := ho1.1.1.2.1
    dsimp only [zPo]
    exact ⟨by omega, by omega⟩
  have e2 : ∀ a : Int, (a < x + 2341 ∨ x + 2341 + 15 ≤ a) → a ≠ x + 2340 → I2 a = I1 a := hW.2.2.2.2.2.2
  have hK : yKp I1 I2 b := fun a a0 a1 => e2 a (by omega) (by omega)
  have hs2 : yS I2 b ((G.2.1 (G.1 1) (G.1 (10 + G.1 1)))) := yS_k hw s1 hK
  have ho2 : yOk I2 b := yOk_k ho1 hK
  have hbd2 := ho2.1
  have h9 : ∀ v : Int, I2 (x + 2341 + 7) v = N0.2.2.2.2 v := fun v => congrFun (congrArg (fun N : zNet => N.2.2.2.2) hW.2.1) v
  have hsb : ySb I2 (x + 2341) b := ⟨hbd2.1, fun v v0 v1 => by
    rw [h9, hag.2 v v0 v1]
    exact ySu_bd ho1.1 (Int.le_refl 0) (by decide) (by omega) (by omega) (by omega), fun p p0 p1 => (hbd2.2.1 p p0 p1).1, fun r r0 r1 => ⟨(hbd2.2.2.1 r r0 r1).1, fun j j0 j1 => ((hbd2.2.2.1 r r0 r1).2 j j0 j1).2⟩, fun r r0 r1 j j0 j1 => (ho2.2.1 r r0 r1).2.2.2 j j0 (by omega)⟩
  have e28 : I2 b 8 = 1 := by rw [e2 b (by omega) (by omega)]; exact e1
  have hx2 : xQ S I2 x π G := xQ_t hg hx1 (fun q q1 q2 => e2 q (by omega) (by omega)) (yOk_k hx1.2.2.2.2.2.1 (fun q q0 q1 => e2 q (by omega) (by omega))) hW.1.2.2.2.2
  simp (disch := first | omega | exact Nat.le_of_ble_eq_true rfl | (simp (disch := omega) only [yx_k h1, yx_0 h1, yx_4 h1, yx_5 h1, yx_6 h1, yx_7 h1, yx_8 h1, yx_9 h1, yx_10 h1, yx_k1 h1, yx_l1 h1, yx_b h1, yx_bk h1, yx_bs h1, yx_sk h1, yx_sl h1, yx_s h1, yx_e h1, yx_k9 h1, yx_l9 h1, yx_k10 h1, yx_l10 h1, hk9] <;> omega)) only [w_iconst, w_bipush, w_sipush, w_ldc_s, w_ldcw_s, w_ldc_i, w_ldcw_i, w_lconst, w_fconst, w_dconst, w_iload, w_iload_n, w_aload, w_aload_n, w_dload, w_istore, w_istore_n, w_astore_r, w_astore_s, w_astore_n_r, w_astore_n_s, w_dstore, w_iinc, w_iadd, w_isub, w_imul, w_iand, w_iushr, v_idiv, v_irem, w_ineg, w_i2l, w_i2c, w_i2f, w_i2d, v_f2d, w_lcmp, w_dcmp, v_fdiv, v_ddiv, w_dup_i, w_dup_r, w_dup2, w_dup_x2, w_pop_i, w_pop_r, w_goto, w_switch, w_ret_i, v_ret_z, v_ret_c, w_ret_a, w_ret_s, w_ret_f, w_ret_d, w_ret_v, v_iaload, v_baload, v_caload, v_laload, v_aaload, v_iastore, v_bastore, v_castore, v_lastore, v_aastore, v_alen, v_newa, v_anewa, w_new, w_throw, w_dead, v_getf_i, v_getf_z, v_getf_r, v_putf_i, v_putf_z, v_putf_r, w_call0, w_call1, w_callv1, w_calli1, w_callt1, w_call2, w_callv2, w_calli2, w_callt2, w_call3, w_callv3, w_calli3, w_call4, w_callv4, w_calli4, w_call5, w_callv5, w_calli5, w_call6, w_callv6, w_calli6, w_call7, w_callv7, w_calli7, w_call8, w_callv8, w_calli8, c_if0_eq_t, c_if0_eq_f, c_if2_eq_t, c_if2_eq_f, c_if0_ne_t, c_if0_ne_f, c_if2_ne_t, c_if2_ne_f, c_if0_lt_t, c_if0_lt_f, c_if2_lt_t, c_if2_lt_f, c_if0_ge_t, c_if0_ge_f, c_if2_ge_t, c_if2_ge_f, c_if0_gt_t, c_if0_gt_f, c_if2_gt_t, c_if2_gt_f, c_if0_le_t, c_if0_le_f, c_if2_le_t, c_if2_le_f, w_nil, uI_s, uA_r, uA_s, uD_d, mPut_0, mCl_own, mCv_go, mCl_min, mCl_cpy, mCv_obj, mAct_len, mAct_chrc, mAft_v, mAft_n, mAft_x, mGet_0, mSet_0, mGet_1, mSet_1, mGet_2, mSet_2, mGet_3, mSet_3, mGet_4, mSet_4, mGet_5, mSet_5, mGet_6, mSet_6, mGet_7, mSet_7, mGet_8, mSet_8, mGet_9, mSet_9, mGet_10, mSet_10, mGet_11, mSet_11, mGet_12, mSet_12, mGet_13, mSet_13, yx_k h1, yx_0 h1, yx_4 h1, yx_5 h1, yx_6 h1, yx_7 h1, yx_8 h1, yx_9 h1, yx_10 h1, yx_k1 h1, yx_l1 h1, yx_b h1, yx_bk h1, yx_bs h1, yx_sk h1, yx_sl h1, yx_s h1, yx_e h1, yx_k9 h1, yx_l9 h1, yx_k10 h1, yx_l10 h1, hk9]
  refine r_wrongN (D := D + 47) (yx_n h1) hB hsb (by rw [hW.2.2.1, e2 b (by omega) (by omega)]) (yS_bal hw hs2 ho2 (by rw [e2 (b + 4) (by omega) (by omega)]; exact e10) e28 (fun v v0 v1 => by
    rw [h9, hag.2 v v0 v1]
    exact yS_su hw s1 (by decide) (by decide) v0 v1)) ?_
  simp (disch := first | omega | exact Nat.le_of_ble_eq_true rfl | (simp (disch := omega) only [yx_k h1, yx_0 h1, yx_4 h1, yx_5 h1, yx_6 h1, yx_7 h1, yx_8 h1, yx_9 h1, yx_10 h1, yx_k1 h1, yx_l1 h1, yx_b h1, yx_bk h1, yx_bs h1, yx_sk h1, yx_sl h1, yx_s h1, yx_e h1, yx_k9 h1, yx_l9 h1, yx_k10 h1, yx_l10 h1, hk9, yb_k hB] <;> omega)) only [w_iconst, w_bipush, w_sipush, w_ldc_s, w_ldcw_s, w_ldc_i, w_ldcw_i, w_lconst, w_fconst, w_dconst, w_iload, w_iload_n, w_aload, w_aload_n, w_dload, w_istore, w_istore_n, w_astore_r, w_astore_s, w_astore_n_r, w_astore_n_s, w_dstore, w_iinc, w_iadd, w_isub, w_imul, w_iand, w_iushr, v_idiv, v_irem, w_ineg, w_i2l, w_i2c, w_i2f, w_i2d, v_f2d, w_lcmp, w_dcmp, v_fdiv, v_ddiv, w_dup_i, w_dup_r, w_dup2, w_dup_x2, w_pop_i, w_pop_r, w_goto, w_switch, w_ret_i, v_ret_z, v_ret_c, w_ret_a, w_ret_s, w_ret_f, w_ret_d, w_ret_v, v_iaload, v_baload, v_caload, v_laload, v_aaload, v_iastore, v_bastore, v_castore, v_lastore, v_aastore, v_alen, v_newa, v_anewa, w_new, w_throw, w_dead, v_getf_i, v_getf_z, v_getf_r, v_putf_i, v_putf_z, v_putf_r, w_call0, w_call1, w_callv1, w_calli1, w_callt1, w_call2, w_callv2, w_calli2, w_callt2, w_call3, w_callv3, w_calli3, w_call4, w_callv4, w_calli4, w_call5, w_callv5, w_calli5, w_call6, w_callv6, w_calli6, w_call7, w_callv7, w_calli7, w_call8, w_callv8, w_calli8, c_if0_eq_t, c_if0_eq_f, c_if2_eq_t, c_if2_eq_f, c_if0_ne_t, c_if0_ne_f, c_if2_ne_t, c_if2_ne_f, c_if0_lt_t, c_if0_lt_f, c_if2_lt_t, c_if2_lt_f, c_if0_ge_t, c_if0_ge_f, c_if2_ge_t, c_if2_ge_f, c_if0_gt_t, c_if0_gt_f, c_if2_gt_t, c_if2_gt_f, c_if0_le_t, c_if0_le_f, c_if2_le_t, c_if2_le_f, w_nil, uI_s, uA_r, uA_s, uD_d, mPut_0, mCl_own, mCv_go, mCl_min, mCl_cpy, mCv_obj, mAct_len, mAct_chrc, mAft_v, mAft_n, mAft_x, mGet_0, mSet_0, mGet_1, mSet_1, mGet_2, mSet_2, mGet_3, mSet_3, mGet_4, mSet_4, mGet_5, mSet_5, mGet_6, mSet_6, mGet_7, mSet_7, mGet_8, mSet_8, mGet_9, mSet_9, mGet_10, mSet_10, mGet_11, mSet_11, mGet_12, mSet_12, mGet_13, mSet_13, yx_k h1, yx_0 h1, yx_4 h1, yx_5 h1, yx_6 h1, yx_7 h1, yx_8 h1, yx_9 h1, yx_10 h1, yx_k1 h1, yx_l1 h1, yx_b h1, yx_bk h1, yx_bs h1, yx_sk h1, yx_sl h1, yx_s h1, yx_e h1, yx_k9 h1, yx_l9 h1, yx_k10 h1, yx_l10 h1, hk9, yb_k hB, wr]
  refine r_wrongS (D := D + 48) hB hbd2.1.1.1 hbd2.1.1.2 hbd2.1.2.2.1.1 hbd2.1.2.2.1.2 (fun r w r0 r1 w0 w1 => ?_) ?_
  · rw [hs2.1.2.2.1] at r1
    rw [hs2.1.1] at w0
    rw [(hs2.2.2.2.2.2 e28).1 r w r0 r1 w0 w1, (hs2.2.2.1 r r0 r1).2.1 w (by omega) w1]
    exact sSe_cap hw r0 r1 w0 w1
  · simp (disch := first | omega | exact Nat.le_of_ble_eq_true rfl) only [w_iconst, w_bipush, w_sipush, w_ldc_s, w_ldcw_s, w_ldc_i, w_ldcw_i, w_lconst, w_fconst, w_dconst, w_iload, w_iload_n, w_aload, w_aload_n, w_dload, w_istore, w_istore_n, w_astore_r, w_astore_s, w_astore_n_r, w_astore_n_s, w_dstore, w_iinc, w_iadd, w_isub, w_imul, w_iand, w_iushr, v_idiv, v_irem, w_ineg, w_i2l, w_i2c, w_i2f, w_i2d, v_f2d, w_lcmp, w_dcmp, v_fdiv, v_ddiv, w_dup_i, w_dup_r, w_dup2, w_dup_x2, w_pop_i, w_pop_r, w_goto, w_switch, w_ret_i, v_ret_z, v_ret_c, w_ret_a, w_ret_s, w_ret_f, w_ret_d, w_ret_v, v_iaload, v_baload, v_caload, v_laload, v_aaload, v_iastore, v_bastore, v_castore, v_lastore, v_aastore, v_alen, v_newa, v_anewa, w_new, w_throw, w_dead, v_getf_i, v_getf_z, v_getf_r, v_putf_i, v_putf_z, v_putf_r, w_call0, w_call1, w_callv1, w_calli1, w_callt1, w_call2, w_callv2, w_calli2, w_callt2, w_call3, w_callv3, w_calli3, w_call4, w_callv4, w_calli4, w_call5, w_callv5, w_calli5, w_call6, w_callv6, w_calli6, w_call7, w_callv7, w_calli7, w_call8, w_callv8, w_calli8, c_if0_eq_t, c_if0_eq_f, c_if2_eq_t, c_if2_eq_f, c_if0_ne_t, c_if0_ne_f, c_if2_ne_t, c_if2_ne_f, c_if0_lt_t, c_if0_lt_f, c_if2_lt_t, c_if2_lt_f, c_if0_ge_t, c_if0_ge_f, c_if2_ge_t, c_if2_ge_f, c_if0_gt_t, c_if0_gt_f, c_if2_gt_t, c_if2_gt_f, c_if0_le_t, c_if0_le_f, c_if2_le_t, c_if2_le_f, w_nil, uI_s, uA_r, uA_s, uD_d, mPut_0, mCl_own, mCv_go, mCl_min, mCl_cpy, mCv_obj, mAct_len, mAct_chrc, mAft_v, mAft_n, mAft_x, mGet_0, mSet_0, mGet_1, mSet_1, mGet_2, mSet_2, mGet_3, mSet_3, mGet_4, mSet_4, mGet_5, mSet_5, mGet_6, mSet_6, mGet_7, mSet_7, mGet_8, mSet_8, mGet_9, mSet_9, mGet_10, mSet_10, mGet_11, mSet_11, mGet_12, mSet_12, mGet_13, mSet_13, wr]
    exact kk I2 S ⟨π, hx2, by rw [e2 x (by omega) (by omega)]; exact hR1.choose_spec.2⟩ (xEnd_I (fun q hq => by rw [e2 q (by omega) (by omega)]; exact hf1 q hq))
end ZJ
