/-! Measures: the mean shortage. -/
/-- what is short of the rights before o, and of o before week w -/
noncomputable def sSh (σ : sT) (o : Int) : Int → Int := fun w => if σ 0 ≤ w then sAk σ 0 o w - sAm σ 0 o w else 0
noncomputable def sShO (σ : sT) : Int → Int := fun o => sm 8 (sSh σ o)
noncomputable def sMean (σ : sT) : UInt64 := if σ 3 * (8 - σ 0) ≤ 0 then Jvm.FP.dconst0 else Jvm.FP.ddiv (Jvm.FP.i2d (Int32.ofInt (sm (σ 3).toNat (sShO σ)))) (Jvm.FP.i2d (Int32.ofInt (σ 3 * (8 - σ 0))))
noncomputable def r54 (G : gT) : mZ × gT := (.inl (some (mD (sMean ((G.2.1 (G.1 1) (G.1 (10 + G.1 1))))))), G)
def oKd (S : mH) (I : mN) (m : Int) (Q : mQ) (q : mZ × gT) : Prop := ∀ (I' : mN) (z' : Int), oR (mSx S m z') I' m q.2 → oFm I I' m → I' m 1 = 0 → Q q.1 I' (mSx S m z')
section ZE
variable {S : mH} {I : mN} {x m z : Int} {π : Int → Int → Int} {G : gT} {Q : mQ} (D : Nat)
theorem sSh_bd {σ : sT} (hw : sWf σ) {o w : Int} (o0 : 0 ≤ o) (o1 : o < σ 3) (w0 : 0 ≤ w) (w1 : w < 8) : -1000000 ≤ sSh σ o w ∧ sSh σ o w ≤ 1000000 := by
  unfold sSh
  split
  · have h1 := sAk_bd (s := 0) hw o0 o1 w0 w1
    have h2 := sAm_bd (s := 0) (r := o) hw (by decide) (by decide) w0 w1
    omega
  · omega
theorem sm_bdd {M : Int} : ∀ {n : Nat} {f : Int → Int}, (∀ i : Int, 0 ≤ i → i < n → -M ≤ f i ∧ f i ≤ M) → -(M * n) ≤ sm n f ∧ sm n f ≤ M * n
  | 0, f, h => by
    show -(M * ((0 : Nat) : Int)) ≤ (0 : Int) ∧ (0 : Int) ≤ M * ((0 : Nat) : Int)
    simp
  | n + 1, f, h => by
    have h1 := sm_bdd (M := M) (n := n) (f := f) (fun i i0 i1 => h i i0 (by omega))
    have h2 := h n (by omega) (by omega)
    have h3 : sm (n + 1) f = sm n f + f n := rfl
    have h4 : M * ((n + 1 : Nat) : Int) = M * n + M := by rw [Int.natCast_succ, Int.mul_add, Int.mul_one]
    rw [h3, h4]; omega
theorem l_xm1 {b : Int} {o : Nat} {z0 n2 : Int} (hg : gWf G) (hn9 : x + 2366 ≤ S.2.2.2.1) (h1 : yX S x π) (hB : yB S b) (ho : (o : Int) < (G.2.1 (G.1 1) (G.1 (10 + G.1 1))) 3) (hz : -100000000 ≤ z0 ∧ z0 ≤ 100000000)
    (k : ∀ I' : mN, xR S I' x G → xF I I' x → mAt (mRun (D + 49)) 167 68 ([some (mR x), some (mR b), some (mI n2), some (mI (z0 + sShO ((G.2.1 (G.1 1) (G.1 (10 + G.1 1)))) o)), some (mI (o : Int)), some (mI 8)], [], I', S) Q) :
    ∀ (c v : Nat), v + c = 8 → (G.2.1 (G.1 1) (G.1 (10 + G.1 1))) 0 ≤ v → ∀ I1 : mN, xR S I1 x G → xF I I1 x → ∀ q : Int, q = z0 + sm v (sSh ((G.2.1 (G.1 1) (G.1 (10 + G.1 1)))) o) → mAt (mRun (D + 49)) 167 44 ([some (mR x), some (mR b), some (mI n2), some (mI q), some (mI (o : Int)), some (mI (v : Int))], [], I1, S) Q
  | 0, v, hc, hv, I1, hR, hf, q, hq => by
    obtain rfl : v = 8 := by omega
    rw [hq, a_RS_meanShortage_44]
    simp (disch := first | omega | exact Nat.le_of_ble_eq_true rfl) only [w_iconst, w_bipush, w_sipush, w_ldc_s, w_ldcw_s, w_ldc_i, w_ldcw_i, w_lconst, w_fconst, w_dconst, w_iload, w_iload_n, w_aload, w_aload_n, w_dload, w_istore, w_istore_n, w_astore_r, w_astore_s, w_astore_n_r, w_astore_n_s, w_dstore, w_iinc, w_iadd, w_isub, w_imul, w_iand, w_iushr, v_idiv, v_irem, w_ineg, w_i2l, w_i2c, w_i2f, w_i2d, v_f2d, w_lcmp, w_dcmp, v_fdiv, v_ddiv, w_dup_i, w_dup_r, w_dup2, w_dup_x2, w_pop_i, w_pop_r, w_goto, w_switch, w_ret_i, v_ret_z, w_ret_a, w_ret_s, w_ret_f, w_ret_d, w_ret_v, v_iaload, v_baload, v_caload, v_laload, v_aaload, v_iastore, v_bastore, v_castore, v_lastore, v_aastore, v_alen, v_newa, v_anewa, w_new, w_throw, w_dead, v_getf_i, v_getf_z, v_getf_r, v_putf_i, v_putf_z, v_putf_r, w_call0, w_call1, w_callv1, w_calli1, w_callt1, w_call2, w_callv2, w_calli2, w_callt2, w_call3, w_callv3, w_calli3, w_call4, w_callv4, w_calli4, w_call5, w_callv5, w_calli5, w_call6, w_callv6, w_calli6, w_call7, w_callv7, w_calli7, w_call8, w_callv8, w_calli8, c_if0_eq_t, c_if0_eq_f, c_if2_eq_t, c_if2_eq_f, c_if0_ne_t, c_if0_ne_f, c_if2_ne_t, c_if2_ne_f, c_if0_lt_t, c_if0_lt_f, c_if2_lt_t, c_if2_lt_f, c_if0_ge_t, c_if0_ge_f, c_if2_ge_t, c_if2_ge_f, c_if0_gt_t, c_if0_gt_f, c_if2_gt_t, c_if2_gt_f, c_if0_le_t, c_if0_le_f, c_if2_le_t, c_if2_le_f, w_nil, uI_s, uA_r, uA_s, uD_d, mPut_0, mCl_own, mCv_go, mCl_min, mCl_cpy, mCv_obj, mAct_len, mAct_chrc, mAft_v, mAft_n, mAft_x, mGet_0, mSet_0, mGet_1, mSet_1, mGet_2, mSet_2, mGet_3, mSet_3, mGet_4, mSet_4, mGet_5, mSet_5, mGet_6, mSet_6, mGet_7, mSet_7, mGet_8, mSet_8, mGet_9, mSet_9, mGet_10, mSet_10, mGet_11, mSet_11, mGet_12, mSet_12, mGet_13, mSet_13, bk_RS_meanShortage_44]
    exact k I1 hR hf
  | c + 1, v, hc, hv, I1, hR, hf, q, hq => by
    have hw := (gO_w hg).1
    have hcast : (v : Int) + 1 = ((v + 1 : Nat) : Int) := by omega
    have hs : sm (v + 1) (sSh ((G.2.1 (G.1 1) (G.1 (10 + G.1 1)))) o) = sm v (sSh ((G.2.1 (G.1 1) (G.1 (10 + G.1 1)))) o) + (sAk ((G.2.1 (G.1 1) (G.1 (10 + G.1 1)))) 0 o v - sAm ((G.2.1 (G.1 1) (G.1 (10 + G.1 1)))) 0 o v) := by
      show sm v (sSh ((G.2.1 (G.1 1) (G.1 (10 + G.1 1)))) o) + sSh ((G.2.1 (G.1 1) (G.1 (10 + G.1 1)))) o v = _
      unfold sSh
      rw [if_pos hv]
    have hb := sm_bdd (M := 1000000) (n := v) (f := sSh ((G.2.1 (G.1 1) (G.1 (10 + G.1 1)))) o) (fun i i0 i1 => sSh_bd hw (by omega) ho i0 (by omega))
    have hb2 := sSh_bd hw (o := o) (w := v) (by omega) ho (by omega) (by omega)
    unfold sSh at hb2
    rw [if_pos hv] at hb2
    rw [a_RS_meanShortage_44]
    simp (disch := first | omega | exact Nat.le_of_ble_eq_true rfl | (simp (disch := omega) only [yx_k h1, yx_0 h1, yx_4 h1, yx_5 h1, yx_6 h1, yx_7 h1, yx_8 h1, yx_9 h1, yx_10 h1, yx_k1 h1, yx_l1 h1, yx_b h1, yx_bk h1, yx_bs h1, yx_sk h1, yx_sl h1, yx_s h1, yx_e h1, yx_k9 h1, yx_l9 h1, yx_k10 h1, yx_l10 h1] <;> omega)) only [w_iconst, w_bipush, w_sipush, w_ldc_s, w_ldcw_s, w_ldc_i, w_ldcw_i, w_lconst, w_fconst, w_dconst, w_iload, w_iload_n, w_aload, w_aload_n, w_dload, w_istore, w_istore_n, w_astore_r, w_astore_s, w_astore_n_r, w_astore_n_s, w_dstore, w_iinc, w_iadd, w_isub, w_imul, w_iand, w_iushr, v_idiv, v_irem, w_ineg, w_i2l, w_i2c, w_i2f, w_i2d, v_f2d, w_lcmp, w_dcmp, v_fdiv, v_ddiv, w_dup_i, w_dup_r, w_dup2, w_dup_x2, w_pop_i, w_pop_r, w_goto, w_switch, w_ret_i, v_ret_z, w_ret_a, w_ret_s, w_ret_f, w_ret_d, w_ret_v, v_iaload, v_baload, v_caload, v_laload, v_aaload, v_iastore, v_bastore, v_castore, v_lastore, v_aastore, v_alen, v_newa, v_anewa, w_new, w_throw, w_dead, v_getf_i, v_getf_z, v_getf_r, v_putf_i, v_putf_z, v_putf_r, w_call0, w_call1, w_callv1, w_calli1, w_callt1, w_call2, w_callv2, w_calli2, w_callt2, w_call3, w_callv3, w_calli3, w_call4, w_callv4, w_calli4, w_call5, w_callv5, w_calli5, w_call6, w_callv6, w_calli6, w_call7, w_callv7, w_calli7, w_call8, w_callv8, w_calli8, c_if0_eq_t, c_if0_eq_f, c_if2_eq_t, c_if2_eq_f, c_if0_ne_t, c_if0_ne_f, c_if2_ne_t, c_if2_ne_f, c_if0_lt_t, c_if0_lt_f, c_if2_lt_t, c_if2_lt_f, c_if0_ge_t, c_if0_ge_f, c_if2_ge_t, c_if2_ge_f, c_if0_gt_t, c_if0_gt_f, c_if2_gt_t, c_if2_gt_f, c_if0_le_t, c_if0_le_f, c_if2_le_t, c_if2_le_f, w_nil, uI_s, uA_r, uA_s, uD_d, mPut_0, mCl_own, mCv_go, mCl_min, mCl_cpy, mCv_obj, mAct_len, mAct_chrc, mAft_v, mAft_n, mAft_x, mGet_0, mSet_0, mGet_1, mSet_1, mGet_2, mSet_2, mGet_3, mSet_3, mGet_4, mSet_4, mGet_5, mSet_5, mGet_6, mSet_6, mGet_7, mSet_7, mGet_8, mSet_8, mGet_9, mSet_9, mGet_10, mSet_10, mGet_11, mSet_11, mGet_12, mSet_12, mGet_13, mSet_13, bk_RS_meanShortage_44, yx_k h1, yx_0 h1, yx_4 h1, yx_5 h1, yx_6 h1, yx_7 h1, yx_8 h1, yx_9 h1, yx_10 h1, yx_k1 h1, yx_l1 h1, yx_b h1, yx_bk h1, yx_bs h1, yx_sk h1, yx_sl h1, yx_s h1, yx_e h1, yx_k9 h1, yx_l9 h1, yx_k10 h1, yx_l10 h1]
    refine p_short (D + 7) hg hR (by omega) ho (by omega) (by omega) (fun I2 hR2 hf2 => ?_)
    simp (disch := first | omega | exact Nat.le_of_ble_eq_true rfl | (simp (disch := omega) only [yx_k h1, yx_0 h1, yx_4 h1, yx_5 h1, yx_6 h1, yx_7 h1, yx_8 h1, yx_9 h1, yx_10 h1, yx_k1 h1, yx_l1 h1, yx_b h1, yx_bk h1, yx_bs h1, yx_sk h1, yx_sl h1, yx_s h1, yx_e h1, yx_k9 h1, yx_l9 h1, yx_k10 h1, yx_l10 h1] <;> omega)) only [w_iconst, w_bipush, w_sipush, w_ldc_s, w_ldcw_s, w_ldc_i, w_ldcw_i, w_lconst, w_fconst, w_dconst, w_iload, w_iload_n, w_aload, w_aload_n, w_dload, w_istore, w_istore_n, w_astore_r, w_astore_s, w_astore_n_r, w_astore_n_s, w_dstore, w_iinc, w_iadd, w_isub, w_imul, w_iand, w_iushr, v_idiv, v_irem, w_ineg, w_i2l, w_i2c, w_i2f, w_i2d, v_f2d, w_lcmp, w_dcmp, v_fdiv, v_ddiv, w_dup_i, w_dup_r, w_dup2, w_dup_x2, w_pop_i, w_pop_r, w_goto, w_switch, w_ret_i, v_ret_z, w_ret_a, w_ret_s, w_ret_f, w_ret_d, w_ret_v, v_iaload, v_baload, v_caload, v_laload, v_aaload, v_iastore, v_bastore, v_castore, v_lastore, v_aastore, v_alen, v_newa, v_anewa, w_new, w_throw, w_dead, v_getf_i, v_getf_z, v_getf_r, v_putf_i, v_putf_z, v_putf_r, w_call0, w_call1, w_callv1, w_calli1, w_callt1, w_call2, w_callv2, w_calli2, w_callt2, w_call3, w_callv3, w_calli3, w_call4, w_callv4, w_calli4, w_call5, w_callv5, w_calli5, w_call6, w_callv6, w_calli6, w_call7, w_callv7, w_calli7, w_call8, w_callv8, w_calli8, c_if0_eq_t, c_if0_eq_f, c_if2_eq_t, c_if2_eq_f, c_if0_ne_t, c_if0_ne_f, c_if2_ne_t, c_if2_ne_f, c_if0_lt_t, c_if0_lt_f, c_if2_lt_t, c_if2_lt_f, c_if0_ge_t, c_if0_ge_f, c_if2_ge_t, c_if2_ge_f, c_if0_gt_t, c_if0_gt_f, c_if2_gt_t, c_if2_gt_f, c_if0_le_t, c_if0_le_f, c_if2_le_t, c_if2_le_f, w_nil, uI_s, uA_r, uA_s, uD_d, mPut_0, mCl_own, mCv_go, mCl_min, mCl_cpy, mCv_obj, mAct_len, mAct_chrc, mAft_v, mAft_n, mAft_x, mGet_0, mSet_0, mGet_1, mSet_1, mGet_2, mSet_2, mGet_3, mSet_3, mGet_4, mSet_4, mGet_5, mSet_5, mGet_6, mSet_6, mGet_7, mSet_7, mGet_8, mSet_8, mGet_9, mSet_9, mGet_10, mSet_10, mGet_11, mSet_11, mGet_12, mSet_12, mGet_13, mSet_13, wr]
    rw [hcast]
    exact l_xm1 hg hn9 h1 hB ho hz k c (v + 1) (by omega) (by omega) I2 hR2 (fun a ha => (hf2 a ha).trans (hf a ha)) _ (by omega)
end ZE
