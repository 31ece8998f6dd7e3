/-! Writing: bytes and texts, on both sides. -/
def wC (v : Int) (p : zTx) : zTx := (zU p.1 p.2 v, p.2 + 1)
def wT (k : Nat) : Nat → Int → zTx → zTx
  | 0, _, p => p
  | n + 1, i, p => wT k n (i + 1) (wC (mTxt k i) p)
theorem wT_2 (k : Nat) : ∀ (n : Nat) (i : Int) (p : zTx), (wT k n i p).2 = p.2 + n
  | 0, i, p => (Int.add_zero p.2).symm
  | n + 1, i, p => by
    show (wT k n (i + 1) (wC (mTxt k i) p)).2 = _
    rw [wT_2 k n]
    show p.2 + 1 + (n : Int) = p.2 + ((n + 1 : Nat) : Int)
    omega
section WA
variable {S : mH} {I : mN} {Q : mQ} (D : Nat) {w m : Int} {p : zTx}
def wRl (I : mN) (w : Int) (p : zTx) : Prop := I w 1 = p.2 ∧ I (w + 1) = p.1
def wFr (I I' : mN) (w : Int) : Prop := ∀ a : Int, a ≠ w → a ≠ w + 1 → I' a = I a
theorem wFr_t {I I' I'' : mN} {w : Int} (h : wFr I I' w) (h' : wFr I' I'' w) : wFr I I'' w := fun a a0 a1 => (h' a a0 a1).trans (h a a0 a1)
theorem p_putC {v : Int} (hw : yWr S w) (hp : wRl I w p) (p0 : 0 ≤ p.2) (p1 : p.2 < 6400) (v0 : 0 ≤ v) (v1 : v ≤ 255) (k : ∀ I' : mN, wRl I' w (wC v p) → wFr I I' w → Q (.inl none) I' S) : mRun (D + 1) 110 [mR w, mI v] I S Q := by
  obtain ⟨h1, h2⟩ := hp
  simp (disch := first | omega | exact Nat.le_of_ble_eq_true rfl | (simp (disch := omega) only [yw_k hw, yw_0 hw, yw_k0 hw, yw_l0 hw, h1, up_fa] <;> omega)) only [w_iconst, w_bipush, w_sipush, w_ldc_s, w_ldcw_s, w_ldc_i, w_ldcw_i, w_lconst, w_fconst, w_dconst, w_iload, w_iload_n, w_aload, w_aload_n, w_dload, w_istore, w_istore_n, w_astore_r, w_astore_s, w_astore_n_r, w_astore_n_s, w_dstore, w_iinc, w_iadd, w_isub, w_imul, w_iand, w_iushr, v_idiv, v_irem, w_ineg, w_i2l, w_i2c, w_i2f, w_i2d, v_f2d, w_lcmp, w_dcmp, v_fdiv, v_ddiv, w_dup_i, w_dup_r, w_dup2, w_dup_x2, w_pop_i, w_pop_r, w_goto, w_switch, w_ret_i, v_ret_z, w_ret_a, w_ret_s, w_ret_f, w_ret_d, w_ret_v, v_iaload, v_baload, v_caload, v_laload, v_aaload, v_iastore, v_bastore, v_castore, v_lastore, v_aastore, v_alen, v_newa, v_anewa, w_new, w_throw, w_dead, v_getf_i, v_getf_z, v_getf_r, v_putf_i, v_putf_z, v_putf_r, w_call0, w_call1, w_callv1, w_calli1, w_callt1, w_call2, w_callv2, w_calli2, w_callt2, w_call3, w_callv3, w_calli3, w_call4, w_callv4, w_calli4, w_call5, w_callv5, w_calli5, w_call6, w_callv6, w_calli6, w_call7, w_callv7, w_calli7, w_call8, w_callv8, w_calli8, c_if0_eq_t, c_if0_eq_f, c_if2_eq_t, c_if2_eq_f, c_if0_ne_t, c_if0_ne_f, c_if2_ne_t, c_if2_ne_f, c_if0_lt_t, c_if0_lt_f, c_if2_lt_t, c_if2_lt_f, c_if0_ge_t, c_if0_ge_f, c_if2_ge_t, c_if2_ge_f, c_if0_gt_t, c_if0_gt_f, c_if2_gt_t, c_if2_gt_f, c_if0_le_t, c_if0_le_f, c_if2_le_t, c_if2_le_f, w_nil, uI_s, uA_r, uA_s, uD_d, mPut_0, mCl_own, mCv_go, mCl_min, mCl_cpy, mCv_obj, mAct_len, mAct_chrc, mAft_v, mAft_n, mAft_x, mGet_0, mSet_0, mGet_1, mSet_1, mGet_2, mSet_2, mGet_3, mSet_3, mGet_4, mSet_4, mGet_5, mSet_5, mGet_6, mSet_6, mGet_7, mSet_7, mGet_8, mSet_8, mGet_9, mSet_9, mGet_10, mSet_10, mGet_11, mSet_11, mGet_12, mSet_12, mGet_13, mSet_13, e_Wr_putChar, a_Wr_putChar_0, bk_Wr_putChar_0, a_Wr_putChar_30, bk_Wr_putChar_30, yw_k hw, yw_0 hw, yw_k0 hw, yw_l0 hw, h1, up_fa, wr]
  refine k _ ⟨?_, ?_⟩ (fun a a0 a1 => by rw [up_fa a0, up_fa a1])
  · rw [up_eq rfl rfl]; rfl
  · rw [up_fa (by omega), up_zU, h2]; rfl
theorem mTxt_b : ∀ k : Fin 27, ∀ v ∈ mTxs.getD k.val [], (0 : Int) ≤ v ∧ v ≤ 255 := by decide +kernel
theorem mTxt_c {k : Nat} (hk : k < 27) {i : Int} (i0 : 0 ≤ i) (i1 : i < mLen k) : 0 ≤ mTxt k i ∧ mTxt k i ≤ 255 := by
  have h := mTxt_b ⟨k, hk⟩
  unfold mLen at i1
  have hl : i.toNat < (mTx k).length := by omega
  have e : mTxt k i = (mTx k)[i.toNat] := by
    unfold mTxt
    rw [List.getD_eq_getElem?_getD, List.getElem?_eq_getElem hl]
    rfl
  rw [e]
  exact h _ (List.getElem_mem hl)
theorem l_putT {k : Nat} (hk : k < 27) (hw : yWr S w) : ∀ (n : Nat) (i : Int) (I : mN) (p : zTx), i + n = mLen k → 0 ≤ i → wRl I w p → 0 ≤ p.2 → p.2 + n ≤ 6400 → (∀ I' : mN, wRl I' w (wT k n i p) → wFr I I' w → Q (.inl none) I' S) → mAt (mRun (D + 1)) 109 2 ([some (mR w), some (mS k), some (mI i)], [], I, S) Q
  | 0, i, I, p, hn, i0, hp, p0, p9, kk => by
    rw [a_Wr_putText_2]
    simp (disch := first | omega | exact Nat.le_of_ble_eq_true rfl) only [w_iconst, w_bipush, w_sipush, w_ldc_s, w_ldcw_s, w_ldc_i, w_ldcw_i, w_lconst, w_fconst, w_dconst, w_iload, w_iload_n, w_aload, w_aload_n, w_dload, w_istore, w_istore_n, w_astore_r, w_astore_s, w_astore_n_r, w_astore_n_s, w_dstore, w_iinc, w_iadd, w_isub, w_imul, w_iand, w_iushr, v_idiv, v_irem, w_ineg, w_i2l, w_i2c, w_i2f, w_i2d, v_f2d, w_lcmp, w_dcmp, v_fdiv, v_ddiv, w_dup_i, w_dup_r, w_dup2, w_dup_x2, w_pop_i, w_pop_r, w_goto, w_switch, w_ret_i, v_ret_z, w_ret_a, w_ret_s, w_ret_f, w_ret_d, w_ret_v, v_iaload, v_baload, v_caload, v_laload, v_aaload, v_iastore, v_bastore, v_castore, v_lastore, v_aastore, v_alen, v_newa, v_anewa, w_new, w_throw, w_dead, v_getf_i, v_getf_z, v_getf_r, v_putf_i, v_putf_z, v_putf_r, w_call0, w_call1, w_callv1, w_calli1, w_callt1, w_call2, w_callv2, w_calli2, w_callt2, w_call3, w_callv3, w_calli3, w_call4, w_callv4, w_calli4, w_call5, w_callv5, w_calli5, w_call6, w_callv6, w_calli6, w_call7, w_callv7, w_calli7, w_call8, w_callv8, w_calli8, c_if0_eq_t, c_if0_eq_f, c_if2_eq_t, c_if2_eq_f, c_if0_ne_t, c_if0_ne_f, c_if2_ne_t, c_if2_ne_f, c_if0_lt_t, c_if0_lt_f, c_if2_lt_t, c_if2_lt_f, c_if0_ge_t, c_if0_ge_f, c_if2_ge_t, c_if2_ge_f, c_if0_gt_t, c_if0_gt_f, c_if2_gt_t, c_if2_gt_f, c_if0_le_t, c_if0_le_f, c_if2_le_t, c_if2_le_f, w_nil, uI_s, uA_r, uA_s, uD_d, mPut_0, mCl_own, mCv_go, mCl_min, mCl_cpy, mCv_obj, mAct_len, mAct_chrc, mAft_v, mAft_n, mAft_x, mGet_0, mSet_0, mGet_1, mSet_1, mGet_2, mSet_2, mGet_3, mSet_3, mGet_4, mSet_4, mGet_5, mSet_5, mGet_6, mSet_6, mGet_7, mSet_7, mGet_8, mSet_8, mGet_9, mSet_9, mGet_10, mSet_10, mGet_11, mSet_11, mGet_12, mSet_12, mGet_13, mSet_13, bk_Wr_putText_2, a_Wr_putText_25, bk_Wr_putText_25]
    exact kk I hp (fun _ _ _ => rfl)
  | n + 1, i, I, p, hn, i0, hp, p0, p9, kk => by
    have hb := mTxt_c hk i0 (show i < mLen k by omega)
    have hi : i < mLen k := by omega
    rw [a_Wr_putText_2]
    simp (disch := first | omega | exact Nat.le_of_ble_eq_true rfl | (simp (disch := omega) only [yw_k hw, yw_0 hw, yw_k0 hw, yw_l0 hw] <;> omega)) only [w_iconst, w_bipush, w_sipush, w_ldc_s, w_ldcw_s, w_ldc_i, w_ldcw_i, w_lconst, w_fconst, w_dconst, w_iload, w_iload_n, w_aload, w_aload_n, w_dload, w_istore, w_istore_n, w_astore_r, w_astore_s, w_astore_n_r, w_astore_n_s, w_dstore, w_iinc, w_iadd, w_isub, w_imul, w_iand, w_iushr, v_idiv, v_irem, w_ineg, w_i2l, w_i2c, w_i2f, w_i2d, v_f2d, w_lcmp, w_dcmp, v_fdiv, v_ddiv, w_dup_i, w_dup_r, w_dup2, w_dup_x2, w_pop_i, w_pop_r, w_goto, w_switch, w_ret_i, v_ret_z, w_ret_a, w_ret_s, w_ret_f, w_ret_d, w_ret_v, v_iaload, v_baload, v_caload, v_laload, v_aaload, v_iastore, v_bastore, v_castore, v_lastore, v_aastore, v_alen, v_newa, v_anewa, w_new, w_throw, w_dead, v_getf_i, v_getf_z, v_getf_r, v_putf_i, v_putf_z, v_putf_r, w_call0, w_call1, w_callv1, w_calli1, w_callt1, w_call2, w_callv2, w_calli2, w_callt2, w_call3, w_callv3, w_calli3, w_call4, w_callv4, w_calli4, w_call5, w_callv5, w_calli5, w_call6, w_callv6, w_calli6, w_call7, w_callv7, w_calli7, w_call8, w_callv8, w_calli8, c_if0_eq_t, c_if0_eq_f, c_if2_eq_t, c_if2_eq_f, c_if0_ne_t, c_if0_ne_f, c_if2_ne_t, c_if2_ne_f, c_if0_lt_t, c_if0_lt_f, c_if2_lt_t, c_if2_lt_f, c_if0_ge_t, c_if0_ge_f, c_if2_ge_t, c_if2_ge_f, c_if0_gt_t, c_if0_gt_f, c_if2_gt_t, c_if2_gt_f, c_if0_le_t, c_if0_le_f, c_if2_le_t, c_if2_le_f, w_nil, uI_s, uA_r, uA_s, uD_d, mPut_0, mCl_own, mCv_go, mCl_min, mCl_cpy, mCv_obj, mAct_len, mAct_chrc, mAft_v, mAft_n, mAft_x, mGet_0, mSet_0, mGet_1, mSet_1, mGet_2, mSet_2, mGet_3, mSet_3, mGet_4, mSet_4, mGet_5, mSet_5, mGet_6, mSet_6, mGet_7, mSet_7, mGet_8, mSet_8, mGet_9, mSet_9, mGet_10, mSet_10, mGet_11, mSet_11, mGet_12, mSet_12, mGet_13, mSet_13, bk_Wr_putText_2, yw_k hw, yw_0 hw, yw_k0 hw, yw_l0 hw]
    refine p_putC D hw hp p0 (by omega) hb.1 hb.2 (fun I1 h1 f1 => ?_)
    have hl : mLen k ≤ 100 := by
      have h9 : ∀ j : Fin 27, (mTxs.getD j.val []).length ≤ 100 := by decide +kernel
      have := h9 ⟨k, hk⟩
      have : (mTx k).length ≤ 100 := this
      unfold mLen
      omega
    simp (disch := first | omega | exact Nat.le_of_ble_eq_true rfl) only [w_iconst, w_bipush, w_sipush, w_ldc_s, w_ldcw_s, w_ldc_i, w_ldcw_i, w_lconst, w_fconst, w_dconst, w_iload, w_iload_n, w_aload, w_aload_n, w_dload, w_istore, w_istore_n, w_astore_r, w_astore_s, w_astore_n_r, w_astore_n_s, w_dstore, w_iinc, w_iadd, w_isub, w_imul, w_iand, w_iushr, v_idiv, v_irem, w_ineg, w_i2l, w_i2c, w_i2f, w_i2d, v_f2d, w_lcmp, w_dcmp, v_fdiv, v_ddiv, w_dup_i, w_dup_r, w_dup2, w_dup_x2, w_pop_i, w_pop_r, w_goto, w_switch, w_ret_i, v_ret_z, w_ret_a, w_ret_s, w_ret_f, w_ret_d, w_ret_v, v_iaload, v_baload, v_caload, v_laload, v_aaload, v_iastore, v_bastore, v_castore, v_lastore, v_aastore, v_alen, v_newa, v_anewa, w_new, w_throw, w_dead, v_getf_i, v_getf_z, v_getf_r, v_putf_i, v_putf_z, v_putf_r, w_call0, w_call1, w_callv1, w_calli1, w_callt1, w_call2, w_callv2, w_calli2, w_callt2, w_call3, w_callv3, w_calli3, w_call4, w_callv4, w_calli4, w_call5, w_callv5, w_calli5, w_call6, w_callv6, w_calli6, w_call7, w_callv7, w_calli7, w_call8, w_callv8, w_calli8, c_if0_eq_t, c_if0_eq_f, c_if2_eq_t, c_if2_eq_f, c_if0_ne_t, c_if0_ne_f, c_if2_ne_t, c_if2_ne_f, c_if0_lt_t, c_if0_lt_f, c_if2_lt_t, c_if2_lt_f, c_if0_ge_t, c_if0_ge_f, c_if2_ge_t, c_if2_ge_f, c_if0_gt_t, c_if0_gt_f, c_if2_gt_t, c_if2_gt_f, c_if0_le_t, c_if0_le_f, c_if2_le_t, c_if2_le_f, w_nil, uI_s, uA_r, uA_s, uD_d, mPut_0, mCl_own, mCv_go, mCl_min, mCl_cpy, mCv_obj, mAct_len, mAct_chrc, mAft_v, mAft_n, mAft_x, mGet_0, mSet_0, mGet_1, mSet_1, mGet_2, mSet_2, mGet_3, mSet_3, mGet_4, mSet_4, mGet_5, mSet_5, mGet_6, mSet_6, mGet_7, mSet_7, mGet_8, mSet_8, mGet_9, mSet_9, mGet_10, mSet_10, mGet_11, mSet_11, mGet_12, mSet_12, mGet_13, mSet_13, wr]
    exact l_putT hk hw n (i + 1) I1 _ (by omega) (by omega) h1 (by show 0 ≤ p.2 + 1; omega) (by show p.2 + 1 + (n : Int) ≤ 6400; omega) (fun I' h' f' => kk I' h' (wFr_t f1 f'))
end WA
