/-! Numbers and cells for the runs. -/
theorem wr {x : Int} (h0 : -2147483648 ≤ x) (h1 : x ≤ 2147483647) : mWrap x = x := by
  unfold mWrap
  rw [Int.bmod_def]
  split <;> omega
theorem up_eq {I : Int → Int → Int} {a k v b j : Int} (h1 : b = a) (h2 : j = k) : mUp I a k v b j = v := by unfold mUp; rw [if_pos h1, if_pos h2]
theorem up_na {I : Int → Int → Int} {a k v b j : Int} (h : b ≠ a) : mUp I a k v b j = I b j := by unfold mUp; rw [if_neg h]
theorem up_nk {I : Int → Int → Int} {a k v b j : Int} (h : j ≠ k) : mUp I a k v b j = I b j := by
  unfold mUp
  by_cases hb : b = a
  · rw [if_pos hb, if_neg h]
  · rw [if_neg hb]
theorem up_fa {I : Int → Int → Int} {a k v b : Int} (h : b ≠ a) : mUp I a k v b = I b := by
  funext j
  unfold mUp
  rw [if_neg h]
theorem ua_eq {I : Int → Int → Int} {a b : Int} {f : Int → Int} (h : b = a) : mUa I a f b = f := by unfold mUa; rw [if_pos h]
theorem ua_ne {I : Int → Int → Int} {a b : Int} {f : Int → Int} (h : b ≠ a) : mUa I a f b = I b := by unfold mUa; rw [if_neg h]
theorem uk_eq {K : Int → Int} {a b v : Int} (h : b = a) : mUk K a v b = v := by unfold mUk; rw [if_pos h]
theorem uk_ne {K : Int → Int} {a b v : Int} (h : b ≠ a) : mUk K a v b = K b := by unfold mUk; rw [if_neg h]
theorem tk_in {f g : Int → Int} {sp dp n k : Int} (h0 : dp ≤ k) (h1 : k < dp + n) : mTake f g sp dp n k = f (sp + (k - dp)) := by unfold mTake; rw [if_pos ⟨h0, h1⟩]
theorem tk_out {f g : Int → Int} {sp dp n k : Int} (h : k < dp ∨ dp + n ≤ k) : mTake f g sp dp n k = g k := by unfold mTake; rw [if_neg (by omega)]
/-- nothing outside these cells has changed -/
def yF (I I' : mN) (lo hi : Int) : Prop := ∀ a : Int, a < lo ∨ hi ≤ a → I' a = I a
theorem yF_r (I : mN) (lo hi : Int) : yF I I lo hi := fun _ _ => rfl
theorem yF_t {I I' I'' : mN} {lo hi : Int} (h : yF I I' lo hi) (h' : yF I' I'' lo hi) : yF I I'' lo hi := fun a ha => (h' a ha).trans (h a ha)
theorem yF_w {I I' : mN} {lo hi lo' hi' : Int} (h : yF I I' lo hi) (h1 : lo' ≤ lo) (h2 : hi ≤ hi') : yF I I' lo' hi' := fun a ha => h a (by omega)
theorem yF_up {I : mN} {a k v lo hi : Int} (h0 : lo ≤ a) (h1 : a < hi) : yF I (mUp I a k v) lo hi := fun b hb => up_fa (by omega)
theorem yF_ua {I : mN} {a lo hi : Int} {f : Int → Int} (h0 : lo ≤ a) (h1 : a < hi) : yF I (mUa I a f) lo hi := fun b hb => ua_ne (by omega)
theorem fn2 {I I' : mN} (h : ∀ a k : Int, I' a k = I a k) : I' = I := funext (fun a => funext (fun k => h a k))
/-! java.util.Arrays.fill -/
theorem l_fill (D : Nat) {a v n : Int} {S : mH} {Q : mQ} (hk : S.2.1 a = 50) (hn : S.2.2.1 a = n) (hb : n ≤ 100000) : ∀ (c : Nat) (k : Int) (I : mN), 0 ≤ k → k + c = n →
    mAt (mRun D) 0 5 ([some (mR a), some (mI v), some (mI k), some (mI n)], [], I, S) Q = Q (.inl none) (mUa I a (fun j => if k ≤ j ∧ j < n then v else I a j)) S
  | 0, k, I, h0, h1 => by
    simp (disch := first | omega | exact Nat.le_of_ble_eq_true rfl) only [w_iconst, w_bipush, w_sipush, w_ldc_s, w_ldcw_s, w_ldc_i, w_ldcw_i, w_lconst, w_fconst, w_dconst, w_iload, w_iload_n, w_aload, w_aload_n, w_dload, w_istore, w_istore_n, w_astore_r, w_astore_s, w_astore_n_r, w_astore_n_s, w_dstore, w_iinc, w_iadd, w_isub, w_imul, w_iand, w_iushr, v_idiv, v_irem, w_ineg, w_i2l, w_i2c, w_i2f, w_i2d, v_f2d, w_lcmp, w_dcmp, v_fdiv, v_ddiv, w_dup_i, w_dup_r, w_dup2, w_dup_x2, w_pop_i, w_pop_r, w_goto, w_switch, w_ret_i, v_ret_z, v_ret_c, w_ret_a, w_ret_s, w_ret_f, w_ret_d, w_ret_v, v_iaload, v_baload, v_caload, v_laload, v_aaload, v_iastore, v_bastore, v_castore, v_lastore, v_aastore, v_alen, v_newa, v_anewa, w_new, w_throw, w_dead, v_getf_i, v_getf_z, v_getf_r, v_putf_i, v_putf_z, v_putf_r, w_call0, w_call1, w_callv1, w_calli1, w_callt1, w_call2, w_callv2, w_calli2, w_callt2, w_call3, w_callv3, w_calli3, w_call4, w_callv4, w_calli4, w_call5, w_callv5, w_calli5, w_call6, w_callv6, w_calli6, w_call7, w_callv7, w_calli7, w_call8, w_callv8, w_calli8, c_if0_eq_t, c_if0_eq_f, c_if2_eq_t, c_if2_eq_f, c_if0_ne_t, c_if0_ne_f, c_if2_ne_t, c_if2_ne_f, c_if0_lt_t, c_if0_lt_f, c_if2_lt_t, c_if2_lt_f, c_if0_ge_t, c_if0_ge_f, c_if2_ge_t, c_if2_ge_f, c_if0_gt_t, c_if0_gt_f, c_if2_gt_t, c_if2_gt_f, c_if0_le_t, c_if0_le_f, c_if2_le_t, c_if2_le_f, w_nil, uI_s, uA_r, uA_s, uD_d, mPut_0, mCl_own, mCv_go, mCl_min, mCl_cpy, mCv_obj, mAct_len, mAct_chrc, mAft_v, mAft_n, mAft_x, mGet_0, mSet_0, mGet_1, mSet_1, mGet_2, mSet_2, mGet_3, mSet_3, mGet_4, mSet_4, mGet_5, mSet_5, mGet_6, mSet_6, mGet_7, mSet_7, mGet_8, mSet_8, mGet_9, mSet_9, mGet_10, mSet_10, mGet_11, mSet_11, mGet_12, mSet_12, mGet_13, mSet_13, a_Ja_fill_5, bk_Ja_fill_5, a_Ja_fill_20, bk_Ja_fill_20]
    congr 1
    refine fn2 (fun b j => ?_)
    by_cases hb : b = a
    · subst hb; rw [ua_eq rfl, if_neg (by omega)]
    · rw [ua_ne hb]
  | c + 1, k, I, h0, h1 => by
    have ih := l_fill D (v := v) (Q := Q) hk hn hb c (k + 1) (mUp I a k v) (by omega) (by omega)
    rw [a_Ja_fill_5]
    simp (disch := first | omega | exact Nat.le_of_ble_eq_true rfl | (simp (disch := omega) only [hn] <;> omega)) only [w_iconst, w_bipush, w_sipush, w_ldc_s, w_ldcw_s, w_ldc_i, w_ldcw_i, w_lconst, w_fconst, w_dconst, w_iload, w_iload_n, w_aload, w_aload_n, w_dload, w_istore, w_istore_n, w_astore_r, w_astore_s, w_astore_n_r, w_astore_n_s, w_dstore, w_iinc, w_iadd, w_isub, w_imul, w_iand, w_iushr, v_idiv, v_irem, w_ineg, w_i2l, w_i2c, w_i2f, w_i2d, v_f2d, w_lcmp, w_dcmp, v_fdiv, v_ddiv, w_dup_i, w_dup_r, w_dup2, w_dup_x2, w_pop_i, w_pop_r, w_goto, w_switch, w_ret_i, v_ret_z, v_ret_c, w_ret_a, w_ret_s, w_ret_f, w_ret_d, w_ret_v, v_iaload, v_baload, v_caload, v_laload, v_aaload, v_iastore, v_bastore, v_castore, v_lastore, v_aastore, v_alen, v_newa, v_anewa, w_new, w_throw, w_dead, v_getf_i, v_getf_z, v_getf_r, v_putf_i, v_putf_z, v_putf_r, w_call0, w_call1, w_callv1, w_calli1, w_callt1, w_call2, w_callv2, w_calli2, w_callt2, w_call3, w_callv3, w_calli3, w_call4, w_callv4, w_calli4, w_call5, w_callv5, w_calli5, w_call6, w_callv6, w_calli6, w_call7, w_callv7, w_calli7, w_call8, w_callv8, w_calli8, c_if0_eq_t, c_if0_eq_f, c_if2_eq_t, c_if2_eq_f, c_if0_ne_t, c_if0_ne_f, c_if2_ne_t, c_if2_ne_f, c_if0_lt_t, c_if0_lt_f, c_if2_lt_t, c_if2_lt_f, c_if0_ge_t, c_if0_ge_f, c_if2_ge_t, c_if2_ge_f, c_if0_gt_t, c_if0_gt_f, c_if2_gt_t, c_if2_gt_f, c_if0_le_t, c_if0_le_f, c_if2_le_t, c_if2_le_f, w_nil, uI_s, uA_r, uA_s, uD_d, mPut_0, mCl_own, mCv_go, mCl_min, mCl_cpy, mCv_obj, mAct_len, mAct_chrc, mAft_v, mAft_n, mAft_x, mGet_0, mSet_0, mGet_1, mSet_1, mGet_2, mSet_2, mGet_3, mSet_3, mGet_4, mSet_4, mGet_5, mSet_5, mGet_6, mSet_6, mGet_7, mSet_7, mGet_8, mSet_8, mGet_9, mSet_9, mGet_10, mSet_10, mGet_11, mSet_11, mGet_12, mSet_12, mGet_13, mSet_13, bk_Ja_fill_5, wr, ih]
    congr 1
    refine fn2 (fun b j => ?_)
    by_cases hb : b = a
    · subst hb
      rw [ua_eq rfl, ua_eq rfl]
      by_cases h9 : k + 1 ≤ j ∧ j < n
      · rw [if_pos h9, if_pos (by omega)]
      · rw [if_neg h9]
        by_cases hj : j = k
        · rw [up_eq rfl hj, if_pos (by omega)]
        · rw [up_nk hj, if_neg (by omega)]
    · rw [ua_ne hb, ua_ne hb, up_na hb]
theorem r_fill (D : Nat) {a v n : Int} {I : mN} {S : mH} (Q : mQ) (hk : S.2.1 a = 50) (hn : S.2.2.1 a = n) (h0 : 0 ≤ n) (hb : n ≤ 100000) : mRun (D + 1) 0 [mR a, mI v] I S Q = Q (.inl none) (mUa I a (fun j => if 0 ≤ j ∧ j < n then v else I a j)) S := by
  have h := l_fill D (a := a) (v := v) (Q := Q) hk hn hb n.toNat 0 I (Int.le_refl 0) (by omega)
  simp (disch := first | omega | exact Nat.le_of_ble_eq_true rfl) only [w_iconst, w_bipush, w_sipush, w_ldc_s, w_ldcw_s, w_ldc_i, w_ldcw_i, w_lconst, w_fconst, w_dconst, w_iload, w_iload_n, w_aload, w_aload_n, w_dload, w_istore, w_istore_n, w_astore_r, w_astore_s, w_astore_n_r, w_astore_n_s, w_dstore, w_iinc, w_iadd, w_isub, w_imul, w_iand, w_iushr, v_idiv, v_irem, w_ineg, w_i2l, w_i2c, w_i2f, w_i2d, v_f2d, w_lcmp, w_dcmp, v_fdiv, v_ddiv, w_dup_i, w_dup_r, w_dup2, w_dup_x2, w_pop_i, w_pop_r, w_goto, w_switch, w_ret_i, v_ret_z, v_ret_c, w_ret_a, w_ret_s, w_ret_f, w_ret_d, w_ret_v, v_iaload, v_baload, v_caload, v_laload, v_aaload, v_iastore, v_bastore, v_castore, v_lastore, v_aastore, v_alen, v_newa, v_anewa, w_new, w_throw, w_dead, v_getf_i, v_getf_z, v_getf_r, v_putf_i, v_putf_z, v_putf_r, w_call0, w_call1, w_callv1, w_calli1, w_callt1, w_call2, w_callv2, w_calli2, w_callt2, w_call3, w_callv3, w_calli3, w_call4, w_callv4, w_calli4, w_call5, w_callv5, w_calli5, w_call6, w_callv6, w_calli6, w_call7, w_callv7, w_calli7, w_call8, w_callv8, w_calli8, c_if0_eq_t, c_if0_eq_f, c_if2_eq_t, c_if2_eq_f, c_if0_ne_t, c_if0_ne_f, c_if2_ne_t, c_if2_ne_f, c_if0_lt_t, c_if0_lt_f, c_if2_lt_t, c_if2_lt_f, c_if0_ge_t, c_if0_ge_f, c_if2_ge_t, c_if2_ge_f, c_if0_gt_t, c_if0_gt_f, c_if2_gt_t, c_if2_gt_f, c_if0_le_t, c_if0_le_f, c_if2_le_t, c_if2_le_f, w_nil, uI_s, uA_r, uA_s, uD_d, mPut_0, mCl_own, mCv_go, mCl_min, mCl_cpy, mCv_obj, mAct_len, mAct_chrc, mAft_v, mAft_n, mAft_x, mGet_0, mSet_0, mGet_1, mSet_1, mGet_2, mSet_2, mGet_3, mSet_3, mGet_4, mSet_4, mGet_5, mSet_5, mGet_6, mSet_6, mGet_7, mSet_7, mGet_8, mSet_8, mGet_9, mSet_9, mGet_10, mSet_10, mGet_11, mSet_11, mGet_12, mSet_12, mGet_13, mSet_13, e_Ja_fill, a_Ja_fill_0, bk_Ja_fill_0, hn, h]
theorem dv {x y : Int} (h : 0 ≤ x) : x.tdiv y = x / y := Int.tdiv_eq_ediv_of_nonneg h
theorem md {x y : Int} (h : 0 ≤ x) : x.tmod y = x % y := Int.tmod_eq_emod_of_nonneg h
theorem b1t {p : Prop} [Decidable p] (h : p) : (if p then (1 : Int) else 0) = 1 := if_pos h
theorem b1f {p : Prop} [Decidable p] (h : ¬ p) : (if p then (1 : Int) else 0) = 0 := if_neg h
