/-! The model's arcs, listed by their ends. -/
def kC (fr to rm : Int → Int) (v : Int) : Int → Int := fun a => if 0 < rm a then (if fr a = v then 1 else 0) + (if to a = v then 1 else 0) else 0
def kT (fr to rm : Int → Int) (i : Nat) (v : Int) : Int := sm i (kC fr to rm v)
def kB (fr to rm : Int → Int) (j : Int) : Int := sm j.toNat (fun u => kT fr to rm 168 u)
def kWf (fr to rm : Int → Int) : Prop := ∀ a : Int, 0 ≤ a → a < 168 → 0 < rm a → (0 ≤ fr a ∧ fr a ≤ 48) ∧ (0 ≤ to a ∧ to a ≤ 48) ∧ fr a ≠ to a
def kLs (I : mN) (m : Int) (fr to rm : Int → Int) : Prop := (∀ v : Int, 0 ≤ v → v ≤ 48 → 0 ≤ I (m + 7) v ∧ I (m + 7) v ≤ I (m + 7) (v + 1) ∧ I (m + 7) (v + 1) ≤ 336) ∧ (∀ v p : Int, 0 ≤ v → v ≤ 48 → I (m + 7) v ≤ p → p < I (m + 7) (v + 1) → (0 ≤ I (m + 8) p ∧ I (m + 8) p < 168) ∧ 0 < rm (I (m + 8) p) ∧ (fr (I (m + 8) p) = v ∨ to (I (m + 8) p) = v)) ∧ ∀ a v : Int, 0 ≤ a → a < 168 → 0 < rm a → (fr a = v ∨ to a = v) → ∃ p : Int, I (m + 7) v ≤ p ∧ p < I (m + 7) (v + 1) ∧ I (m + 8) p = a
section KL
variable {fr to rm : Int → Int}
theorem kC_bd {v a : Int} (hw : kWf fr to rm) (a0 : 0 ≤ a) (a1 : a < 168) : 0 ≤ kC fr to rm v a ∧ kC fr to rm v a ≤ 1 := by
  unfold kC
  by_cases h : 0 < rm a
  · rw [if_pos h]
    have := (hw a a0 a1 h).2.2
    split <;> split <;> omega
  · rw [if_neg h]; omega
theorem kT_s (i : Nat) (v : Int) : kT fr to rm (i + 1) v = kT fr to rm i v + kC fr to rm v (i : Int) := rfl
theorem kT_bd (hw : kWf fr to rm) {v : Int} : ∀ i : Nat, i ≤ 168 → 0 ≤ kT fr to rm i v ∧ kT fr to rm i v ≤ i
  | 0, _ => ⟨Int.le_refl 0, Int.le_refl 0⟩
  | i + 1, hi => by
    have h1 := kT_bd hw (v := v) i (by omega)
    have h2 := kC_bd hw (v := v) (a := (i : Int)) (by omega) (by omega)
    rw [kT_s]
    omega
theorem kT_le (hw : kWf fr to rm) {v : Int} : ∀ (d i : Nat), i + d ≤ 168 → kT fr to rm i v ≤ kT fr to rm (i + d) v
  | 0, i, _ => Int.le_refl _
  | d + 1, i, h => by
    have h1 := kT_le hw (v := v) d i (by omega)
    have h2 := kC_bd hw (v := v) (a := ((i + d : Nat) : Int)) (by omega) (by omega)
    have h3 : kT fr to rm (i + (d + 1)) v = kT fr to rm (i + d) v + kC fr to rm v ((i + d : Nat) : Int) := rfl
    omega
theorem kB_s {j : Int} (j0 : 0 ≤ j) : kB fr to rm (j + 1) = kB fr to rm j + kT fr to rm 168 j := by
  unfold kB
  rw [show (j + 1).toNat = j.toNat + 1 by omega]
  show sm j.toNat _ + kT fr to rm 168 ((j.toNat : Nat) : Int) = _
  rw [show ((j.toNat : Nat) : Int) = j by omega]
theorem kB_mono (hw : kWf fr to rm) {j : Int} (j0 : 0 ≤ j) : ∀ d : Nat, kB fr to rm j ≤ kB fr to rm (j + d)
  | 0 => by rw [show j + ((0 : Nat) : Int) = j by omega]; exact Int.le_refl _
  | d + 1 => by
    have h1 := kB_mono hw j0 d
    have h2 := kB_s (fr := fr) (to := to) (rm := rm) (j := j + d) (by omega)
    have h3 := kT_bd hw (v := j + d) 168 (Nat.le_refl _)
    rw [show j + ((d + 1 : Nat) : Int) = j + d + 1 by omega]
    omega
theorem kB_49 (hw : kWf fr to rm) : kB fr to rm 49 ≤ 336 := by
  have e : kB fr to rm 49 = sm 49 (fun v => sm 168 (fun a => kC fr to rm v a)) := rfl
  rw [e, sm_swap 49 168 (fun a v => kC fr to rm v a)]
  have h : sm 168 (fun a => sm 49 (fun v => kC fr to rm v a)) ≤ sm 168 (fun _ => 2) := by
    refine sm_le (fun a a0 a1 => ?_)
    try dsimp only
    unfold kC
    by_cases c : 0 < rm a
    · obtain ⟨⟨f0, f1⟩, ⟨t0, t1⟩, -⟩ := hw a a0 (by omega) c
      rw [sm_congr (g := fun v => (if fr a = v then 1 else 0) + (if to a = v then 1 else 0)) (fun v _ _ => if_pos c), sm_add, sm_if (f := fun _ => (1 : Int)) f0 (by omega), sm_if (f := fun _ => (1 : Int)) t0 (by omega)]
      decide
    · rw [sm_zero (fun v _ _ => if_neg c)]; decide
  have h2 : sm 168 (fun _ => (2 : Int)) = 336 := by decide +kernel
  omega
theorem kB_0 : kB fr to rm 0 = 0 := rfl
theorem kB_nn (hw : kWf fr to rm) {j : Int} (j0 : 0 ≤ j) : 0 ≤ kB fr to rm j := by
  have h := kB_mono hw (j := 0) (Int.le_refl 0) j.toNat
  rw [kB_0, show (0 : Int) + (j.toNat : Nat) = j by omega] at h
  exact h
theorem kB_top (hw : kWf fr to rm) {j : Int} (j0 : 0 ≤ j) (j1 : j ≤ 49) : kB fr to rm j ≤ 336 := by
  have h := kB_mono hw (j := j) j0 (49 - j).toNat
  rw [show j + (((49 - j).toNat : Nat) : Int) = 49 by omega] at h
  have := kB_49 hw
  omega
end KL
section KA
variable {m : Int} {S : mH} {Q : mQ} (D : Nat) {fr to rm : Int → Int}
theorem l_li1 (hm : yM S m) : ∀ (c : Nat) {i : Int} {I : mN}, 0 ≤ i → i + c = 50 → (∀ j : Int, 0 ≤ j → j < i → I (m + 7) j = 0) → (∀ I' : mN, (∀ a : Int, a ≠ m + 7 → I' a = I a) → (∀ j : Int, 0 ≤ j → j < 50 → I' (m + 7) j = 0) → mAt (mRun D) 214 21 ([some (mR m), some (mI 50)], [], I', S) Q) → mAt (mRun D) 214 2 ([some (mR m), some (mI i)], [], I, S) Q
  | 0, i, I, i0, i1, hz, k => by
    obtain rfl : i = 50 := by omega
    simp (disch := first | omega | exact Nat.le_of_ble_eq_true rfl) only [w_iconst, w_bipush, w_sipush, w_ldc_s, w_ldcw_s, w_ldc_i, w_ldcw_i, w_lconst, w_fconst, w_dconst, w_iload, w_iload_n, w_aload, w_aload_n, w_dload, w_istore, w_istore_n, w_astore_r, w_astore_s, w_astore_n_r, w_astore_n_s, w_dstore, w_iinc, w_iadd, w_isub, w_imul, w_iand, w_iushr, v_idiv, v_irem, w_ineg, w_i2l, w_i2c, w_i2f, w_i2d, v_f2d, w_lcmp, w_dcmp, v_fdiv, v_ddiv, w_dup_i, w_dup_r, w_dup2, w_dup_x2, w_pop_i, w_pop_r, w_goto, w_switch, w_ret_i, v_ret_z, v_ret_c, w_ret_a, w_ret_s, w_ret_f, w_ret_d, w_ret_v, v_iaload, v_baload, v_caload, v_laload, v_aaload, v_iastore, v_bastore, v_castore, v_lastore, v_aastore, v_alen, v_newa, v_anewa, w_new, w_throw, w_dead, v_getf_i, v_getf_z, v_getf_r, v_putf_i, v_putf_z, v_putf_r, w_call0, w_call1, w_callv1, w_calli1, w_callt1, w_call2, w_callv2, w_calli2, w_callt2, w_call3, w_callv3, w_calli3, w_call4, w_callv4, w_calli4, w_call5, w_callv5, w_calli5, w_call6, w_callv6, w_calli6, w_call7, w_callv7, w_calli7, w_call8, w_callv8, w_calli8, c_if0_eq_t, c_if0_eq_f, c_if2_eq_t, c_if2_eq_f, c_if0_ne_t, c_if0_ne_f, c_if2_ne_t, c_if2_ne_f, c_if0_lt_t, c_if0_lt_f, c_if2_lt_t, c_if2_lt_f, c_if0_ge_t, c_if0_ge_f, c_if2_ge_t, c_if2_ge_f, c_if0_gt_t, c_if0_gt_f, c_if2_gt_t, c_if2_gt_f, c_if0_le_t, c_if0_le_f, c_if2_le_t, c_if2_le_f, w_nil, uI_s, uA_r, uA_s, uD_d, mPut_0, mCl_own, mCv_go, mCl_min, mCl_cpy, mCv_obj, mAct_len, mAct_chrc, mAft_v, mAft_n, mAft_x, mGet_0, mSet_0, mGet_1, mSet_1, mGet_2, mSet_2, mGet_3, mSet_3, mGet_4, mSet_4, mGet_5, mSet_5, mGet_6, mSet_6, mGet_7, mSet_7, mGet_8, mSet_8, mGet_9, mSet_9, mGet_10, mSet_10, mGet_11, mSet_11, mGet_12, mSet_12, mGet_13, mSet_13, a_Mo_nListArcs_2, bk_Mo_nListArcs_2]
    exact k I (fun _ _ => rfl) hz
  | c + 1, i, I, i0, i1, hz, k => by
    rw [a_Mo_nListArcs_2]
    simp (disch := first | omega | exact Nat.le_of_ble_eq_true rfl | (simp (disch := omega) only [ym_k hm, ym_7 hm, ym_k7 hm, ym_l7 hm] <;> omega)) only [w_iconst, w_bipush, w_sipush, w_ldc_s, w_ldcw_s, w_ldc_i, w_ldcw_i, w_lconst, w_fconst, w_dconst, w_iload, w_iload_n, w_aload, w_aload_n, w_dload, w_istore, w_istore_n, w_astore_r, w_astore_s, w_astore_n_r, w_astore_n_s, w_dstore, w_iinc, w_iadd, w_isub, w_imul, w_iand, w_iushr, v_idiv, v_irem, w_ineg, w_i2l, w_i2c, w_i2f, w_i2d, v_f2d, w_lcmp, w_dcmp, v_fdiv, v_ddiv, w_dup_i, w_dup_r, w_dup2, w_dup_x2, w_pop_i, w_pop_r, w_goto, w_switch, w_ret_i, v_ret_z, v_ret_c, w_ret_a, w_ret_s, w_ret_f, w_ret_d, w_ret_v, v_iaload, v_baload, v_caload, v_laload, v_aaload, v_iastore, v_bastore, v_castore, v_lastore, v_aastore, v_alen, v_newa, v_anewa, w_new, w_throw, w_dead, v_getf_i, v_getf_z, v_getf_r, v_putf_i, v_putf_z, v_putf_r, w_call0, w_call1, w_callv1, w_calli1, w_callt1, w_call2, w_callv2, w_calli2, w_callt2, w_call3, w_callv3, w_calli3, w_call4, w_callv4, w_calli4, w_call5, w_callv5, w_calli5, w_call6, w_callv6, w_calli6, w_call7, w_callv7, w_calli7, w_call8, w_callv8, w_calli8, c_if0_eq_t, c_if0_eq_f, c_if2_eq_t, c_if2_eq_f, c_if0_ne_t, c_if0_ne_f, c_if2_ne_t, c_if2_ne_f, c_if0_lt_t, c_if0_lt_f, c_if2_lt_t, c_if2_lt_f, c_if0_ge_t, c_if0_ge_f, c_if2_ge_t, c_if2_ge_f, c_if0_gt_t, c_if0_gt_f, c_if2_gt_t, c_if2_gt_f, c_if0_le_t, c_if0_le_f, c_if2_le_t, c_if2_le_f, w_nil, uI_s, uA_r, uA_s, uD_d, mPut_0, mCl_own, mCv_go, mCl_min, mCl_cpy, mCv_obj, mAct_len, mAct_chrc, mAft_v, mAft_n, mAft_x, mGet_0, mSet_0, mGet_1, mSet_1, mGet_2, mSet_2, mGet_3, mSet_3, mGet_4, mSet_4, mGet_5, mSet_5, mGet_6, mSet_6, mGet_7, mSet_7, mGet_8, mSet_8, mGet_9, mSet_9, mGet_10, mSet_10, mGet_11, mSet_11, mGet_12, mSet_12, mGet_13, mSet_13, bk_Mo_nListArcs_2, ym_k hm, ym_7 hm, ym_k7 hm, ym_l7 hm, wr]
    refine l_li1 hm c (by omega) (by omega) (fun j j0 j1 => ?_) (fun I' f z => k I' (fun a ha => by rw [f a ha, up_fa ha]) z)
    by_cases hj : j = i
    · rw [up_eq rfl hj]
    · rw [up_nk hj]; exact hz j j0 (by omega)
theorem l_li2 (hm : yM S m) (hw : kWf fr to rm) : ∀ (c i : Nat) {I : mN}, (i : Int) + c = 168 → I (m + 2) = fr → I (m + 3) = to → I (m + 4) = rm → I (m + 7) 0 = 0 → (∀ v : Int, 0 ≤ v → v ≤ 48 → I (m + 7) (v + 1) = kT fr to rm i v) →
    (∀ I' : mN, (∀ a : Int, a ≠ m + 7 → I' a = I a) → I' (m + 7) 0 = 0 → (∀ v : Int, 0 ≤ v → v ≤ 48 → I' (m + 7) (v + 1) = kT fr to rm 168 v) → mAt (mRun D) 214 79 ([some (mR m), some (mI 168)], [], I', S) Q) → mAt (mRun D) 214 23 ([some (mR m), some (mI (i : Int))], [], I, S) Q
  | 0, i, I, i1, h2, h3, h4, h7, hz, k => by
    obtain rfl : i = 168 := by omega
    simp (disch := first | omega | exact Nat.le_of_ble_eq_true rfl) only [w_iconst, w_bipush, w_sipush, w_ldc_s, w_ldcw_s, w_ldc_i, w_ldcw_i, w_lconst, w_fconst, w_dconst, w_iload, w_iload_n, w_aload, w_aload_n, w_dload, w_istore, w_istore_n, w_astore_r, w_astore_s, w_astore_n_r, w_astore_n_s, w_dstore, w_iinc, w_iadd, w_isub, w_imul, w_iand, w_iushr, v_idiv, v_irem, w_ineg, w_i2l, w_i2c, w_i2f, w_i2d, v_f2d, w_lcmp, w_dcmp, v_fdiv, v_ddiv, w_dup_i, w_dup_r, w_dup2, w_dup_x2, w_pop_i, w_pop_r, w_goto, w_switch, w_ret_i, v_ret_z, v_ret_c, w_ret_a, w_ret_s, w_ret_f, w_ret_d, w_ret_v, v_iaload, v_baload, v_caload, v_laload, v_aaload, v_iastore, v_bastore, v_castore, v_lastore, v_aastore, v_alen, v_newa, v_anewa, w_new, w_throw, w_dead, v_getf_i, v_getf_z, v_getf_r, v_putf_i, v_putf_z, v_putf_r, w_call0, w_call1, w_callv1, w_calli1, w_callt1, w_call2, w_callv2, w_calli2, w_callt2, w_call3, w_callv3, w_calli3, w_call4, w_callv4, w_calli4, w_call5, w_callv5, w_calli5, w_call6, w_callv6, w_calli6, w_call7, w_callv7, w_calli7, w_call8, w_callv8, w_calli8, c_if0_eq_t, c_if0_eq_f, c_if2_eq_t, c_if2_eq_f, c_if0_ne_t, c_if0_ne_f, c_if2_ne_t, c_if2_ne_f, c_if0_lt_t, c_if0_lt_f, c_if2_lt_t, c_if2_lt_f, c_if0_ge_t, c_if0_ge_f, c_if2_ge_t, c_if2_ge_f, c_if0_gt_t, c_if0_gt_f, c_if2_gt_t, c_if2_gt_f, c_if0_le_t, c_if0_le_f, c_if2_le_t, c_if2_le_f, w_nil, uI_s, uA_r, uA_s, uD_d, mPut_0, mCl_own, mCv_go, mCl_min, mCl_cpy, mCv_obj, mAct_len, mAct_chrc, mAft_v, mAft_n, mAft_x, mGet_0, mSet_0, mGet_1, mSet_1, mGet_2, mSet_2, mGet_3, mSet_3, mGet_4, mSet_4, mGet_5, mSet_5, mGet_6, mSet_6, mGet_7, mSet_7, mGet_8, mSet_8, mGet_9, mSet_9, mGet_10, mSet_10, mGet_11, mSet_11, mGet_12, mSet_12, mGet_13, mSet_13, a_Mo_nListArcs_23, bk_Mo_nListArcs_23]
    exact k I (fun _ _ => rfl) h7 hz
  | c + 1, i, I, i1, h2, h3, h4, h7, hz, k => by
    have hcast : (i : Int) + 1 = ((i + 1 : Nat) : Int) := by omega
    have hi : (i : Int) < 168 := by omega
    rw [a_Mo_nListArcs_23]
    by_cases hr : 0 < rm (i : Int)
    · obtain ⟨⟨f0, f1⟩, ⟨t0, t1⟩, hne⟩ := hw i (by omega) hi hr
      have b1 := kT_bd hw (v := fr i) i (by omega)
      have b2 := kT_bd hw (v := to i) i (by omega)
      have e1 := hz (fr i) f0 f1
      have e2 := hz (to i) t0 t1
      have e3 : (mUp I (m + 7) (fr i + 1) (kT fr to rm i (fr i) + 1)) (m + 7) (to i + 1) = kT fr to rm i (to i) := by rw [up_nk (by omega), e2]
      simp (disch := first | omega | exact Nat.le_of_ble_eq_true rfl | (simp (disch := omega) only [ym_k hm, ym_2 hm, ym_k2 hm, ym_l2 hm, ym_3 hm, ym_k3 hm, ym_l3 hm, ym_4 hm, ym_k4 hm, ym_l4 hm, ym_7 hm, ym_k7 hm, ym_l7 hm, h2, h3, h4, e1, e3, up_fa] <;> omega)) only [w_iconst, w_bipush, w_sipush, w_ldc_s, w_ldcw_s, w_ldc_i, w_ldcw_i, w_lconst, w_fconst, w_dconst, w_iload, w_iload_n, w_aload, w_aload_n, w_dload, w_istore, w_istore_n, w_astore_r, w_astore_s, w_astore_n_r, w_astore_n_s, w_dstore, w_iinc, w_iadd, w_isub, w_imul, w_iand, w_iushr, v_idiv, v_irem, w_ineg, w_i2l, w_i2c, w_i2f, w_i2d, v_f2d, w_lcmp, w_dcmp, v_fdiv, v_ddiv, w_dup_i, w_dup_r, w_dup2, w_dup_x2, w_pop_i, w_pop_r, w_goto, w_switch, w_ret_i, v_ret_z, v_ret_c, w_ret_a, w_ret_s, w_ret_f, w_ret_d, w_ret_v, v_iaload, v_baload, v_caload, v_laload, v_aaload, v_iastore, v_bastore, v_castore, v_lastore, v_aastore, v_alen, v_newa, v_anewa, w_new, w_throw, w_dead, v_getf_i, v_getf_z, v_getf_r, v_putf_i, v_putf_z, v_putf_r, w_call0, w_call1, w_callv1, w_calli1, w_callt1, w_call2, w_callv2, w_calli2, w_callt2, w_call3, w_callv3, w_calli3, w_call4, w_callv4, w_calli4, w_call5, w_callv5, w_calli5, w_call6, w_callv6, w_calli6, w_call7, w_callv7, w_calli7, w_call8, w_callv8, w_calli8, c_if0_eq_t, c_if0_eq_f, c_if2_eq_t, c_if2_eq_f, c_if0_ne_t, c_if0_ne_f, c_if2_ne_t, c_if2_ne_f, c_if0_lt_t, c_if0_lt_f, c_if2_lt_t, c_if2_lt_f, c_if0_ge_t, c_if0_ge_f, c_if2_ge_t, c_if2_ge_f, c_if0_gt_t, c_if0_gt_f, c_if2_gt_t, c_if2_gt_f, c_if0_le_t, c_if0_le_f, c_if2_le_t, c_if2_le_f, w_nil, uI_s, uA_r, uA_s, uD_d, mPut_0, mCl_own, mCv_go, mCl_min, mCl_cpy, mCv_obj, mAct_len, mAct_chrc, mAft_v, mAft_n, mAft_x, mGet_0, mSet_0, mGet_1, mSet_1, mGet_2, mSet_2, mGet_3, mSet_3, mGet_4, mSet_4, mGet_5, mSet_5, mGet_6, mSet_6, mGet_7, mSet_7, mGet_8, mSet_8, mGet_9, mSet_9, mGet_10, mSet_10, mGet_11, mSet_11, mGet_12, mSet_12, mGet_13, mSet_13, bk_Mo_nListArcs_23, a_Mo_nListArcs_73, bk_Mo_nListArcs_73, ym_k hm, ym_2 hm, ym_k2 hm, ym_l2 hm, ym_3 hm, ym_k3 hm, ym_l3 hm, ym_4 hm, ym_k4 hm, ym_l4 hm, ym_7 hm, ym_k7 hm, ym_l7 hm, h2, h3, h4, e1, e3, up_fa, wr]
      rw [hcast]
      refine l_li2 hm hw c (i + 1) (by omega) (by rw [up_fa (by omega), up_fa (by omega)]; exact h2) (by rw [up_fa (by omega), up_fa (by omega)]; exact h3) (by rw [up_fa (by omega), up_fa (by omega)]; exact h4) (by rw [up_nk (by omega), up_nk (by omega)]; exact h7) (fun v v0 v1 => ?_) (fun I' f z1 z2 => k I' (fun a ha => by rw [f a ha, up_fa ha, up_fa ha]) z1 z2)
      rw [kT_s]
      unfold kC
      rw [if_pos hr]
      by_cases c1 : v = to i
      · subst c1
        rw [up_eq rfl rfl, if_neg hne, if_pos rfl]; omega
      · rw [up_nk (by omega)]
        by_cases c2 : v = fr i
        · subst c2
          rw [up_eq rfl rfl, if_pos rfl, if_neg (fun h9 => c1 h9.symm)]; omega
        · rw [up_nk (by omega), if_neg (fun h9 => c2 h9.symm), if_neg (fun h9 => c1 h9.symm), hz v v0 v1]; omega
    · simp (disch := first | omega | exact Nat.le_of_ble_eq_true rfl | (simp (disch := omega) only [ym_k hm, ym_2 hm, ym_k2 hm, ym_l2 hm, ym_3 hm, ym_k3 hm, ym_l3 hm, ym_4 hm, ym_k4 hm, ym_l4 hm, ym_7 hm, ym_k7 hm, ym_l7 hm, h2, h3, h4] <;> omega)) only [w_iconst, w_bipush, w_sipush, w_ldc_s, w_ldcw_s, w_ldc_i, w_ldcw_i, w_lconst, w_fconst, w_dconst, w_iload, w_iload_n, w_aload, w_aload_n, w_dload, w_istore, w_istore_n, w_astore_r, w_astore_s, w_astore_n_r, w_astore_n_s, w_dstore, w_iinc, w_iadd, w_isub, w_imul, w_iand, w_iushr, v_idiv, v_irem, w_ineg, w_i2l, w_i2c, w_i2f, w_i2d, v_f2d, w_lcmp, w_dcmp, v_fdiv, v_ddiv, w_dup_i, w_dup_r, w_dup2, w_dup_x2, w_pop_i, w_pop_r, w_goto, w_switch, w_ret_i, v_ret_z, v_ret_c, w_ret_a, w_ret_s, w_ret_f, w_ret_d, w_ret_v, v_iaload, v_baload, v_caload, v_laload, v_aaload, v_iastore, v_bastore, v_castore, v_lastore, v_aastore, v_alen, v_newa, v_anewa, w_new, w_throw, w_dead, v_getf_i, v_getf_z, v_getf_r, v_putf_i, v_putf_z, v_putf_r, w_call0, w_call1, w_callv1, w_calli1, w_callt1, w_call2, w_callv2, w_calli2, w_callt2, w_call3, w_callv3, w_calli3, w_call4, w_callv4, w_calli4, w_call5, w_callv5, w_calli5, w_call6, w_callv6, w_calli6, w_call7, w_callv7, w_calli7, w_call8, w_callv8, w_calli8, c_if0_eq_t, c_if0_eq_f, c_if2_eq_t, c_if2_eq_f, c_if0_ne_t, c_if0_ne_f, c_if2_ne_t, c_if2_ne_f, c_if0_lt_t, c_if0_lt_f, c_if2_lt_t, c_if2_lt_f, c_if0_ge_t, c_if0_ge_f, c_if2_ge_t, c_if2_ge_f, c_if0_gt_t, c_if0_gt_f, c_if2_gt_t, c_if2_gt_f, c_if0_le_t, c_if0_le_f, c_if2_le_t, c_if2_le_f, w_nil, uI_s, uA_r, uA_s, uD_d, mPut_0, mCl_own, mCv_go, mCl_min, mCl_cpy, mCv_obj, mAct_len, mAct_chrc, mAft_v, mAft_n, mAft_x, mGet_0, mSet_0, mGet_1, mSet_1, mGet_2, mSet_2, mGet_3, mSet_3, mGet_4, mSet_4, mGet_5, mSet_5, mGet_6, mSet_6, mGet_7, mSet_7, mGet_8, mSet_8, mGet_9, mSet_9, mGet_10, mSet_10, mGet_11, mSet_11, mGet_12, mSet_12, mGet_13, mSet_13, bk_Mo_nListArcs_23, a_Mo_nListArcs_73, bk_Mo_nListArcs_73, ym_k hm, ym_2 hm, ym_k2 hm, ym_l2 hm, ym_3 hm, ym_k3 hm, ym_l3 hm, ym_4 hm, ym_k4 hm, ym_l4 hm, ym_7 hm, ym_k7 hm, ym_l7 hm, h2, h3, h4, wr]
      rw [hcast]
      refine l_li2 hm hw c (i + 1) (by omega) h2 h3 h4 h7 (fun v v0 v1 => ?_) k
      rw [kT_s]
      unfold kC
      rw [if_neg hr, hz v v0 v1]; omega
theorem l_li3 (hm : yM S m) (hw : kWf fr to rm) : ∀ (c : Nat) {i : Int} {I : mN}, 0 ≤ i → i + c = 49 → (∀ v : Int, 0 ≤ v → v ≤ i → I (m + 7) v = kB fr to rm v) → (∀ v : Int, i ≤ v → v ≤ 48 → I (m + 7) (v + 1) = kT fr to rm 168 v) → (∀ v : Int, 0 ≤ v → v < i → I (m + 10) v = kB fr to rm v) →
    (∀ I' : mN, (∀ a : Int, a ≠ m + 7 → a ≠ m + 10 → I' a = I a) → (∀ v : Int, 0 ≤ v → v ≤ 49 → I' (m + 7) v = kB fr to rm v) → (∀ v : Int, 0 ≤ v → v < 49 → I' (m + 10) v = kB fr to rm v) → mAt (mRun D) 214 122 ([some (mR m), some (mI 49)], [], I', S) Q) → mAt (mRun D) 214 81 ([some (mR m), some (mI i)], [], I, S) Q
  | 0, i, I, i0, i1, h1, h2, h3, k => by
    obtain rfl : i = 49 := by omega
    simp (disch := first | omega | exact Nat.le_of_ble_eq_true rfl) only [w_iconst, w_bipush, w_sipush, w_ldc_s, w_ldcw_s, w_ldc_i, w_ldcw_i, w_lconst, w_fconst, w_dconst, w_iload, w_iload_n, w_aload, w_aload_n, w_dload, w_istore, w_istore_n, w_astore_r, w_astore_s, w_astore_n_r, w_astore_n_s, w_dstore, w_iinc, w_iadd, w_isub, w_imul, w_iand, w_iushr, v_idiv, v_irem, w_ineg, w_i2l, w_i2c, w_i2f, w_i2d, v_f2d, w_lcmp, w_dcmp, v_fdiv, v_ddiv, w_dup_i, w_dup_r, w_dup2, w_dup_x2, w_pop_i, w_pop_r, w_goto, w_switch, w_ret_i, v_ret_z, v_ret_c, w_ret_a, w_ret_s, w_ret_f, w_ret_d, w_ret_v, v_iaload, v_baload, v_caload, v_laload, v_aaload, v_iastore, v_bastore, v_castore, v_lastore, v_aastore, v_alen, v_newa, v_anewa, w_new, w_throw, w_dead, v_getf_i, v_getf_z, v_getf_r, v_putf_i, v_putf_z, v_putf_r, w_call0, w_call1, w_callv1, w_calli1, w_callt1, w_call2, w_callv2, w_calli2, w_callt2, w_call3, w_callv3, w_calli3, w_call4, w_callv4, w_calli4, w_call5, w_callv5, w_calli5, w_call6, w_callv6, w_calli6, w_call7, w_callv7, w_calli7, w_call8, w_callv8, w_calli8, c_if0_eq_t, c_if0_eq_f, c_if2_eq_t, c_if2_eq_f, c_if0_ne_t, c_if0_ne_f, c_if2_ne_t, c_if2_ne_f, c_if0_lt_t, c_if0_lt_f, c_if2_lt_t, c_if2_lt_f, c_if0_ge_t, c_if0_ge_f, c_if2_ge_t, c_if2_ge_f, c_if0_gt_t, c_if0_gt_f, c_if2_gt_t, c_if2_gt_f, c_if0_le_t, c_if0_le_f, c_if2_le_t, c_if2_le_f, w_nil, uI_s, uA_r, uA_s, uD_d, mPut_0, mCl_own, mCv_go, mCl_min, mCl_cpy, mCv_obj, mAct_len, mAct_chrc, mAft_v, mAft_n, mAft_x, mGet_0, mSet_0, mGet_1, mSet_1, mGet_2, mSet_2, mGet_3, mSet_3, mGet_4, mSet_4, mGet_5, mSet_5, mGet_6, mSet_6, mGet_7, mSet_7, mGet_8, mSet_8, mGet_9, mSet_9, mGet_10, mSet_10, mGet_11, mSet_11, mGet_12, mSet_12, mGet_13, mSet_13, a_Mo_nListArcs_81, bk_Mo_nListArcs_81]
    exact k I (fun _ _ _ => rfl) h1 h3
  | c + 1, i, I, i0, i1, h1, h2, h3, k => by
    have e1 := h1 i i0 (Int.le_refl _)
    have e2 := h2 i (Int.le_refl _) (by omega)
    have b1 := kT_bd hw (v := i) 168 (Nat.le_refl _)
    have b2 := kB_nn hw i0
    have b3 := kB_top hw i0 (by omega)
    have e3 : ∀ x : Int, (mUp I (m + 7) (i + 1) x) (m + 7) i = kB fr to rm i := fun x => by rw [up_nk (by omega), e1]
    rw [a_Mo_nListArcs_81]
    simp (disch := first | omega | exact Nat.le_of_ble_eq_true rfl | (simp (disch := omega) only [ym_k hm, ym_7 hm, ym_k7 hm, ym_l7 hm, ym_10 hm, ym_k10 hm, ym_l10 hm, e1, e2, e3] <;> omega)) only [w_iconst, w_bipush, w_sipush, w_ldc_s, w_ldcw_s, w_ldc_i, w_ldcw_i, w_lconst, w_fconst, w_dconst, w_iload, w_iload_n, w_aload, w_aload_n, w_dload, w_istore, w_istore_n, w_astore_r, w_astore_s, w_astore_n_r, w_astore_n_s, w_dstore, w_iinc, w_iadd, w_isub, w_imul, w_iand, w_iushr, v_idiv, v_irem, w_ineg, w_i2l, w_i2c, w_i2f, w_i2d, v_f2d, w_lcmp, w_dcmp, v_fdiv, v_ddiv, w_dup_i, w_dup_r, w_dup2, w_dup_x2, w_pop_i, w_pop_r, w_goto, w_switch, w_ret_i, v_ret_z, v_ret_c, w_ret_a, w_ret_s, w_ret_f, w_ret_d, w_ret_v, v_iaload, v_baload, v_caload, v_laload, v_aaload, v_iastore, v_bastore, v_castore, v_lastore, v_aastore, v_alen, v_newa, v_anewa, w_new, w_throw, w_dead, v_getf_i, v_getf_z, v_getf_r, v_putf_i, v_putf_z, v_putf_r, w_call0, w_call1, w_callv1, w_calli1, w_callt1, w_call2, w_callv2, w_calli2, w_callt2, w_call3, w_callv3, w_calli3, w_call4, w_callv4, w_calli4, w_call5, w_callv5, w_calli5, w_call6, w_callv6, w_calli6, w_call7, w_callv7, w_calli7, w_call8, w_callv8, w_calli8, c_if0_eq_t, c_if0_eq_f, c_if2_eq_t, c_if2_eq_f, c_if0_ne_t, c_if0_ne_f, c_if2_ne_t, c_if2_ne_f, c_if0_lt_t, c_if0_lt_f, c_if2_lt_t, c_if2_lt_f, c_if0_ge_t, c_if0_ge_f, c_if2_ge_t, c_if2_ge_f, c_if0_gt_t, c_if0_gt_f, c_if2_gt_t, c_if2_gt_f, c_if0_le_t, c_if0_le_f, c_if2_le_t, c_if2_le_f, w_nil, uI_s, uA_r, uA_s, uD_d, mPut_0, mCl_own, mCv_go, mCl_min, mCl_cpy, mCv_obj, mAct_len, mAct_chrc, mAft_v, mAft_n, mAft_x, mGet_0, mSet_0, mGet_1, mSet_1, mGet_2, mSet_2, mGet_3, mSet_3, mGet_4, mSet_4, mGet_5, mSet_5, mGet_6, mSet_6, mGet_7, mSet_7, mGet_8, mSet_8, mGet_9, mSet_9, mGet_10, mSet_10, mGet_11, mSet_11, mGet_12, mSet_12, mGet_13, mSet_13, bk_Mo_nListArcs_81, ym_k hm, ym_7 hm, ym_k7 hm, ym_l7 hm, ym_10 hm, ym_k10 hm, ym_l10 hm, e1, e2, e3, wr]
    have es := kB_s (fr := fr) (to := to) (rm := rm) i0
    refine l_li3 hm hw c (by omega) (by omega) (fun v v0 v1 => ?_) (fun v v0 v1 => ?_) (fun v v0 v1 => ?_) (fun I' f z1 z2 => k I' (fun a ha hb => by rw [f a ha hb, up_fa hb, up_fa ha]) z1 z2)
    · rw [up_na (by omega)]
      by_cases hv : v = i + 1
      · rw [up_eq rfl hv, hv, es]; omega
      · rw [up_nk hv]; exact h1 v v0 (by omega)
    · rw [up_na (by omega), up_nk (by omega)]; exact h2 v (by omega) v1
    · by_cases hv : v = i
      · rw [up_eq rfl hv, hv]
      · rw [up_nk hv, up_na (by omega)]; exact h3 v v0 (by omega)
/-- while the list is filled -/
def kFi (I : mN) (m : Int) (fr to rm : Int → Int) (i : Nat) : Prop := (∀ v : Int, 0 ≤ v → v ≤ 49 → I (m + 7) v = kB fr to rm v) ∧ (∀ v : Int, 0 ≤ v → v < 49 → I (m + 10) v = kB fr to rm v + kT fr to rm i v) ∧ (∀ v p : Int, 0 ≤ v → v < 49 → kB fr to rm v ≤ p → p < kB fr to rm v + kT fr to rm i v → (0 ≤ I (m + 8) p ∧ I (m + 8) p < 168) ∧ 0 < rm (I (m + 8) p) ∧ (fr (I (m + 8) p) = v ∨ to (I (m + 8) p) = v)) ∧ ∀ a v : Int, 0 ≤ a → a < i → 0 < rm a → (fr a = v ∨ to a = v) → ∃ p : Int, kB fr to rm v ≤ p ∧ p < kB fr to rm v + kT fr to rm i v ∧ I (m + 8) p = a
theorem kB_sep (hw : kWf fr to rm) {v w p q : Int} (v0 : 0 ≤ v) (w0 : 0 ≤ w) (hvw : v ≠ w) (p0 : kB fr to rm v ≤ p) (p1 : p < kB fr to rm v + kT fr to rm 168 v) (q0 : kB fr to rm w ≤ q) (q1 : q < kB fr to rm w + kT fr to rm 168 w) : p ≠ q := by
  rcases Int.lt_or_gt_of_ne hvw with h | h
  · have h1 := kB_mono hw (j := v + 1) (by omega) (w - (v + 1)).toNat
    rw [show v + 1 + (((w - (v + 1)).toNat : Nat) : Int) = w by omega, kB_s v0] at h1
    omega
  · have h1 := kB_mono hw (j := w + 1) (by omega) (v - (w + 1)).toNat
    rw [show w + 1 + (((v - (w + 1)).toNat : Nat) : Int) = v by omega, kB_s w0] at h1
    omega
theorem l_li4 (hm : yM S m) (hw : kWf fr to rm) : ∀ (c i : Nat) {I : mN}, (i : Int) + c = 168 → I (m + 2) = fr → I (m + 3) = to → I (m + 4) = rm → kFi I m fr to rm i →
    (∀ I' : mN, (∀ a : Int, a ≠ m + 8 → a ≠ m + 10 → I' a = I a) → kFi I' m fr to rm 168 → Q (.inl none) I' S) → mAt (mRun D) 214 124 ([some (mR m), some (mI (i : Int))], [], I, S) Q
  | 0, i, I, i1, h2, h3, h4, hF, k => by
    obtain rfl : i = 168 := by omega
    simp (disch := first | omega | exact Nat.le_of_ble_eq_true rfl) only [w_iconst, w_bipush, w_sipush, w_ldc_s, w_ldcw_s, w_ldc_i, w_ldcw_i, w_lconst, w_fconst, w_dconst, w_iload, w_iload_n, w_aload, w_aload_n, w_dload, w_istore, w_istore_n, w_astore_r, w_astore_s, w_astore_n_r, w_astore_n_s, w_dstore, w_iinc, w_iadd, w_isub, w_imul, w_iand, w_iushr, v_idiv, v_irem, w_ineg, w_i2l, w_i2c, w_i2f, w_i2d, v_f2d, w_lcmp, w_dcmp, v_fdiv, v_ddiv, w_dup_i, w_dup_r, w_dup2, w_dup_x2, w_pop_i, w_pop_r, w_goto, w_switch, w_ret_i, v_ret_z, v_ret_c, w_ret_a, w_ret_s, w_ret_f, w_ret_d, w_ret_v, v_iaload, v_baload, v_caload, v_laload, v_aaload, v_iastore, v_bastore, v_castore, v_lastore, v_aastore, v_alen, v_newa, v_anewa, w_new, w_throw, w_dead, v_getf_i, v_getf_z, v_getf_r, v_putf_i, v_putf_z, v_putf_r, w_call0, w_call1, w_callv1, w_calli1, w_callt1, w_call2, w_callv2, w_calli2, w_callt2, w_call3, w_callv3, w_calli3, w_call4, w_callv4, w_calli4, w_call5, w_callv5, w_calli5, w_call6, w_callv6, w_calli6, w_call7, w_callv7, w_calli7, w_call8, w_callv8, w_calli8, c_if0_eq_t, c_if0_eq_f, c_if2_eq_t, c_if2_eq_f, c_if0_ne_t, c_if0_ne_f, c_if2_ne_t, c_if2_ne_f, c_if0_lt_t, c_if0_lt_f, c_if2_lt_t, c_if2_lt_f, c_if0_ge_t, c_if0_ge_f, c_if2_ge_t, c_if2_ge_f, c_if0_gt_t, c_if0_gt_f, c_if2_gt_t, c_if2_gt_f, c_if0_le_t, c_if0_le_f, c_if2_le_t, c_if2_le_f, w_nil, uI_s, uA_r, uA_s, uD_d, mPut_0, mCl_own, mCv_go, mCl_min, mCl_cpy, mCv_obj, mAct_len, mAct_chrc, mAft_v, mAft_n, mAft_x, mGet_0, mSet_0, mGet_1, mSet_1, mGet_2, mSet_2, mGet_3, mSet_3, mGet_4, mSet_4, mGet_5, mSet_5, mGet_6, mSet_6, mGet_7, mSet_7, mGet_8, mSet_8, mGet_9, mSet_9, mGet_10, mSet_10, mGet_11, mSet_11, mGet_12, mSet_12, mGet_13, mSet_13, a_Mo_nListArcs_124, bk_Mo_nListArcs_124, a_Mo_nListArcs_190, bk_Mo_nListArcs_190]
    exact k I (fun _ _ _ => rfl) hF
  | c + 1, i, I, i1, h2, h3, h4, hF, k => by
    have hcast : (i : Int) + 1 = ((i + 1 : Nat) : Int) := by omega
    have hi : (i : Int) < 168 := by omega
    obtain ⟨g1, g2, g3, g4⟩ := hF
    rw [a_Mo_nListArcs_124]
    by_cases hr : 0 < rm (i : Int)
    · obtain ⟨⟨f0, f1⟩, ⟨t0, t1⟩, hne⟩ := hw i (by omega) hi hr
      have bf := kT_bd hw (v := fr i) i (by omega)
      have bt := kT_bd hw (v := to i) i (by omega)
      have cf : kC fr to rm (fr i) i = 1 := by unfold kC; rw [if_pos hr, if_pos rfl, if_neg (fun h9 => hne h9.symm)]; rfl
      have ct : kC fr to rm (to i) i = 1 := by unfold kC; rw [if_pos hr, if_pos rfl, if_neg hne]; rfl
      have lf := kT_le hw (v := fr i) (168 - (i + 1)) (i + 1) (by omega)
      have lt := kT_le hw (v := to i) (168 - (i + 1)) (i + 1) (by omega)
      rw [show i + 1 + (168 - (i + 1)) = 168 by omega, kT_s] at lf lt
      rw [cf] at lf
      rw [ct] at lt
      have e1 := g2 (fr i) f0 (by omega)
      have e2 := g2 (to i) t0 (by omega)
      have nf := kB_nn hw f0
      have nt := kB_nn hw t0
      have sf := kB_s (fr := fr) (to := to) (rm := rm) f0
      have st := kB_s (fr := fr) (to := to) (rm := rm) t0
      have uf := kB_top hw (j := fr i + 1) (by omega) (by omega)
      have ut := kB_top hw (j := to i + 1) (by omega) (by omega)
      have hsep := kB_sep hw (v := fr i) (w := to i) (p := kB fr to rm (fr i) + kT fr to rm i (fr i)) (q := kB fr to rm (to i) + kT fr to rm i (to i)) f0 t0 hne (by omega) (by omega) (by omega) (by omega)
      have e3 : ∀ x y z : Int, (mUp (mUp I (m + 10) (fr i) x) (m + 8) y z) (m + 10) (to i) = kB fr to rm (to i) + kT fr to rm i (to i) := fun x y z => by rw [up_na (by omega), up_nk (by omega), e2]
      simp (disch := first | omega | exact Nat.le_of_ble_eq_true rfl | (simp (disch := omega) only [ym_k hm, ym_2 hm, ym_k2 hm, ym_l2 hm, ym_3 hm, ym_k3 hm, ym_l3 hm, ym_4 hm, ym_k4 hm, ym_l4 hm, ym_7 hm, ym_k7 hm, ym_l7 hm, ym_8 hm, ym_k8 hm, ym_l8 hm, ym_10 hm, ym_k10 hm, ym_l10 hm, h2, h3, h4, e1, e3, up_fa] <;> omega)) only [w_iconst, w_bipush, w_sipush, w_ldc_s, w_ldcw_s, w_ldc_i, w_ldcw_i, w_lconst, w_fconst, w_dconst, w_iload, w_iload_n, w_aload, w_aload_n, w_dload, w_istore, w_istore_n, w_astore_r, w_astore_s, w_astore_n_r, w_astore_n_s, w_dstore, w_iinc, w_iadd, w_isub, w_imul, w_iand, w_iushr, v_idiv, v_irem, w_ineg, w_i2l, w_i2c, w_i2f, w_i2d, v_f2d, w_lcmp, w_dcmp, v_fdiv, v_ddiv, w_dup_i, w_dup_r, w_dup2, w_dup_x2, w_pop_i, w_pop_r, w_goto, w_switch, w_ret_i, v_ret_z, v_ret_c, w_ret_a, w_ret_s, w_ret_f, w_ret_d, w_ret_v, v_iaload, v_baload, v_caload, v_laload, v_aaload, v_iastore, v_bastore, v_castore, v_lastore, v_aastore, v_alen, v_newa, v_anewa, w_new, w_throw, w_dead, v_getf_i, v_getf_z, v_getf_r, v_putf_i, v_putf_z, v_putf_r, w_call0, w_call1, w_callv1, w_calli1, w_callt1, w_call2, w_callv2, w_calli2, w_callt2, w_call3, w_callv3, w_calli3, w_call4, w_callv4, w_calli4, w_call5, w_callv5, w_calli5, w_call6, w_callv6, w_calli6, w_call7, w_callv7, w_calli7, w_call8, w_callv8, w_calli8, c_if0_eq_t, c_if0_eq_f, c_if2_eq_t, c_if2_eq_f, c_if0_ne_t, c_if0_ne_f, c_if2_ne_t, c_if2_ne_f, c_if0_lt_t, c_if0_lt_f, c_if2_lt_t, c_if2_lt_f, c_if0_ge_t, c_if0_ge_f, c_if2_ge_t, c_if2_ge_f, c_if0_gt_t, c_if0_gt_f, c_if2_gt_t, c_if2_gt_f, c_if0_le_t, c_if0_le_f, c_if2_le_t, c_if2_le_f, w_nil, uI_s, uA_r, uA_s, uD_d, mPut_0, mCl_own, mCv_go, mCl_min, mCl_cpy, mCv_obj, mAct_len, mAct_chrc, mAft_v, mAft_n, mAft_x, mGet_0, mSet_0, mGet_1, mSet_1, mGet_2, mSet_2, mGet_3, mSet_3, mGet_4, mSet_4, mGet_5, mSet_5, mGet_6, mSet_6, mGet_7, mSet_7, mGet_8, mSet_8, mGet_9, mSet_9, mGet_10, mSet_10, mGet_11, mSet_11, mGet_12, mSet_12, mGet_13, mSet_13, bk_Mo_nListArcs_124, a_Mo_nListArcs_184, bk_Mo_nListArcs_184, ym_k hm, ym_2 hm, ym_k2 hm, ym_l2 hm, ym_3 hm, ym_k3 hm, ym_l3 hm, ym_4 hm, ym_k4 hm, ym_l4 hm, ym_7 hm, ym_k7 hm, ym_l7 hm, ym_8 hm, ym_k8 hm, ym_l8 hm, ym_10 hm, ym_k10 hm, ym_l10 hm, h2, h3, h4, e1, e3, up_fa, wr]
      rw [hcast]
      generalize hJ : mUp (mUp (mUp (mUp I (m + 10) (fr i) (kB fr to rm (fr i) + kT fr to rm i (fr i) + 1)) (m + 8) (kB fr to rm (fr i) + kT fr to rm i (fr i)) (i : Int)) (m + 10) (to i) (kB fr to rm (to i) + kT fr to rm i (to i) + 1)) (m + 8) (kB fr to rm (to i) + kT fr to rm i (to i)) (i : Int) = J
      have jo : ∀ a : Int, a ≠ m + 8 → a ≠ m + 10 → J a = I a := fun a a1 a2 => by rw [← hJ, up_fa a1, up_fa a2, up_fa a1, up_fa a2]
      have j10 : ∀ v : Int, J (m + 10) v = if v = to i then kB fr to rm (to i) + kT fr to rm i (to i) + 1 else if v = fr i then kB fr to rm (fr i) + kT fr to rm i (fr i) + 1 else I (m + 10) v := fun v => by
        rw [← hJ, up_na (by omega)]
        by_cases c1 : v = to i
        · rw [if_pos c1, up_eq rfl c1]
        · rw [if_neg c1, up_nk c1, up_na (by omega)]
          by_cases c2 : v = fr i
          · rw [if_pos c2, up_eq rfl c2]
          · rw [if_neg c2, up_nk c2]
      have j8 : ∀ p : Int, J (m + 8) p = if p = kB fr to rm (to i) + kT fr to rm i (to i) ∨ p = kB fr to rm (fr i) + kT fr to rm i (fr i) then (i : Int) else I (m + 8) p := fun p => by
        rw [← hJ]
        by_cases c1 : p = kB fr to rm (to i) + kT fr to rm i (to i)
        · rw [if_pos (Or.inl c1), up_eq rfl c1]
        · rw [up_nk c1, up_na (by omega)]
          by_cases c2 : p = kB fr to rm (fr i) + kT fr to rm i (fr i)
          · rw [if_pos (Or.inr c2), up_eq rfl c2]
          · rw [if_neg (by omega), up_nk c2, up_na (by omega)]
      clear hJ
      have hold : ∀ v p : Int, 0 ≤ v → v < 49 → kB fr to rm v ≤ p → p < kB fr to rm v + kT fr to rm i v → J (m + 8) p = I (m + 8) p := fun v p v0 v1 p0 p1 => by
        have lv := kT_le hw (v := v) (168 - i) i (by omega)
        rw [show i + (168 - i) = 168 by omega] at lv
        rw [j8]
        refine if_neg (fun h9 => ?_)
        rcases h9 with h9 | h9
        · by_cases hv : v = to i
          · rw [hv] at p1; omega
          · exact kB_sep hw (v := v) (w := to i) v0 t0 hv p0 (by omega) (show kB fr to rm (to i) ≤ kB fr to rm (to i) + kT fr to rm i (to i) by omega) (by omega) h9
        · by_cases hv : v = fr i
          · rw [hv] at p1; omega
          · exact kB_sep hw (v := v) (w := fr i) v0 f0 hv p0 (by omega) (show kB fr to rm (fr i) ≤ kB fr to rm (fr i) + kT fr to rm i (fr i) by omega) (by omega) h9
      have hC : ∀ v : Int, kC fr to rm v i = if v = to i ∨ v = fr i then 1 else 0 := fun v => by
        unfold kC
        rw [if_pos hr]
        by_cases c1 : v = to i
        · rw [if_pos (Or.inl c1), if_pos c1.symm, if_neg (by omega)]; rfl
        · by_cases c2 : v = fr i
          · rw [if_pos (Or.inr c2), if_pos c2.symm, if_neg (fun h9 => c1 h9.symm)]; rfl
          · rw [if_neg (show ¬ (v = to i ∨ v = fr i) by omega), if_neg (fun h9 => c2 h9.symm), if_neg (fun h9 => c1 h9.symm)]; rfl
      refine l_li4 hm hw c (i + 1) (by omega) (by rw [jo _ (by omega) (by omega)]; exact h2) (by rw [jo _ (by omega) (by omega)]; exact h3) (by rw [jo _ (by omega) (by omega)]; exact h4) ⟨fun v v0 v1 => by rw [jo _ (by omega) (by omega)]; exact g1 v v0 v1, fun v v0 v1 => ?_, fun v p v0 v1 p0 p1 => ?_, fun a v a0 a1 ha hav => ?_⟩ (fun I' f z => k I' (fun a a1 a2 => by rw [f a a1 a2, jo a a1 a2]) z)
      · rw [j10, kT_s, hC]
        by_cases c1 : v = to i
        · rw [if_pos c1, if_pos (Or.inl c1), c1]; omega
        · rw [if_neg c1]
          by_cases c2 : v = fr i
          · rw [if_pos c2, if_pos (Or.inr c2), c2]; omega
          · rw [if_neg c2, if_neg (by omega), g2 v v0 v1]; omega
      · rw [kT_s, hC] at p1
        by_cases hp : p < kB fr to rm v + kT fr to rm i v
        · rw [hold v p v0 v1 p0 hp]; exact g3 v p v0 v1 p0 hp
        · by_cases c1 : v = to i ∨ v = fr i
          · rw [if_pos c1] at p1
            have hpe : p = kB fr to rm v + kT fr to rm i v := by omega
            have e9 : J (m + 8) p = (i : Int) := by
              rw [j8]
              refine if_pos ?_
              rcases c1 with c1 | c1
              · left; rw [hpe, c1]
              · right; rw [hpe, c1]
            rw [e9]
            refine ⟨⟨by omega, hi⟩, hr, ?_⟩
            rcases c1 with c1 | c1
            · right; exact c1.symm
            · left; exact c1.symm
          · rw [if_neg c1] at p1; omega
      · have hv : 0 ≤ v ∧ v < 49 := by
          obtain ⟨q1, q2, -⟩ := hw a a0 (by omega) ha
          rcases hav with h9 | h9 <;> omega
        by_cases c1 : a = i
        · rw [c1] at hav
          refine ⟨kB fr to rm v + kT fr to rm i v, ?_, ?_, ?_⟩
          · have := kT_bd hw (v := v) i (by omega); omega
          · rw [kT_s, hC, if_pos (by omega)]; omega
          · rw [j8, c1]
            refine if_pos ?_
            rcases hav with h9 | h9
            · right; rw [h9]
            · left; rw [h9]
        · obtain ⟨p, q0, q1, q2⟩ := g4 a v a0 (by omega) ha hav
          refine ⟨p, q0, ?_, by rw [hold v p hv.1 hv.2 q0 q1]; exact q2⟩
          rw [kT_s, hC]
          split <;> omega
    · have hC : ∀ v : Int, kC fr to rm v i = 0 := fun v => by unfold kC; rw [if_neg hr]
      simp (disch := first | omega | exact Nat.le_of_ble_eq_true rfl | (simp (disch := omega) only [ym_k hm, ym_2 hm, ym_k2 hm, ym_l2 hm, ym_3 hm, ym_k3 hm, ym_l3 hm, ym_4 hm, ym_k4 hm, ym_l4 hm, ym_7 hm, ym_k7 hm, ym_l7 hm, h2, h3, h4] <;> omega)) only [w_iconst, w_bipush, w_sipush, w_ldc_s, w_ldcw_s, w_ldc_i, w_ldcw_i, w_lconst, w_fconst, w_dconst, w_iload, w_iload_n, w_aload, w_aload_n, w_dload, w_istore, w_istore_n, w_astore_r, w_astore_s, w_astore_n_r, w_astore_n_s, w_dstore, w_iinc, w_iadd, w_isub, w_imul, w_iand, w_iushr, v_idiv, v_irem, w_ineg, w_i2l, w_i2c, w_i2f, w_i2d, v_f2d, w_lcmp, w_dcmp, v_fdiv, v_ddiv, w_dup_i, w_dup_r, w_dup2, w_dup_x2, w_pop_i, w_pop_r, w_goto, w_switch, w_ret_i, v_ret_z, v_ret_c, w_ret_a, w_ret_s, w_ret_f, w_ret_d, w_ret_v, v_iaload, v_baload, v_caload, v_laload, v_aaload, v_iastore, v_bastore, v_castore, v_lastore, v_aastore, v_alen, v_newa, v_anewa, w_new, w_throw, w_dead, v_getf_i, v_getf_z, v_getf_r, v_putf_i, v_putf_z, v_putf_r, w_call0, w_call1, w_callv1, w_calli1, w_callt1, w_call2, w_callv2, w_calli2, w_callt2, w_call3, w_callv3, w_calli3, w_call4, w_callv4, w_calli4, w_call5, w_callv5, w_calli5, w_call6, w_callv6, w_calli6, w_call7, w_callv7, w_calli7, w_call8, w_callv8, w_calli8, c_if0_eq_t, c_if0_eq_f, c_if2_eq_t, c_if2_eq_f, c_if0_ne_t, c_if0_ne_f, c_if2_ne_t, c_if2_ne_f, c_if0_lt_t, c_if0_lt_f, c_if2_lt_t, c_if2_lt_f, c_if0_ge_t, c_if0_ge_f, c_if2_ge_t, c_if2_ge_f, c_if0_gt_t, c_if0_gt_f, c_if2_gt_t, c_if2_gt_f, c_if0_le_t, c_if0_le_f, c_if2_le_t, c_if2_le_f, w_nil, uI_s, uA_r, uA_s, uD_d, mPut_0, mCl_own, mCv_go, mCl_min, mCl_cpy, mCv_obj, mAct_len, mAct_chrc, mAft_v, mAft_n, mAft_x, mGet_0, mSet_0, mGet_1, mSet_1, mGet_2, mSet_2, mGet_3, mSet_3, mGet_4, mSet_4, mGet_5, mSet_5, mGet_6, mSet_6, mGet_7, mSet_7, mGet_8, mSet_8, mGet_9, mSet_9, mGet_10, mSet_10, mGet_11, mSet_11, mGet_12, mSet_12, mGet_13, mSet_13, bk_Mo_nListArcs_124, a_Mo_nListArcs_184, bk_Mo_nListArcs_184, ym_k hm, ym_2 hm, ym_k2 hm, ym_l2 hm, ym_3 hm, ym_k3 hm, ym_l3 hm, ym_4 hm, ym_k4 hm, ym_l4 hm, ym_7 hm, ym_k7 hm, ym_l7 hm, h2, h3, h4, wr]
      rw [hcast]
      refine l_li4 hm hw c (i + 1) (by omega) h2 h3 h4 ⟨g1, fun v v0 v1 => ?_, fun v p v0 v1 p0 p1 => ?_, fun a v a0 a1 ha hav => ?_⟩ k
      · rw [kT_s, hC, g2 v v0 v1]; omega
      · rw [kT_s, hC] at p1; exact g3 v p v0 v1 p0 (by omega)
      · have hai : a ≠ i := fun h9 => by rw [h9] at ha; exact hr ha
        obtain ⟨p, q0, q1, q2⟩ := g4 a v a0 (by omega) ha hav
        exact ⟨p, q0, by rw [kT_s, hC]; omega, q2⟩
theorem p_list {I : mN} (hm : yM S m) (hw : kWf fr to rm) (h2 : I (m + 2) = fr) (h3 : I (m + 3) = to) (h4 : I (m + 4) = rm) (k : ∀ I' : mN, (∀ a : Int, a ≠ m + 7 → a ≠ m + 8 → a ≠ m + 10 → I' a = I a) → kLs I' m fr to rm → Q (.inl none) I' S) : mRun (D + 1) 214 [mR m] I S Q := by
  simp (disch := first | omega | exact Nat.le_of_ble_eq_true rfl) only [w_iconst, w_bipush, w_sipush, w_ldc_s, w_ldcw_s, w_ldc_i, w_ldcw_i, w_lconst, w_fconst, w_dconst, w_iload, w_iload_n, w_aload, w_aload_n, w_dload, w_istore, w_istore_n, w_astore_r, w_astore_s, w_astore_n_r, w_astore_n_s, w_dstore, w_iinc, w_iadd, w_isub, w_imul, w_iand, w_iushr, v_idiv, v_irem, w_ineg, w_i2l, w_i2c, w_i2f, w_i2d, v_f2d, w_lcmp, w_dcmp, v_fdiv, v_ddiv, w_dup_i, w_dup_r, w_dup2, w_dup_x2, w_pop_i, w_pop_r, w_goto, w_switch, w_ret_i, v_ret_z, v_ret_c, w_ret_a, w_ret_s, w_ret_f, w_ret_d, w_ret_v, v_iaload, v_baload, v_caload, v_laload, v_aaload, v_iastore, v_bastore, v_castore, v_lastore, v_aastore, v_alen, v_newa, v_anewa, w_new, w_throw, w_dead, v_getf_i, v_getf_z, v_getf_r, v_putf_i, v_putf_z, v_putf_r, w_call0, w_call1, w_callv1, w_calli1, w_callt1, w_call2, w_callv2, w_calli2, w_callt2, w_call3, w_callv3, w_calli3, w_call4, w_callv4, w_calli4, w_call5, w_callv5, w_calli5, w_call6, w_callv6, w_calli6, w_call7, w_callv7, w_calli7, w_call8, w_callv8, w_calli8, c_if0_eq_t, c_if0_eq_f, c_if2_eq_t, c_if2_eq_f, c_if0_ne_t, c_if0_ne_f, c_if2_ne_t, c_if2_ne_f, c_if0_lt_t, c_if0_lt_f, c_if2_lt_t, c_if2_lt_f, c_if0_ge_t, c_if0_ge_f, c_if2_ge_t, c_if2_ge_f, c_if0_gt_t, c_if0_gt_f, c_if2_gt_t, c_if2_gt_f, c_if0_le_t, c_if0_le_f, c_if2_le_t, c_if2_le_f, w_nil, uI_s, uA_r, uA_s, uD_d, mPut_0, mCl_own, mCv_go, mCl_min, mCl_cpy, mCv_obj, mAct_len, mAct_chrc, mAft_v, mAft_n, mAft_x, mGet_0, mSet_0, mGet_1, mSet_1, mGet_2, mSet_2, mGet_3, mSet_3, mGet_4, mSet_4, mGet_5, mSet_5, mGet_6, mSet_6, mGet_7, mSet_7, mGet_8, mSet_8, mGet_9, mSet_9, mGet_10, mSet_10, mGet_11, mSet_11, mGet_12, mSet_12, mGet_13, mSet_13, e_Mo_nListArcs, a_Mo_nListArcs_0, bk_Mo_nListArcs_0]
  refine l_li1 D hm 50 (Int.le_refl 0) (by omega) (fun j j0 j1 => by omega) (fun I1 f1 z1 => ?_)
  simp (disch := first | omega | exact Nat.le_of_ble_eq_true rfl) only [w_iconst, w_bipush, w_sipush, w_ldc_s, w_ldcw_s, w_ldc_i, w_ldcw_i, w_lconst, w_fconst, w_dconst, w_iload, w_iload_n, w_aload, w_aload_n, w_dload, w_istore, w_istore_n, w_astore_r, w_astore_s, w_astore_n_r, w_astore_n_s, w_dstore, w_iinc, w_iadd, w_isub, w_imul, w_iand, w_iushr, v_idiv, v_irem, w_ineg, w_i2l, w_i2c, w_i2f, w_i2d, v_f2d, w_lcmp, w_dcmp, v_fdiv, v_ddiv, w_dup_i, w_dup_r, w_dup2, w_dup_x2, w_pop_i, w_pop_r, w_goto, w_switch, w_ret_i, v_ret_z, v_ret_c, w_ret_a, w_ret_s, w_ret_f, w_ret_d, w_ret_v, v_iaload, v_baload, v_caload, v_laload, v_aaload, v_iastore, v_bastore, v_castore, v_lastore, v_aastore, v_alen, v_newa, v_anewa, w_new, w_throw, w_dead, v_getf_i, v_getf_z, v_getf_r, v_putf_i, v_putf_z, v_putf_r, w_call0, w_call1, w_callv1, w_calli1, w_callt1, w_call2, w_callv2, w_calli2, w_callt2, w_call3, w_callv3, w_calli3, w_call4, w_callv4, w_calli4, w_call5, w_callv5, w_calli5, w_call6, w_callv6, w_calli6, w_call7, w_callv7, w_calli7, w_call8, w_callv8, w_calli8, c_if0_eq_t, c_if0_eq_f, c_if2_eq_t, c_if2_eq_f, c_if0_ne_t, c_if0_ne_f, c_if2_ne_t, c_if2_ne_f, c_if0_lt_t, c_if0_lt_f, c_if2_lt_t, c_if2_lt_f, c_if0_ge_t, c_if0_ge_f, c_if2_ge_t, c_if2_ge_f, c_if0_gt_t, c_if0_gt_f, c_if2_gt_t, c_if2_gt_f, c_if0_le_t, c_if0_le_f, c_if2_le_t, c_if2_le_f, w_nil, uI_s, uA_r, uA_s, uD_d, mPut_0, mCl_own, mCv_go, mCl_min, mCl_cpy, mCv_obj, mAct_len, mAct_chrc, mAft_v, mAft_n, mAft_x, mGet_0, mSet_0, mGet_1, mSet_1, mGet_2, mSet_2, mGet_3, mSet_3, mGet_4, mSet_4, mGet_5, mSet_5, mGet_6, mSet_6, mGet_7, mSet_7, mGet_8, mSet_8, mGet_9, mSet_9, mGet_10, mSet_10, mGet_11, mSet_11, mGet_12, mSet_12, mGet_13, mSet_13, a_Mo_nListArcs_21, bk_Mo_nListArcs_21]
  refine l_li2 (fr := fr) (to := to) (rm := rm) D hm hw 168 0 (by omega) (by rw [f1 _ (by omega)]; exact h2) (by rw [f1 _ (by omega)]; exact h3) (by rw [f1 _ (by omega)]; exact h4) (z1 0 (by omega) (by omega)) (fun v v0 v1 => z1 (v + 1) (by omega) (by omega)) (fun I2 f2 y1 y2 => ?_)
  simp (disch := first | omega | exact Nat.le_of_ble_eq_true rfl) only [w_iconst, w_bipush, w_sipush, w_ldc_s, w_ldcw_s, w_ldc_i, w_ldcw_i, w_lconst, w_fconst, w_dconst, w_iload, w_iload_n, w_aload, w_aload_n, w_dload, w_istore, w_istore_n, w_astore_r, w_astore_s, w_astore_n_r, w_astore_n_s, w_dstore, w_iinc, w_iadd, w_isub, w_imul, w_iand, w_iushr, v_idiv, v_irem, w_ineg, w_i2l, w_i2c, w_i2f, w_i2d, v_f2d, w_lcmp, w_dcmp, v_fdiv, v_ddiv, w_dup_i, w_dup_r, w_dup2, w_dup_x2, w_pop_i, w_pop_r, w_goto, w_switch, w_ret_i, v_ret_z, v_ret_c, w_ret_a, w_ret_s, w_ret_f, w_ret_d, w_ret_v, v_iaload, v_baload, v_caload, v_laload, v_aaload, v_iastore, v_bastore, v_castore, v_lastore, v_aastore, v_alen, v_newa, v_anewa, w_new, w_throw, w_dead, v_getf_i, v_getf_z, v_getf_r, v_putf_i, v_putf_z, v_putf_r, w_call0, w_call1, w_callv1, w_calli1, w_callt1, w_call2, w_callv2, w_calli2, w_callt2, w_call3, w_callv3, w_calli3, w_call4, w_callv4, w_calli4, w_call5, w_callv5, w_calli5, w_call6, w_callv6, w_calli6, w_call7, w_callv7, w_calli7, w_call8, w_callv8, w_calli8, c_if0_eq_t, c_if0_eq_f, c_if2_eq_t, c_if2_eq_f, c_if0_ne_t, c_if0_ne_f, c_if2_ne_t, c_if2_ne_f, c_if0_lt_t, c_if0_lt_f, c_if2_lt_t, c_if2_lt_f, c_if0_ge_t, c_if0_ge_f, c_if2_ge_t, c_if2_ge_f, c_if0_gt_t, c_if0_gt_f, c_if2_gt_t, c_if2_gt_f, c_if0_le_t, c_if0_le_f, c_if2_le_t, c_if2_le_f, w_nil, uI_s, uA_r, uA_s, uD_d, mPut_0, mCl_own, mCv_go, mCl_min, mCl_cpy, mCv_obj, mAct_len, mAct_chrc, mAft_v, mAft_n, mAft_x, mGet_0, mSet_0, mGet_1, mSet_1, mGet_2, mSet_2, mGet_3, mSet_3, mGet_4, mSet_4, mGet_5, mSet_5, mGet_6, mSet_6, mGet_7, mSet_7, mGet_8, mSet_8, mGet_9, mSet_9, mGet_10, mSet_10, mGet_11, mSet_11, mGet_12, mSet_12, mGet_13, mSet_13, a_Mo_nListArcs_79, bk_Mo_nListArcs_79]
  refine l_li3 (fr := fr) (to := to) (rm := rm) D hm hw 49 (Int.le_refl 0) (by omega) (fun v v0 v1 => by rw [show v = 0 by omega, y1]; rfl) (fun v v0 v1 => y2 v v0 v1) (fun v v0 v1 => by omega) (fun I3 f3 x1 x2 => ?_)
  simp (disch := first | omega | exact Nat.le_of_ble_eq_true rfl) only [w_iconst, w_bipush, w_sipush, w_ldc_s, w_ldcw_s, w_ldc_i, w_ldcw_i, w_lconst, w_fconst, w_dconst, w_iload, w_iload_n, w_aload, w_aload_n, w_dload, w_istore, w_istore_n, w_astore_r, w_astore_s, w_astore_n_r, w_astore_n_s, w_dstore, w_iinc, w_iadd, w_isub, w_imul, w_iand, w_iushr, v_idiv, v_irem, w_ineg, w_i2l, w_i2c, w_i2f, w_i2d, v_f2d, w_lcmp, w_dcmp, v_fdiv, v_ddiv, w_dup_i, w_dup_r, w_dup2, w_dup_x2, w_pop_i, w_pop_r, w_goto, w_switch, w_ret_i, v_ret_z, v_ret_c, w_ret_a, w_ret_s, w_ret_f, w_ret_d, w_ret_v, v_iaload, v_baload, v_caload, v_laload, v_aaload, v_iastore, v_bastore, v_castore, v_lastore, v_aastore, v_alen, v_newa, v_anewa, w_new, w_throw, w_dead, v_getf_i, v_getf_z, v_getf_r, v_putf_i, v_putf_z, v_putf_r, w_call0, w_call1, w_callv1, w_calli1, w_callt1, w_call2, w_callv2, w_calli2, w_callt2, w_call3, w_callv3, w_calli3, w_call4, w_callv4, w_calli4, w_call5, w_callv5, w_calli5, w_call6, w_callv6, w_calli6, w_call7, w_callv7, w_calli7, w_call8, w_callv8, w_calli8, c_if0_eq_t, c_if0_eq_f, c_if2_eq_t, c_if2_eq_f, c_if0_ne_t, c_if0_ne_f, c_if2_ne_t, c_if2_ne_f, c_if0_lt_t, c_if0_lt_f, c_if2_lt_t, c_if2_lt_f, c_if0_ge_t, c_if0_ge_f, c_if2_ge_t, c_if2_ge_f, c_if0_gt_t, c_if0_gt_f, c_if2_gt_t, c_if2_gt_f, c_if0_le_t, c_if0_le_f, c_if2_le_t, c_if2_le_f, w_nil, uI_s, uA_r, uA_s, uD_d, mPut_0, mCl_own, mCv_go, mCl_min, mCl_cpy, mCv_obj, mAct_len, mAct_chrc, mAft_v, mAft_n, mAft_x, mGet_0, mSet_0, mGet_1, mSet_1, mGet_2, mSet_2, mGet_3, mSet_3, mGet_4, mSet_4, mGet_5, mSet_5, mGet_6, mSet_6, mGet_7, mSet_7, mGet_8, mSet_8, mGet_9, mSet_9, mGet_10, mSet_10, mGet_11, mSet_11, mGet_12, mSet_12, mGet_13, mSet_13, a_Mo_nListArcs_122, bk_Mo_nListArcs_122]
  have g : ∀ a : Int, a ≠ m + 7 → a ≠ m + 10 → I3 a = I a := fun a a1 a2 => by rw [f3 a a1 a2, f2 a a1, f1 a a1]
  refine l_li4 (fr := fr) (to := to) (rm := rm) D hm hw 168 0 (by omega) (by rw [g _ (by omega) (by omega)]; exact h2) (by rw [g _ (by omega) (by omega)]; exact h3) (by rw [g _ (by omega) (by omega)]; exact h4) ⟨x1, fun v v0 v1 => ?_, fun v p v0 v1 p0 p1 => ?_, fun a v a0 a1 _ _ => by omega⟩ (fun I4 f4 hF => ?_)
  · rw [x2 v v0 v1]; show _ = kB fr to rm v + 0; omega
  · have : kT fr to rm 0 v = 0 := rfl
    omega
  · obtain ⟨g1, g2, g3, g4⟩ := hF
    refine k I4 (fun a a1 a2 a3 => by rw [f4 a a2 a3, g a a1 a3]) ⟨fun v v0 v1 => ?_, fun v p v0 v1 p0 p1 => ?_, fun a v a0 a1 ha hav => ?_⟩
    · rw [g1 v v0 (by omega), g1 (v + 1) (by omega) (by omega)]
      have b1 := kB_s (fr := fr) (to := to) (rm := rm) v0
      have b2 := kT_bd hw (v := v) 168 (Nat.le_refl _)
      exact ⟨kB_nn hw v0, by omega, kB_top hw (by omega) (by omega)⟩
    · rw [g1 v v0 (by omega)] at p0
      rw [g1 (v + 1) (by omega) (by omega), kB_s v0] at p1
      exact g3 v p v0 (by omega) p0 p1
    · have hv : 0 ≤ v ∧ v < 49 := by
        obtain ⟨q1, q2, -⟩ := hw a a0 a1 ha
        rcases hav with h9 | h9 <;> omega
      obtain ⟨p, q0, q1, q2⟩ := g4 a v a0 (by omega) ha hav
      exact ⟨p, by rw [g1 v hv.1 (by omega)]; exact q0, by rw [g1 (v + 1) (by omega) (by omega), kB_s hv.1]; exact q1, q2⟩
end KA
