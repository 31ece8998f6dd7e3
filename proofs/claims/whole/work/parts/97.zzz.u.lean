/-! Call 11 by the model. -/
section ZW2
variable {S : mH} {I : mN} {m z : Int} {G : gT} {Q : mQ} (D : Nat)
/-- what the taking of a text may change -/
def zFx (I I' : mN) (m : Int) : Prop := (∀ a : Int, a ≠ m → (a < m + 33 ∨ m + 39 < a) → a ≠ m + 41 → I' a = I a) ∧ ∀ k : Int, k ≠ 1 → (k < 46 ∨ 51 < k) → (k < 55 ∨ 62 < k) → I' m k = I m k
theorem zFx_t {I I' I'' : mN} {m : Int} (h : zFx I I' m) (h' : zFx I' I'' m) : zFx I I'' m := ⟨fun a a0 a1 a2 => (h'.1 a a0 a1 a2).trans (h.1 a a0 a1 a2), fun k k0 k1 k2 => (h'.2 k k0 k1 k2).trans (h.2 k k0 k1 k2)⟩
theorem zFx_u {I : mN} {m k v : Int} (hk : k = 1 ∨ (55 ≤ k ∧ k ≤ 62)) : zFx I (mUp I m k v) m := ⟨fun b hb _ _ => up_fa hb, fun j h1 _ h3 => up_nk (by omega)⟩
theorem zFx_f {I I' : mN} {m : Int} (h : zFt I I' m) : zFx I I' m := ⟨fun a a0 _ _ => h.1 a a0, fun k _ _ k2 => h.2 k (by omega)⟩
theorem zFx_q {I I' : mN} {m : Int} (h : zFq I I' m) : zFx I I' m := ⟨fun a a0 a1 a2 => h.1 a a0 a1 a2, fun k k0 k1 k2 => h.2 k k1 (by omega) (by omega)⟩
theorem oR_cl {I' : mN} {z' e : Int} (hg : gWf G) (h : oR (mSx S m z) I m G) (hf : zFx I I' m) (h1 : I' m 55 = 0) (h2 : I' m 61 = e) : oR (mSx S m z') I' m (gCl G e) := by
  obtain ⟨hm, hC, h3, h4, ⟨h50, h51, h52, h53⟩, h6, h7, h8, h9⟩ := h
  have ee : ∀ a : Int, a ≠ m → (a < m + 33 ∨ m + 39 < a) → a ≠ m + 41 → I' a = I a := hf.1
  have ef : ∀ k : Int, k ≠ 1 → k < 46 → I' m k = I m k := fun k k0 k1 => hf.2 k k0 (by omega) (by omega)
  rw [← gO_cl (e := e) hg] at hC
  refine ⟨yM_x (yM_u hm), ⟨by rw [ee (m + 1) (by omega) (by omega) (by omega)]; exact hC.1, fun s s0 s1 => ?_, kWo_k hC.2.2 (ef 17 (by decide) (by decide)) (ee _ (by omega) (by omega) (by omega)) (ee _ (by omega) (by omega) (by omega)) (ee _ (by omega) (by omega) (by omega))⟩, ?_, ?_, ⟨?_, ?_, ?_, ?_⟩, ?_, ⟨h1, h2, fun i i0 i1 => ?_⟩, ?_, ?_⟩
  · rw [ee (m + 16) (by omega) (by omega) (by omega), ee (m + 13 + s) (by omega) (by omega) (by omega)]; exact hC.2.1 s s0 s1
  · rw [ee (m + 22) (by omega) (by omega) (by omega)]
    intro k j k0 k1 j0 j1 hkj
    have e2 : (gCl G e).1 (20 + k) = G.1 (20 + k) := gCl_1 (by omega) (by omega)
    have e3 : (gCl G e).1 (10 + k) = G.1 (10 + k) := gCl_1 (by omega) (by omega)
    rw [e2] at j1
    rw [e3] at hkj
    exact h3 k j k0 k1 j0 j1 hkj
  · intro k k0 k1
    have e2 : (gCl G e).1 (20 + k) = G.1 (20 + k) := gCl_1 (by omega) (by omega)
    have e3 : (gCl G e).1 (10 + k) = G.1 (10 + k) := gCl_1 (by omega) (by omega)
    rw [e2, e3, ee (m + 23) (by omega) (by omega) (by omega), ee (m + 24) (by omega) (by omega) (by omega)]
    exact h4 k k0 k1
  · rw [ef 26 (by decide) (by decide)]; exact h50
  · rw [ef 27 (by decide) (by decide)]; exact h51
  · rw [ef 28 (by decide) (by decide)]; exact h52
  · rw [ef 29 (by decide) (by decide)]; exact h53
  · rw [ee (m + 20) (by omega) (by omega) (by omega)]; exact h6
  · have i1 : i < 0 := i1
    omega
  · rw [hf.2 64 (by decide) (by decide) (by decide), ee (m + 43) (by omega) (by omega) (by omega)]; exact h8
  · rw [ee (m + 25) (by omega) (by omega) (by omega), ee (m + 42) (by omega) (by omega) (by omega), ee (m + 44) (by omega) (by omega) (by omega)]; exact h9
theorem l_lays {sA i n : Int} {tk : Int → Int} (hm : yM S m) (hk : S.2.1 sA = 50) (hl : S.2.2.1 sA = 1395) (h1 : sA ≠ m) (h2 : sA ≠ m + 41) (i0 : 0 ≤ i) (i1 : i < 10) (n0 : 0 ≤ n) (n6 : n ≤ 60) {I0 : mN} (k : ∀ I' : mN, (∀ a : Int, a ≠ sA → I' a = I0 a) → (∀ c : Int, I' sA c = sDcr (I0 sA) i n tk c) → Q (.inl none) I' S) :
    ∀ (c : Nat) (j : Int) (I : mN), j + c = 60 → 0 ≤ j → I m 62 = n → (∀ t : Int, 0 ≤ t → t < n → I (m + 41) t = tk t) → (∀ a : Int, a ≠ sA → I a = I0 a) → (∀ c : Int, I sA c = if c = 266 + 76 * i then n else if 275 + 76 * i ≤ c ∧ c < 275 + 76 * i + j then (if c - (275 + 76 * i) < n then tk (c - (275 + 76 * i)) else 0) else I0 sA c) → mAt (mRun D) 329 22 ([some (mR m), some (mR sA), some (mI i), some (mI (259 + 76 * i)), some (mI j)], [], I, S) Q
  | 0, j, I, hc, j0, h62, h41, ho, hs => by
    obtain rfl : j = 60 := by omega
    rw [a_Mo_laysDecree_22]
    simp (disch := first | omega | exact Nat.le_of_ble_eq_true rfl) only [w_iconst, w_bipush, w_sipush, w_ldc_s, w_ldcw_s, w_ldc_i, w_ldcw_i, w_lconst, w_fconst, w_dconst, w_iload, w_iload_n, w_aload, w_aload_n, w_dload, w_istore, w_istore_n, w_astore_r, w_astore_s, w_astore_n_r, w_astore_n_s, w_dstore, w_iinc, w_iadd, w_isub, w_imul, w_iand, w_iushr, v_idiv, v_irem, w_ineg, w_i2l, w_i2c, w_i2f, w_i2d, v_f2d, w_lcmp, w_dcmp, v_fdiv, v_ddiv, w_dup_i, w_dup_r, w_dup2, w_dup_x2, w_pop_i, w_pop_r, w_goto, w_switch, w_ret_i, v_ret_z, v_ret_c, w_ret_a, w_ret_s, w_ret_f, w_ret_d, w_ret_v, v_iaload, v_baload, v_caload, v_laload, v_aaload, v_iastore, v_bastore, v_castore, v_lastore, v_aastore, v_alen, v_newa, v_anewa, w_new, w_throw, w_dead, v_getf_i, v_getf_z, v_getf_r, v_putf_i, v_putf_z, v_putf_r, w_call0, w_call1, w_callv1, w_calli1, w_callt1, w_call2, w_callv2, w_calli2, w_callt2, w_call3, w_callv3, w_calli3, w_call4, w_callv4, w_calli4, w_call5, w_callv5, w_calli5, w_call6, w_callv6, w_calli6, w_call7, w_callv7, w_calli7, w_call8, w_callv8, w_calli8, c_if0_eq_t, c_if0_eq_f, c_if2_eq_t, c_if2_eq_f, c_if0_ne_t, c_if0_ne_f, c_if2_ne_t, c_if2_ne_f, c_if0_lt_t, c_if0_lt_f, c_if2_lt_t, c_if2_lt_f, c_if0_ge_t, c_if0_ge_f, c_if2_ge_t, c_if2_ge_f, c_if0_gt_t, c_if0_gt_f, c_if2_gt_t, c_if2_gt_f, c_if0_le_t, c_if0_le_f, c_if2_le_t, c_if2_le_f, w_nil, uI_s, uA_r, uA_s, uD_d, mPut_0, mCl_own, mCv_go, mCl_min, mCl_cpy, mCv_obj, mAct_len, mAct_chrc, mAft_v, mAft_n, mAft_x, mGet_0, mSet_0, mGet_1, mSet_1, mGet_2, mSet_2, mGet_3, mSet_3, mGet_4, mSet_4, mGet_5, mSet_5, mGet_6, mSet_6, mGet_7, mSet_7, mGet_8, mSet_8, mGet_9, mSet_9, mGet_10, mSet_10, mGet_11, mSet_11, mGet_12, mSet_12, mGet_13, mSet_13, bk_Mo_laysDecree_22, a_Mo_laysDecree_64, bk_Mo_laysDecree_64]
    refine k I ho (fun c => ?_)
    rw [hs c]
    unfold sDcr
    rw [show 275 + 76 * i + 60 = 335 + 76 * i by omega]
  | c + 1, j, I, hc, j0, h62, h41, ho, hs => by
    have go : ∀ v : Int, v = (if j < n then tk j else 0) → mAt (mRun D) 329 22 ([some (mR m), some (mR sA), some (mI i), some (mI (259 + 76 * i)), some (mI (j + 1))], [], mUp I sA (259 + 76 * i + 16 + j) v, S) Q := fun v hv => by
      refine l_lays hm hk hl h1 h2 i0 i1 n0 n6 k c (j + 1) _ (by omega) (by omega) (by rw [up_fa (Ne.symm h1)]; exact h62) (fun t t0 t1 => by rw [up_fa (Ne.symm h2)]; exact h41 t t0 t1) (fun a ha => by rw [up_fa ha]; exact ho a ha) (fun c => ?_)
      by_cases q : c = 259 + 76 * i + 16 + j
      · rw [q, up_eq rfl rfl, if_neg (by omega), if_pos (by omega), hv, show 259 + 76 * i + 16 + j - (275 + 76 * i) = j by omega]
      · rw [up_nk q, hs c]
        by_cases q1 : c = 266 + 76 * i
        · rw [if_pos q1, if_pos q1]
        · rw [if_neg q1, if_neg q1]
          by_cases q2 : 275 + 76 * i ≤ c ∧ c < 275 + 76 * i + j
          · rw [if_pos q2, if_pos (show 275 + 76 * i ≤ c ∧ c < 275 + 76 * i + (j + 1) by omega)]
          · rw [if_neg q2, if_neg (by omega)]
    rw [a_Mo_laysDecree_22]
    by_cases cj : j < n
    · have hv := h41 j j0 cj
      have g9 := go (tk j) (by rw [if_pos cj])
      simp (disch := first | omega | exact Nat.le_of_ble_eq_true rfl | (simp (disch := omega) only [ym_k hm, ym_53 hm, ym_k53 hm, ym_l53 hm, h62] <;> omega)) only [w_iconst, w_bipush, w_sipush, w_ldc_s, w_ldcw_s, w_ldc_i, w_ldcw_i, w_lconst, w_fconst, w_dconst, w_iload, w_iload_n, w_aload, w_aload_n, w_dload, w_istore, w_istore_n, w_astore_r, w_astore_s, w_astore_n_r, w_astore_n_s, w_dstore, w_iinc, w_iadd, w_isub, w_imul, w_iand, w_iushr, v_idiv, v_irem, w_ineg, w_i2l, w_i2c, w_i2f, w_i2d, v_f2d, w_lcmp, w_dcmp, v_fdiv, v_ddiv, w_dup_i, w_dup_r, w_dup2, w_dup_x2, w_pop_i, w_pop_r, w_goto, w_switch, w_ret_i, v_ret_z, v_ret_c, w_ret_a, w_ret_s, w_ret_f, w_ret_d, w_ret_v, v_iaload, v_baload, v_caload, v_laload, v_aaload, v_iastore, v_bastore, v_castore, v_lastore, v_aastore, v_alen, v_newa, v_anewa, w_new, w_throw, w_dead, v_getf_i, v_getf_z, v_getf_r, v_putf_i, v_putf_z, v_putf_r, w_call0, w_call1, w_callv1, w_calli1, w_callt1, w_call2, w_callv2, w_calli2, w_callt2, w_call3, w_callv3, w_calli3, w_call4, w_callv4, w_calli4, w_call5, w_callv5, w_calli5, w_call6, w_callv6, w_calli6, w_call7, w_callv7, w_calli7, w_call8, w_callv8, w_calli8, c_if0_eq_t, c_if0_eq_f, c_if2_eq_t, c_if2_eq_f, c_if0_ne_t, c_if0_ne_f, c_if2_ne_t, c_if2_ne_f, c_if0_lt_t, c_if0_lt_f, c_if2_lt_t, c_if2_lt_f, c_if0_ge_t, c_if0_ge_f, c_if2_ge_t, c_if2_ge_f, c_if0_gt_t, c_if0_gt_f, c_if2_gt_t, c_if2_gt_f, c_if0_le_t, c_if0_le_f, c_if2_le_t, c_if2_le_f, w_nil, uI_s, uA_r, uA_s, uD_d, mPut_0, mCl_own, mCv_go, mCl_min, mCl_cpy, mCv_obj, mAct_len, mAct_chrc, mAft_v, mAft_n, mAft_x, mGet_0, mSet_0, mGet_1, mSet_1, mGet_2, mSet_2, mGet_3, mSet_3, mGet_4, mSet_4, mGet_5, mSet_5, mGet_6, mSet_6, mGet_7, mSet_7, mGet_8, mSet_8, mGet_9, mSet_9, mGet_10, mSet_10, mGet_11, mSet_11, mGet_12, mSet_12, mGet_13, mSet_13, bk_Mo_laysDecree_22, a_Mo_laysDecree_57, bk_Mo_laysDecree_57, ym_k hm, ym_53 hm, ym_k53 hm, ym_l53 hm, hk, hl, h62, hv, wr]
      exact g9
    · have g9 := go 0 (by rw [if_neg cj])
      simp (disch := first | omega | exact Nat.le_of_ble_eq_true rfl | (simp (disch := omega) only [ym_k hm, ym_53 hm, ym_k53 hm, ym_l53 hm, h62] <;> omega)) only [w_iconst, w_bipush, w_sipush, w_ldc_s, w_ldcw_s, w_ldc_i, w_ldcw_i, w_lconst, w_fconst, w_dconst, w_iload, w_iload_n, w_aload, w_aload_n, w_dload, w_istore, w_istore_n, w_astore_r, w_astore_s, w_astore_n_r, w_astore_n_s, w_dstore, w_iinc, w_iadd, w_isub, w_imul, w_iand, w_iushr, v_idiv, v_irem, w_ineg, w_i2l, w_i2c, w_i2f, w_i2d, v_f2d, w_lcmp, w_dcmp, v_fdiv, v_ddiv, w_dup_i, w_dup_r, w_dup2, w_dup_x2, w_pop_i, w_pop_r, w_goto, w_switch, w_ret_i, v_ret_z, v_ret_c, w_ret_a, w_ret_s, w_ret_f, w_ret_d, w_ret_v, v_iaload, v_baload, v_caload, v_laload, v_aaload, v_iastore, v_bastore, v_castore, v_lastore, v_aastore, v_alen, v_newa, v_anewa, w_new, w_throw, w_dead, v_getf_i, v_getf_z, v_getf_r, v_putf_i, v_putf_z, v_putf_r, w_call0, w_call1, w_callv1, w_calli1, w_callt1, w_call2, w_callv2, w_calli2, w_callt2, w_call3, w_callv3, w_calli3, w_call4, w_callv4, w_calli4, w_call5, w_callv5, w_calli5, w_call6, w_callv6, w_calli6, w_call7, w_callv7, w_calli7, w_call8, w_callv8, w_calli8, c_if0_eq_t, c_if0_eq_f, c_if2_eq_t, c_if2_eq_f, c_if0_ne_t, c_if0_ne_f, c_if2_ne_t, c_if2_ne_f, c_if0_lt_t, c_if0_lt_f, c_if2_lt_t, c_if2_lt_f, c_if0_ge_t, c_if0_ge_f, c_if2_ge_t, c_if2_ge_f, c_if0_gt_t, c_if0_gt_f, c_if2_gt_t, c_if2_gt_f, c_if0_le_t, c_if0_le_f, c_if2_le_t, c_if2_le_f, w_nil, uI_s, uA_r, uA_s, uD_d, mPut_0, mCl_own, mCv_go, mCl_min, mCl_cpy, mCv_obj, mAct_len, mAct_chrc, mAft_v, mAft_n, mAft_x, mGet_0, mSet_0, mGet_1, mSet_1, mGet_2, mSet_2, mGet_3, mSet_3, mGet_4, mSet_4, mGet_5, mSet_5, mGet_6, mSet_6, mGet_7, mSet_7, mGet_8, mSet_8, mGet_9, mSet_9, mGet_10, mSet_10, mGet_11, mSet_11, mGet_12, mSet_12, mGet_13, mSet_13, bk_Mo_laysDecree_22, a_Mo_laysDecree_56, bk_Mo_laysDecree_56, a_Mo_laysDecree_57, bk_Mo_laysDecree_57, ym_k hm, ym_53 hm, ym_k53 hm, ym_l53 hm, hk, hl, h62, wr]
      exact g9
theorem p_lays {sA i n : Int} {tk : Int → Int} (hm : yM S m) (hk : S.2.1 sA = 50) (hl : S.2.2.1 sA = 1395) (h1 : sA ≠ m) (h2 : sA ≠ m + 41) (i0 : 0 ≤ i) (i1 : i < 10) (n0 : 0 ≤ n) (n6 : n ≤ 60) (h62 : I m 62 = n) (h41 : ∀ t : Int, 0 ≤ t → t < n → I (m + 41) t = tk t) (k : ∀ I' : mN, (∀ a : Int, a ≠ sA → I' a = I a) → (∀ c : Int, I' sA c = sDcr (I sA) i n tk c) → Q (.inl none) I' S) : mRun (D + 1) 329 [mR m, mR sA, mI i] I S Q := by
  simp (disch := first | omega | exact Nat.le_of_ble_eq_true rfl | (simp (disch := omega) only [ym_k hm, ym_53 hm, ym_k53 hm, ym_l53 hm, h62] <;> omega)) only [w_iconst, w_bipush, w_sipush, w_ldc_s, w_ldcw_s, w_ldc_i, w_ldcw_i, w_lconst, w_fconst, w_dconst, w_iload, w_iload_n, w_aload, w_aload_n, w_dload, w_istore, w_istore_n, w_astore_r, w_astore_s, w_astore_n_r, w_astore_n_s, w_dstore, w_iinc, w_iadd, w_isub, w_imul, w_iand, w_iushr, v_idiv, v_irem, w_ineg, w_i2l, w_i2c, w_i2f, w_i2d, v_f2d, w_lcmp, w_dcmp, v_fdiv, v_ddiv, w_dup_i, w_dup_r, w_dup2, w_dup_x2, w_pop_i, w_pop_r, w_goto, w_switch, w_ret_i, v_ret_z, v_ret_c, w_ret_a, w_ret_s, w_ret_f, w_ret_d, w_ret_v, v_iaload, v_baload, v_caload, v_laload, v_aaload, v_iastore, v_bastore, v_castore, v_lastore, v_aastore, v_alen, v_newa, v_anewa, w_new, w_throw, w_dead, v_getf_i, v_getf_z, v_getf_r, v_putf_i, v_putf_z, v_putf_r, w_call0, w_call1, w_callv1, w_calli1, w_callt1, w_call2, w_callv2, w_calli2, w_callt2, w_call3, w_callv3, w_calli3, w_call4, w_callv4, w_calli4, w_call5, w_callv5, w_calli5, w_call6, w_callv6, w_calli6, w_call7, w_callv7, w_calli7, w_call8, w_callv8, w_calli8, c_if0_eq_t, c_if0_eq_f, c_if2_eq_t, c_if2_eq_f, c_if0_ne_t, c_if0_ne_f, c_if2_ne_t, c_if2_ne_f, c_if0_lt_t, c_if0_lt_f, c_if2_lt_t, c_if2_lt_f, c_if0_ge_t, c_if0_ge_f, c_if2_ge_t, c_if2_ge_f, c_if0_gt_t, c_if0_gt_f, c_if2_gt_t, c_if2_gt_f, c_if0_le_t, c_if0_le_f, c_if2_le_t, c_if2_le_f, w_nil, uI_s, uA_r, uA_s, uD_d, mPut_0, mCl_own, mCv_go, mCl_min, mCl_cpy, mCv_obj, mAct_len, mAct_chrc, mAft_v, mAft_n, mAft_x, mGet_0, mSet_0, mGet_1, mSet_1, mGet_2, mSet_2, mGet_3, mSet_3, mGet_4, mSet_4, mGet_5, mSet_5, mGet_6, mSet_6, mGet_7, mSet_7, mGet_8, mSet_8, mGet_9, mSet_9, mGet_10, mSet_10, mGet_11, mSet_11, mGet_12, mSet_12, mGet_13, mSet_13, e_Mo_laysDecree, a_Mo_laysDecree_0, bk_Mo_laysDecree_0, ym_k hm, ym_53 hm, ym_k53 hm, ym_l53 hm, hk, hl, h62, wr]
  refine l_lays D hm hk hl h1 h2 i0 i1 n0 n6 k 60 0 _ rfl (Int.le_refl 0) (by rw [up_fa (Ne.symm h1)]; exact h62) (fun t t0 t1 => by rw [up_fa (Ne.symm h2)]; exact h41 t t0 t1) (fun a ha => up_fa ha) (fun c => ?_)
  by_cases q : c = 266 + 76 * i
  · rw [if_pos q, up_eq rfl (by omega)]
  · rw [if_neg q, up_nk (by omega), if_neg (by omega)]
end ZW2
