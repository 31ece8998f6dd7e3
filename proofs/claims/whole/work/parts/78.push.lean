/-! Water is moved along the way that was found. -/
def nTree (N : zNet) (f st dr re tw via ord : Int → Int) (node : Int) : Prop := ∀ v : Int, 0 ≤ v → v < 48 → re v = 1 → v ≠ node → ((0 ≤ tw v ∧ tw v < 48) ∧ re (tw v) = 1 ∧ (0 ≤ ord (tw v) ∧ ord (tw v) < ord v ∧ ord v < 48)) ∧ zRes N f v (tw v) (via v) ∧ st (via v) = 0 ∧ dr v = 0
theorem nQ_tree {N : zNet} {f st dr : Int → Int} {I : mN} {n node : Int} (h : nQ N f st dr I n node) : ∃ ord : Int → Int, (∀ i : Int, 0 ≤ i → i < I n 13 → ord (I (n + 11) i) = i) ∧ nTree N f st dr (I (n + 10)) (I (n + 13)) (I (n + 12)) ord node := by
  obtain ⟨⟨q1, q2⟩, q3, q4, q5, q6, q7, q8, q9⟩ := h
  have hex : ∃ ord : Int → Int, ∀ i : Int, 0 ≤ i → i < I n 13 → ord (I (n + 11) i) = i := by
    refine ⟨fun v => sm 48 (fun i => if i < I n 13 ∧ I (n + 11) i = v then i else 0), fun i i0 i1 => ?_⟩
    show sm 48 (fun i' => if i' < I n 13 ∧ I (n + 11) i' = I (n + 11) i then i' else 0) = i
    rw [sm_one (k := i) i0 (by omega) (fun j j0 j1 hj => if_neg (fun h9 => ?_)), if_pos ⟨i1, rfl⟩]
    rcases Int.lt_or_gt_of_ne hj with h8 | h8
    · exact q8 j i j0 h8 i1 h9.2
    · exact q8 i j i0 h8 h9.1 h9.2.symm
  obtain ⟨ord, ho⟩ := hex
  refine ⟨ord, ho, ?_⟩
  · intro v v0 v1 hv hne
    obtain ⟨i, i0, i1, rfl⟩ := q7 v v0 v1 hv
    have hi : 1 ≤ i := by
      by_cases h9 : 1 ≤ i
      · exact h9
      · exact absurd (by rw [show i = 0 by omega]; exact q3) hne
    obtain ⟨k1, j, j0, j1, k2, k3, k4⟩ := q9 i hi i1
    rw [k2, ho i i0 i1, ho j j0 (by omega)]
    exact ⟨⟨(q6 j j0 (by omega)).1, (q6 j j0 (by omega)).2, j0, j1, by omega⟩, k3, k4, k1⟩
def nPth (tw : Int → Int) (s : Int) : Nat → Int
  | 0 => s
  | t + 1 => tw (nPth tw s t)
section PU
variable {td : Int} {fr to tm rm su f st sp dr re tw via ord : Int → Int} {n e node src most : Int} {S : mH} {Q : mQ} (D : Nat)
theorem l_push1 : ∀ (c : Nat) {t : Nat} {un : Int} {I : mN} {x7 x8 : Option mV} (hn : yNe S n e) (hw : nWf td fr to tm) (hF : nFix I n td fr to tm rm f st sp dr) (hT : nTree (zN td fr to tm rm su) f st dr re tw via ord node) (htw : I (n + 13) = tw) (hvia : I (n + 12) = via)
    (hrm : ∀ a : Int, 0 ≤ a → a < 120 → rm a ≤ 1000) (hc : zCap (zN td fr to tm rm su) f) (hre : re (nPth tw src t) = 1) (hp : 0 ≤ nPth tw src t ∧ nPth tw src t < 48) (hord : (nPth tw src t ≠ node → ord (nPth tw src t) ≤ c) ∧ (t : Int) + c < 48) (h1 : 1 ≤ un) (hd : ∀ s : Nat, s < t → nPth tw src s ≠ node ∧ un ≤ zLeft (zN td fr to tm rm su) f (nPth tw src s) (via (nPth tw src s)))
    (k : ∀ (T : Nat) (un' : Int) (x5 x6 y7 y8 : Option mV), nPth tw src T = node → 1 ≤ un' → un' ≤ un → (T : Int) < 48 → (∀ s : Nat, s < T → nPth tw src s ≠ node ∧ un' ≤ zLeft (zN td fr to tm rm su) f (nPth tw src s) (via (nPth tw src s))) → mAt (mRun (D + 1)) 56 119 ([some (mR n), some (mI src), some (mI node), some (mI most), some (mI un'), x5, x6, y7, y8], [], I, S) Q),
    mAt (mRun (D + 1)) 56 28 ([some (mR n), some (mI src), some (mI node), some (mI most), some (mI un), some (mI (nPth tw src t)), some (mI (t : Int)), x7, x8], [], I, S) Q
  | c, t, un, I, x7, x8, hn, hw, hF, hT, htw, hvia, hrm, hc, hre, hp, hord, h1, hd, k => by
    obtain ⟨f1, f2, f3, f4, f5, f6, f7, f8, f9⟩ := id hF
    obtain ⟨p0, p1⟩ := hp
    by_cases hne : nPth tw src t = node
    · have hlt : (t : Int) < 48 := by omega
      simp (disch := first | omega | exact Nat.le_of_ble_eq_true rfl | (simp (disch := omega) only [yn_k hn, yn_14 hn, yn_k14 hn, yn_l14 hn, yn_15 hn, yn_k15 hn, yn_l15 hn] <;> omega)) only [w_iconst, w_bipush, w_sipush, w_ldc_s, w_ldcw_s, w_ldc_i, w_ldcw_i, w_lconst, w_fconst, w_dconst, w_iload, w_iload_n, w_aload, w_aload_n, w_dload, w_istore, w_istore_n, w_astore_r, w_astore_s, w_astore_n_r, w_astore_n_s, w_dstore, w_iinc, w_iadd, w_isub, w_imul, w_iand, w_iushr, v_idiv, v_irem, w_ineg, w_i2l, w_i2c, w_i2f, w_i2d, v_f2d, w_lcmp, w_dcmp, v_fdiv, v_ddiv, w_dup_i, w_dup_r, w_dup2, w_dup_x2, w_pop_i, w_pop_r, w_goto, w_switch, w_ret_i, v_ret_z, v_ret_c, w_ret_a, w_ret_s, w_ret_f, w_ret_d, w_ret_v, v_iaload, v_baload, v_caload, v_laload, v_aaload, v_iastore, v_bastore, v_castore, v_lastore, v_aastore, v_alen, v_newa, v_anewa, w_new, w_throw, w_dead, v_getf_i, v_getf_z, v_getf_r, v_putf_i, v_putf_z, v_putf_r, w_call0, w_call1, w_callv1, w_calli1, w_callt1, w_call2, w_callv2, w_calli2, w_callt2, w_call3, w_callv3, w_calli3, w_call4, w_callv4, w_calli4, w_call5, w_callv5, w_calli5, w_call6, w_callv6, w_calli6, w_call7, w_callv7, w_calli7, w_call8, w_callv8, w_calli8, c_if0_eq_t, c_if0_eq_f, c_if2_eq_t, c_if2_eq_f, c_if0_ne_t, c_if0_ne_f, c_if2_ne_t, c_if2_ne_f, c_if0_lt_t, c_if0_lt_f, c_if2_lt_t, c_if2_lt_f, c_if0_ge_t, c_if0_ge_f, c_if2_ge_t, c_if2_ge_f, c_if0_gt_t, c_if0_gt_f, c_if2_gt_t, c_if2_gt_f, c_if0_le_t, c_if0_le_f, c_if2_le_t, c_if2_le_f, w_nil, uI_s, uA_r, uA_s, uD_d, mPut_0, mCl_own, mCv_go, mCl_min, mCl_cpy, mCv_obj, mAct_len, mAct_chrc, mAft_v, mAft_n, mAft_x, mGet_0, mSet_0, mGet_1, mSet_1, mGet_2, mSet_2, mGet_3, mSet_3, mGet_4, mSet_4, mGet_5, mSet_5, mGet_6, mSet_6, mGet_7, mSet_7, mGet_8, mSet_8, mGet_9, mSet_9, mGet_10, mSet_10, mGet_11, mSet_11, mGet_12, mSet_12, mGet_13, mSet_13, a_Ne_push_28, bk_Ne_push_28, yn_k hn, yn_14 hn, yn_k14 hn, yn_l14 hn, yn_15 hn, yn_k15 hn, yn_l15 hn]
      exact k t un _ _ _ _ hne h1 (Int.le_refl _) hlt hd
    · obtain ⟨⟨⟨g0, g1⟩, g2, g3, g4, g5⟩, hr, hs, hdr⟩ := hT _ p0 p1 hre hne
      have hcpos : ord (nPth tw src t) ≤ c := hord.1 hne
      obtain ⟨c, rfl⟩ : ∃ c', c = c' + 1 := ⟨c - 1, by omega⟩
      have hlt : (t : Int) < 48 := by omega
      obtain ⟨⟨a0, a1⟩, hl, -⟩ := id hr
      have hl' := hl
      rw [zN_lv] at hl'
      have hcap := hc _ a0 a1 hl
      have hrm1 := hrm _ a0 a1
      have hpos := zRes_left hr
      have hwc := (hw.2 (via (nPth tw src t) / 8) (by omega) (by omega)).1
      have hfr0 : -1 ≤ fr (via (nPth tw src t) / 8) ∧ fr (via (nPth tw src t) / 8) < 6 := by rcases hwc with ⟨h, -⟩ | ⟨h, -⟩ <;> omega
      obtain ⟨r0, r1⟩ := hfr0
      have hcap0 : 0 ≤ f (via (nPth tw src t)) := hcap.1
      have hcap1 : f (via (nPth tw src t)) ≤ rm (via (nPth tw src t)) := hcap.2
      have key : ∀ lf : Int, lf = zLeft (zN td fr to tm rm su) f (nPth tw src t) (via (nPth tw src t)) → mAt (mRun (D + 1)) 56 86 ([some (mR n), some (mI src), some (mI node), some (mI most), some (mI un), some (mI (nPth tw src t)), some (mI (t : Int)), some (mI (via (nPth tw src t))), x8], [mI lf], I, S) Q := by
        intro lf hlf
        rw [← hlf] at hpos
        have fin : ∀ un' : Int, 1 ≤ un' → un' ≤ un → un' ≤ lf → mAt (mRun (D + 1)) 56 102 ([some (mR n), some (mI src), some (mI node), some (mI most), some (mI un), some (mI (nPth tw src t)), some (mI (t : Int)), some (mI (via (nPth tw src t))), some (mI lf)], [mI un'], I, S) Q := by
          intro un' u1 u2 u3
          simp (disch := first | omega | exact Nat.le_of_ble_eq_true rfl | (simp (disch := omega) only [yn_k hn, yn_14 hn, yn_k14 hn, yn_l14 hn, yn_15 hn, yn_k15 hn, yn_l15 hn] <;> omega)) only [w_iconst, w_bipush, w_sipush, w_ldc_s, w_ldcw_s, w_ldc_i, w_ldcw_i, w_lconst, w_fconst, w_dconst, w_iload, w_iload_n, w_aload, w_aload_n, w_dload, w_istore, w_istore_n, w_astore_r, w_astore_s, w_astore_n_r, w_astore_n_s, w_dstore, w_iinc, w_iadd, w_isub, w_imul, w_iand, w_iushr, v_idiv, v_irem, w_ineg, w_i2l, w_i2c, w_i2f, w_i2d, v_f2d, w_lcmp, w_dcmp, v_fdiv, v_ddiv, w_dup_i, w_dup_r, w_dup2, w_dup_x2, w_pop_i, w_pop_r, w_goto, w_switch, w_ret_i, v_ret_z, v_ret_c, w_ret_a, w_ret_s, w_ret_f, w_ret_d, w_ret_v, v_iaload, v_baload, v_caload, v_laload, v_aaload, v_iastore, v_bastore, v_castore, v_lastore, v_aastore, v_alen, v_newa, v_anewa, w_new, w_throw, w_dead, v_getf_i, v_getf_z, v_getf_r, v_putf_i, v_putf_z, v_putf_r, w_call0, w_call1, w_callv1, w_calli1, w_callt1, w_call2, w_callv2, w_calli2, w_callt2, w_call3, w_callv3, w_calli3, w_call4, w_callv4, w_calli4, w_call5, w_callv5, w_calli5, w_call6, w_callv6, w_calli6, w_call7, w_callv7, w_calli7, w_call8, w_callv8, w_calli8, c_if0_eq_t, c_if0_eq_f, c_if2_eq_t, c_if2_eq_f, c_if0_ne_t, c_if0_ne_f, c_if2_ne_t, c_if2_ne_f, c_if0_lt_t, c_if0_lt_f, c_if2_lt_t, c_if2_lt_f, c_if0_ge_t, c_if0_ge_f, c_if2_ge_t, c_if2_ge_f, c_if0_gt_t, c_if0_gt_f, c_if2_gt_t, c_if2_gt_f, c_if0_le_t, c_if0_le_f, c_if2_le_t, c_if2_le_f, w_nil, uI_s, uA_r, uA_s, uD_d, mPut_0, mCl_own, mCv_go, mCl_min, mCl_cpy, mCv_obj, mAct_len, mAct_chrc, mAft_v, mAft_n, mAft_x, mGet_0, mSet_0, mGet_1, mSet_1, mGet_2, mSet_2, mGet_3, mSet_3, mGet_4, mSet_4, mGet_5, mSet_5, mGet_6, mSet_6, mGet_7, mSet_7, mGet_8, mSet_8, mGet_9, mSet_9, mGet_10, mSet_10, mGet_11, mSet_11, mGet_12, mSet_12, mGet_13, mSet_13, a_Ne_push_102, bk_Ne_push_102, yn_k hn, yn_14 hn, yn_k14 hn, yn_l14 hn, yn_15 hn, yn_k15 hn, yn_l15 hn, htw, wr]
          refine l_push1 c (t := t + 1) (un := un') hn hw hF hT htw hvia hrm hc g2 ⟨g0, g1⟩ ⟨fun h9 => ?_, by omega⟩ u1 (fun s hs' => ?_) (fun T un2 x5 x6 y7 y8 k1 k2 k3 k4 k5 => k T un2 x5 x6 y7 y8 k1 k2 (Int.le_trans k3 u2) k4 k5)
          · show ord (tw (nPth tw src t)) ≤ _
            omega
          · by_cases hst' : s = t
            · subst hst'; exact ⟨hne, by rw [← hlf]; exact u3⟩
            · obtain ⟨d1, d2⟩ := hd s (by omega)
              exact ⟨d1, Int.le_trans u2 d2⟩
        by_cases hcmp : lf < un
        · simp (disch := first | omega | exact Nat.le_of_ble_eq_true rfl) only [w_iconst, w_bipush, w_sipush, w_ldc_s, w_ldcw_s, w_ldc_i, w_ldcw_i, w_lconst, w_fconst, w_dconst, w_iload, w_iload_n, w_aload, w_aload_n, w_dload, w_istore, w_istore_n, w_astore_r, w_astore_s, w_astore_n_r, w_astore_n_s, w_dstore, w_iinc, w_iadd, w_isub, w_imul, w_iand, w_iushr, v_idiv, v_irem, w_ineg, w_i2l, w_i2c, w_i2f, w_i2d, v_f2d, w_lcmp, w_dcmp, v_fdiv, v_ddiv, w_dup_i, w_dup_r, w_dup2, w_dup_x2, w_pop_i, w_pop_r, w_goto, w_switch, w_ret_i, v_ret_z, v_ret_c, w_ret_a, w_ret_s, w_ret_f, w_ret_d, w_ret_v, v_iaload, v_baload, v_caload, v_laload, v_aaload, v_iastore, v_bastore, v_castore, v_lastore, v_aastore, v_alen, v_newa, v_anewa, w_new, w_throw, w_dead, v_getf_i, v_getf_z, v_getf_r, v_putf_i, v_putf_z, v_putf_r, w_call0, w_call1, w_callv1, w_calli1, w_callt1, w_call2, w_callv2, w_calli2, w_callt2, w_call3, w_callv3, w_calli3, w_call4, w_callv4, w_calli4, w_call5, w_callv5, w_calli5, w_call6, w_callv6, w_calli6, w_call7, w_callv7, w_calli7, w_call8, w_callv8, w_calli8, c_if0_eq_t, c_if0_eq_f, c_if2_eq_t, c_if2_eq_f, c_if0_ne_t, c_if0_ne_f, c_if2_ne_t, c_if2_ne_f, c_if0_lt_t, c_if0_lt_f, c_if2_lt_t, c_if2_lt_f, c_if0_ge_t, c_if0_ge_f, c_if2_ge_t, c_if2_ge_f, c_if0_gt_t, c_if0_gt_f, c_if2_gt_t, c_if2_gt_f, c_if0_le_t, c_if0_le_f, c_if2_le_t, c_if2_le_f, w_nil, uI_s, uA_r, uA_s, uD_d, mPut_0, mCl_own, mCv_go, mCl_min, mCl_cpy, mCv_obj, mAct_len, mAct_chrc, mAft_v, mAft_n, mAft_x, mGet_0, mSet_0, mGet_1, mSet_1, mGet_2, mSet_2, mGet_3, mSet_3, mGet_4, mSet_4, mGet_5, mSet_5, mGet_6, mSet_6, mGet_7, mSet_7, mGet_8, mSet_8, mGet_9, mSet_9, mGet_10, mSet_10, mGet_11, mSet_11, mGet_12, mSet_12, mGet_13, mSet_13, a_Ne_push_86, bk_Ne_push_86]
          exact fin lf (by omega) (by omega) (Int.le_refl _)
        · simp (disch := first | omega | exact Nat.le_of_ble_eq_true rfl) only [w_iconst, w_bipush, w_sipush, w_ldc_s, w_ldcw_s, w_ldc_i, w_ldcw_i, w_lconst, w_fconst, w_dconst, w_iload, w_iload_n, w_aload, w_aload_n, w_dload, w_istore, w_istore_n, w_astore_r, w_astore_s, w_astore_n_r, w_astore_n_s, w_dstore, w_iinc, w_iadd, w_isub, w_imul, w_iand, w_iushr, v_idiv, v_irem, w_ineg, w_i2l, w_i2c, w_i2f, w_i2d, v_f2d, w_lcmp, w_dcmp, v_fdiv, v_ddiv, w_dup_i, w_dup_r, w_dup2, w_dup_x2, w_pop_i, w_pop_r, w_goto, w_switch, w_ret_i, v_ret_z, v_ret_c, w_ret_a, w_ret_s, w_ret_f, w_ret_d, w_ret_v, v_iaload, v_baload, v_caload, v_laload, v_aaload, v_iastore, v_bastore, v_castore, v_lastore, v_aastore, v_alen, v_newa, v_anewa, w_new, w_throw, w_dead, v_getf_i, v_getf_z, v_getf_r, v_putf_i, v_putf_z, v_putf_r, w_call0, w_call1, w_callv1, w_calli1, w_callt1, w_call2, w_callv2, w_calli2, w_callt2, w_call3, w_callv3, w_calli3, w_call4, w_callv4, w_calli4, w_call5, w_callv5, w_calli5, w_call6, w_callv6, w_calli6, w_call7, w_callv7, w_calli7, w_call8, w_callv8, w_calli8, c_if0_eq_t, c_if0_eq_f, c_if2_eq_t, c_if2_eq_f, c_if0_ne_t, c_if0_ne_f, c_if2_ne_t, c_if2_ne_f, c_if0_lt_t, c_if0_lt_f, c_if2_lt_t, c_if2_lt_f, c_if0_ge_t, c_if0_ge_f, c_if2_ge_t, c_if2_ge_f, c_if0_gt_t, c_if0_gt_f, c_if2_gt_t, c_if2_gt_f, c_if0_le_t, c_if0_le_f, c_if2_le_t, c_if2_le_f, w_nil, uI_s, uA_r, uA_s, uD_d, mPut_0, mCl_own, mCv_go, mCl_min, mCl_cpy, mCv_obj, mAct_len, mAct_chrc, mAft_v, mAft_n, mAft_x, mGet_0, mSet_0, mGet_1, mSet_1, mGet_2, mSet_2, mGet_3, mSet_3, mGet_4, mSet_4, mGet_5, mSet_5, mGet_6, mSet_6, mGet_7, mSet_7, mGet_8, mSet_8, mGet_9, mSet_9, mGet_10, mSet_10, mGet_11, mSet_11, mGet_12, mSet_12, mGet_13, mSet_13, a_Ne_push_86, bk_Ne_push_86, a_Ne_push_100, bk_Ne_push_100]
          exact fin un h1 (Int.le_refl _) (by omega)
      by_cases htl : fr (via (nPth tw src t) / 8) * 8 + via (nPth tw src t) % 8 = nPth tw src t
      · have e1 : rm (via (nPth tw src t)) - f (via (nPth tw src t)) = zLeft (zN td fr to tm rm su) f (nPth tw src t) (via (nPth tw src t)) := by unfold zLeft; rw [if_pos htl]
        simp (disch := first | omega | exact Nat.le_of_ble_eq_true rfl | (simp (disch := omega) only [yn_k hn, yn_5 hn, yn_k5 hn, yn_l5 hn, yn_6 hn, yn_k6 hn, yn_l6 hn, yn_14 hn, yn_k14 hn, yn_l14 hn, yn_15 hn, yn_k15 hn, yn_l15 hn] <;> omega)) only [w_iconst, w_bipush, w_sipush, w_ldc_s, w_ldcw_s, w_ldc_i, w_ldcw_i, w_lconst, w_fconst, w_dconst, w_iload, w_iload_n, w_aload, w_aload_n, w_dload, w_istore, w_istore_n, w_astore_r, w_astore_s, w_astore_n_r, w_astore_n_s, w_dstore, w_iinc, w_iadd, w_isub, w_imul, w_iand, w_iushr, v_idiv, v_irem, w_ineg, w_i2l, w_i2c, w_i2f, w_i2d, v_f2d, w_lcmp, w_dcmp, v_fdiv, v_ddiv, w_dup_i, w_dup_r, w_dup2, w_dup_x2, w_pop_i, w_pop_r, w_goto, w_switch, w_ret_i, v_ret_z, v_ret_c, w_ret_a, w_ret_s, w_ret_f, w_ret_d, w_ret_v, v_iaload, v_baload, v_caload, v_laload, v_aaload, v_iastore, v_bastore, v_castore, v_lastore, v_aastore, v_alen, v_newa, v_anewa, w_new, w_throw, w_dead, v_getf_i, v_getf_z, v_getf_r, v_putf_i, v_putf_z, v_putf_r, w_call0, w_call1, w_callv1, w_calli1, w_callt1, w_call2, w_callv2, w_calli2, w_callt2, w_call3, w_callv3, w_calli3, w_call4, w_callv4, w_calli4, w_call5, w_callv5, w_calli5, w_call6, w_callv6, w_calli6, w_call7, w_callv7, w_calli7, w_call8, w_callv8, w_calli8, c_if0_eq_t, c_if0_eq_f, c_if2_eq_t, c_if2_eq_f, c_if0_ne_t, c_if0_ne_f, c_if2_ne_t, c_if2_ne_f, c_if0_lt_t, c_if0_lt_f, c_if2_lt_t, c_if2_lt_f, c_if0_ge_t, c_if0_ge_f, c_if2_ge_t, c_if2_ge_f, c_if0_gt_t, c_if0_gt_f, c_if2_gt_t, c_if2_gt_f, c_if0_le_t, c_if0_le_f, c_if2_le_t, c_if2_le_f, w_nil, uI_s, uA_r, uA_s, uD_d, mPut_0, mCl_own, mCv_go, mCl_min, mCl_cpy, mCv_obj, mAct_len, mAct_chrc, mAft_v, mAft_n, mAft_x, mGet_0, mSet_0, mGet_1, mSet_1, mGet_2, mSet_2, mGet_3, mSet_3, mGet_4, mSet_4, mGet_5, mSet_5, mGet_6, mSet_6, mGet_7, mSet_7, mGet_8, mSet_8, mGet_9, mSet_9, mGet_10, mSet_10, mGet_11, mSet_11, mGet_12, mSet_12, mGet_13, mSet_13, a_Ne_push_28, bk_Ne_push_28, yn_k hn, yn_5 hn, yn_k5 hn, yn_l5 hn, yn_6 hn, yn_k6 hn, yn_l6 hn, yn_14 hn, yn_k14 hn, yn_l14 hn, yn_15 hn, yn_k15 hn, yn_l15 hn, hvia, r_leads (I := I) D _ hn a0 a1 (by rw [f2]; exact r0) (by rw [f2]; exact r1), f2, f5, f6, if_pos htl, wr]
        exact key _ e1
      · have e1 : f (via (nPth tw src t)) = zLeft (zN td fr to tm rm su) f (nPth tw src t) (via (nPth tw src t)) := by unfold zLeft; rw [if_neg htl]
        simp (disch := first | omega | exact Nat.le_of_ble_eq_true rfl | (simp (disch := omega) only [yn_k hn, yn_5 hn, yn_k5 hn, yn_l5 hn, yn_6 hn, yn_k6 hn, yn_l6 hn, yn_14 hn, yn_k14 hn, yn_l14 hn, yn_15 hn, yn_k15 hn, yn_l15 hn] <;> omega)) only [w_iconst, w_bipush, w_sipush, w_ldc_s, w_ldcw_s, w_ldc_i, w_ldcw_i, w_lconst, w_fconst, w_dconst, w_iload, w_iload_n, w_aload, w_aload_n, w_dload, w_istore, w_istore_n, w_astore_r, w_astore_s, w_astore_n_r, w_astore_n_s, w_dstore, w_iinc, w_iadd, w_isub, w_imul, w_iand, w_iushr, v_idiv, v_irem, w_ineg, w_i2l, w_i2c, w_i2f, w_i2d, v_f2d, w_lcmp, w_dcmp, v_fdiv, v_ddiv, w_dup_i, w_dup_r, w_dup2, w_dup_x2, w_pop_i, w_pop_r, w_goto, w_switch, w_ret_i, v_ret_z, v_ret_c, w_ret_a, w_ret_s, w_ret_f, w_ret_d, w_ret_v, v_iaload, v_baload, v_caload, v_laload, v_aaload, v_iastore, v_bastore, v_castore, v_lastore, v_aastore, v_alen, v_newa, v_anewa, w_new, w_throw, w_dead, v_getf_i, v_getf_z, v_getf_r, v_putf_i, v_putf_z, v_putf_r, w_call0, w_call1, w_callv1, w_calli1, w_callt1, w_call2, w_callv2, w_calli2, w_callt2, w_call3, w_callv3, w_calli3, w_call4, w_callv4, w_calli4, w_call5, w_callv5, w_calli5, w_call6, w_callv6, w_calli6, w_call7, w_callv7, w_calli7, w_call8, w_callv8, w_calli8, c_if0_eq_t, c_if0_eq_f, c_if2_eq_t, c_if2_eq_f, c_if0_ne_t, c_if0_ne_f, c_if2_ne_t, c_if2_ne_f, c_if0_lt_t, c_if0_lt_f, c_if2_lt_t, c_if2_lt_f, c_if0_ge_t, c_if0_ge_f, c_if2_ge_t, c_if2_ge_f, c_if0_gt_t, c_if0_gt_f, c_if2_gt_t, c_if2_gt_f, c_if0_le_t, c_if0_le_f, c_if2_le_t, c_if2_le_f, w_nil, uI_s, uA_r, uA_s, uD_d, mPut_0, mCl_own, mCv_go, mCl_min, mCl_cpy, mCv_obj, mAct_len, mAct_chrc, mAft_v, mAft_n, mAft_x, mGet_0, mSet_0, mGet_1, mSet_1, mGet_2, mSet_2, mGet_3, mSet_3, mGet_4, mSet_4, mGet_5, mSet_5, mGet_6, mSet_6, mGet_7, mSet_7, mGet_8, mSet_8, mGet_9, mSet_9, mGet_10, mSet_10, mGet_11, mSet_11, mGet_12, mSet_12, mGet_13, mSet_13, a_Ne_push_28, bk_Ne_push_28, a_Ne_push_79, bk_Ne_push_79, yn_k hn, yn_5 hn, yn_k5 hn, yn_l5 hn, yn_6 hn, yn_k6 hn, yn_l6 hn, yn_14 hn, yn_k14 hn, yn_l14 hn, yn_15 hn, yn_k15 hn, yn_l15 hn, hvia, r_leads (I := I) D _ hn a0 a1 (by rw [f2]; exact r0) (by rw [f2]; exact r1), f2, f5, f6, if_neg htl, wr]
        exact key _ e1
set_option maxRecDepth 20000 in
theorem l_push2 {T : Nat} {un : Int} : ∀ (c : Nat) {t : Nat} {g : Int → Int} {I : mN} {x7 x8 : Option mV} (hn : yNe S n e) (hw : nWf td fr to tm) (hF : nFix I n td fr to tm rm g st sp dr) (hT : nTree (zN td fr to tm rm su) f st dr re tw via ord node) (htw : I (n + 13) = tw) (hvia : I (n + 12) = via)
    (hrm : ∀ a : Int, 0 ≤ a → a < 120 → rm a ≤ 1000) (hc : zCap (zN td fr to tm rm su) g) (hu0 : 1 ≤ un) (hu1 : un ≤ 1000000) (hpT : nPth tw src T = node) (hpt : ∀ s : Nat, s < T → nPth tw src s ≠ node ∧ un ≤ zLeft (zN td fr to tm rm su) f (nPth tw src s) (via (nPth tw src s))) (hT48 : (T : Int) < 48) (htc : t + c = T) (hre : re (nPth tw src t) = 1) (hp : 0 ≤ nPth tw src t ∧ nPth tw src t < 48)
    (hex : ∀ w : Int, zEx (zN td fr to tm rm su) g w = zEx (zN td fr to tm rm su) f w + ((if nPth tw src t = w then un else 0) - (if src = w then un else 0)))
    (hsame : ∀ v : Int, 0 ≤ v → v < 48 → re v = 1 → v ≠ node → ord v ≤ ord (nPth tw src t) → g (via v) = f (via v)) (hdrn : dr node = 0)
    (hchg : ∀ a : Int, g a = f a ∨ ((0 ≤ a ∧ a < 120) ∧ (zN td fr to tm rm su).1 a = true ∧ st a = 0 ∧ dr ((zN td fr to tm rm su).2.1 a) = 0 ∧ dr ((zN td fr to tm rm su).2.2.1 a) = 0))
    (k : ∀ (g' : Int → Int) (I' : mN) (x5 x6 y7 y8 : Option mV), nFix I' n td fr to tm rm g' st sp dr → (∀ a : Int, a ≠ n + 5 → I' a = I a) → zCap (zN td fr to tm rm su) g' → (∀ w : Int, zEx (zN td fr to tm rm su) g' w = zEx (zN td fr to tm rm su) f w + ((if node = w then un else 0) - (if src = w then un else 0))) → (∀ a : Int, g' a = f a ∨ ((0 ≤ a ∧ a < 120) ∧ (zN td fr to tm rm su).1 a = true ∧ st a = 0 ∧ dr ((zN td fr to tm rm su).2.1 a) = 0 ∧ dr ((zN td fr to tm rm su).2.2.1 a) = 0)) → mAt (mRun (D + 1)) 56 191 ([some (mR n), some (mI src), some (mI node), some (mI most), some (mI un), x5, x6, y7, y8], [], I', S) Q),
    mAt (mRun (D + 1)) 56 125 ([some (mR n), some (mI src), some (mI node), some (mI most), some (mI un), some (mI (nPth tw src t)), some (mI (t : Int)), x7, x8], [], I, S) Q
  | 0, t, g, I, x7, x8, hn, hw, hF, hT, htw, hvia, hrm, hc, hu0, hu1, hpT, hpt, hT48, htc, hre, hp, hex, hsame, hdrn, hchg, k => by
    obtain rfl : t = T := by omega
    simp (disch := first | omega | exact Nat.le_of_ble_eq_true rfl | (simp (disch := omega) only [yn_k hn, yn_14 hn, yn_k14 hn, yn_l14 hn, yn_15 hn, yn_k15 hn, yn_l15 hn] <;> omega)) only [w_iconst, w_bipush, w_sipush, w_ldc_s, w_ldcw_s, w_ldc_i, w_ldcw_i, w_lconst, w_fconst, w_dconst, w_iload, w_iload_n, w_aload, w_aload_n, w_dload, w_istore, w_istore_n, w_astore_r, w_astore_s, w_astore_n_r, w_astore_n_s, w_dstore, w_iinc, w_iadd, w_isub, w_imul, w_iand, w_iushr, v_idiv, v_irem, w_ineg, w_i2l, w_i2c, w_i2f, w_i2d, v_f2d, w_lcmp, w_dcmp, v_fdiv, v_ddiv, w_dup_i, w_dup_r, w_dup2, w_dup_x2, w_pop_i, w_pop_r, w_goto, w_switch, w_ret_i, v_ret_z, v_ret_c, w_ret_a, w_ret_s, w_ret_f, w_ret_d, w_ret_v, v_iaload, v_baload, v_caload, v_laload, v_aaload, v_iastore, v_bastore, v_castore, v_lastore, v_aastore, v_alen, v_newa, v_anewa, w_new, w_throw, w_dead, v_getf_i, v_getf_z, v_getf_r, v_putf_i, v_putf_z, v_putf_r, w_call0, w_call1, w_callv1, w_calli1, w_callt1, w_call2, w_callv2, w_calli2, w_callt2, w_call3, w_callv3, w_calli3, w_call4, w_callv4, w_calli4, w_call5, w_callv5, w_calli5, w_call6, w_callv6, w_calli6, w_call7, w_callv7, w_calli7, w_call8, w_callv8, w_calli8, c_if0_eq_t, c_if0_eq_f, c_if2_eq_t, c_if2_eq_f, c_if0_ne_t, c_if0_ne_f, c_if2_ne_t, c_if2_ne_f, c_if0_lt_t, c_if0_lt_f, c_if2_lt_t, c_if2_lt_f, c_if0_ge_t, c_if0_ge_f, c_if2_ge_t, c_if2_ge_f, c_if0_gt_t, c_if0_gt_f, c_if2_gt_t, c_if2_gt_f, c_if0_le_t, c_if0_le_f, c_if2_le_t, c_if2_le_f, w_nil, uI_s, uA_r, uA_s, uD_d, mPut_0, mCl_own, mCv_go, mCl_min, mCl_cpy, mCv_obj, mAct_len, mAct_chrc, mAft_v, mAft_n, mAft_x, mGet_0, mSet_0, mGet_1, mSet_1, mGet_2, mSet_2, mGet_3, mSet_3, mGet_4, mSet_4, mGet_5, mSet_5, mGet_6, mSet_6, mGet_7, mSet_7, mGet_8, mSet_8, mGet_9, mSet_9, mGet_10, mSet_10, mGet_11, mSet_11, mGet_12, mSet_12, mGet_13, mSet_13, a_Ne_push_125, bk_Ne_push_125, yn_k hn, yn_14 hn, yn_k14 hn, yn_l14 hn, yn_15 hn, yn_k15 hn, yn_l15 hn]
    exact k g I _ _ _ _ hF (fun _ _ => rfl) hc (fun w => by rw [hex w, hpT]) hchg
  | c + 1, t, g, I, x7, x8, hn, hw, hF, hT, htw, hvia, hrm, hc, hu0, hu1, hpT, hpt, hT48, htc, hre, hp, hex, hsame, hdrn, hchg, k => by
    obtain ⟨f1, f2, f3, f4, f5, f6, f7, f8, f9⟩ := id hF
    obtain ⟨p0, p1⟩ := hp
    obtain ⟨hne, hle⟩ := hpt t (by omega)
    obtain ⟨⟨⟨g0, g1⟩, g2, g3, g4, g5⟩, hr, hs, hdr⟩ := hT _ p0 p1 hre hne
    obtain ⟨⟨a0, a1⟩, hl, hrr⟩ := id hr
    have hcap := hc _ a0 a1 hl
    have hcap0 : 0 ≤ g (via (nPth tw src t)) := hcap.1
    have hcap1 : g (via (nPth tw src t)) ≤ rm (via (nPth tw src t)) := hcap.2
    have hrm1 := hrm _ a0 a1
    have hwc := (hw.2 (via (nPth tw src t) / 8) (by omega) (by omega)).1
    have hfr0 : -1 ≤ fr (via (nPth tw src t) / 8) ∧ fr (via (nPth tw src t) / 8) < 6 := by rcases hwc with ⟨h, -⟩ | ⟨h, -⟩ <;> omega
    obtain ⟨r0, r1⟩ := hfr0
    have hgf : g (via (nPth tw src t)) = f (via (nPth tw src t)) := hsame _ p0 p1 hre hne (Int.le_refl _)
    have hr' : zRes (zN td fr to tm rm su) g (nPth tw src t) (tw (nPth tw src t)) (via (nPth tw src t)) := by
      refine ⟨⟨a0, a1⟩, hl, ?_⟩
      rw [hgf]; exact hrr
    have hleft : un ≤ zLeft (zN td fr to tm rm su) g (nPth tw src t) (via (nPth tw src t)) := by
      unfold zLeft at hle ⊢
      rw [hgf]; exact hle
    have huv : nPth tw src t ≠ tw (nPth tw src t) := fun h9 => by rw [← h9] at g4; omega
    have hdrt : dr (tw (nPth tw src t)) = 0 := by
      by_cases h9 : tw (nPth tw src t) = node
      · rw [h9]; exact hdrn
      · exact (hT _ g0 g1 g2 h9).2.2.2
    have key : ∀ v9 : Int, zGo (zN td fr to tm rm su) g (nPth tw src t) (via (nPth tw src t)) un = zU g (via (nPth tw src t)) v9 → mAt (mRun (D + 1)) 56 125 ([some (mR n), some (mI src), some (mI node), some (mI most), some (mI un), some (mI (tw (nPth tw src t))), some (mI ((t : Int) + 1)), some (mI (via (nPth tw src t))), x8], [], mUp I (n + 5) (via (nPth tw src t)) v9, S) Q := by
      intro v9 hv9
      have e5 : (mUp I (n + 5) (via (nPth tw src t)) v9) (n + 5) = zGo (zN td fr to tm rm su) g (nPth tw src t) (via (nPth tw src t)) un := by
        rw [hv9]; funext j
        unfold zU
        by_cases hj : j = via (nPth tw src t)
        · rw [if_pos hj, up_eq rfl hj]
        · rw [if_neg hj, up_nk hj, f6]
      refine l_push2 c (t := t + 1) (g := zGo (zN td fr to tm rm su) g (nPth tw src t) (via (nPth tw src t)) un) hn hw ⟨by rw [up_fa (by omega)]; exact f1, by rw [up_fa (by omega)]; exact f2, by rw [up_fa (by omega)]; exact f3, by rw [up_fa (by omega)]; exact f4, by rw [up_fa (by omega)]; exact f5, e5, by rw [up_fa (by omega)]; exact f7, by rw [up_fa (by omega)]; exact f8, by rw [up_fa (by omega)]; exact f9⟩ hT (by rw [up_fa (by omega)]; exact htw) (by rw [up_fa (by omega)]; exact hvia) hrm (zGo_cap hc hr' (by omega) hleft) hu0 hu1 hpT hpt hT48 (by omega) g2 ⟨g0, g1⟩ (fun w => ?_) (fun v v0 v1 vr vn vo => ?_) hdrn (fun a => ?_) (fun g' I' x5 x6 y7 y8 k1 k2 k3 k4 k5 => k g' I' x5 x6 y7 y8 k1 (fun a ha => (k2 a ha).trans (up_fa ha)) k3 k4 k5)
      · rw [zGo_ex hr' huv, hex w]
        show _ = _ + ((if tw (nPth tw src t) = w then un else 0) - _)
        omega
      · have vo : ord v ≤ ord (tw (nPth tw src t)) := vo
        obtain ⟨⟨-, -, -, w4, -⟩, hrv, -, -⟩ := hT v v0 v1 vr vn
        have hva : via (nPth tw src t) ≠ via v := zRes_ne hr hrv (fun h9 => by rw [← h9] at vo; omega) (Or.inl (fun h9 => by rw [← h9] at w4; omega))
        unfold zGo
        rw [zU_ne (fun h9 => hva h9.symm)]
        exact hsame v v0 v1 vr vn (by omega)
      · by_cases ha : a = via (nPth tw src t)
        · right
          subst ha
          refine ⟨⟨a0, a1⟩, hl, hs, ?_⟩
          rcases hrr with ⟨q1, q2, -⟩ | ⟨q1, q2, -, -⟩
          · rw [q1, q2]; exact ⟨hdr, hdrt⟩
          · rw [q1, q2]; exact ⟨hdrt, hdr⟩
        · unfold zGo
          rw [zU_ne ha]
          exact hchg a
    have hlt : (t : Int) < 48 := by omega
    rw [a_Ne_push_125]
    by_cases htl : fr (via (nPth tw src t) / 8) * 8 + via (nPth tw src t) % 8 = nPth tw src t
    · have kk := key (g (via (nPth tw src t)) + un) (by unfold zGo; rw [if_pos htl])
      simp (disch := first | omega | exact Nat.le_of_ble_eq_true rfl | (simp (disch := omega) only [yn_k hn, yn_6 hn, yn_k6 hn, yn_l6 hn, yn_14 hn, yn_k14 hn, yn_l14 hn, yn_15 hn, yn_k15 hn, yn_l15 hn, up_fa] <;> omega)) only [w_iconst, w_bipush, w_sipush, w_ldc_s, w_ldcw_s, w_ldc_i, w_ldcw_i, w_lconst, w_fconst, w_dconst, w_iload, w_iload_n, w_aload, w_aload_n, w_dload, w_istore, w_istore_n, w_astore_r, w_astore_s, w_astore_n_r, w_astore_n_s, w_dstore, w_iinc, w_iadd, w_isub, w_imul, w_iand, w_iushr, v_idiv, v_irem, w_ineg, w_i2l, w_i2c, w_i2f, w_i2d, v_f2d, w_lcmp, w_dcmp, v_fdiv, v_ddiv, w_dup_i, w_dup_r, w_dup2, w_dup_x2, w_pop_i, w_pop_r, w_goto, w_switch, w_ret_i, v_ret_z, v_ret_c, w_ret_a, w_ret_s, w_ret_f, w_ret_d, w_ret_v, v_iaload, v_baload, v_caload, v_laload, v_aaload, v_iastore, v_bastore, v_castore, v_lastore, v_aastore, v_alen, v_newa, v_anewa, w_new, w_throw, w_dead, v_getf_i, v_getf_z, v_getf_r, v_putf_i, v_putf_z, v_putf_r, w_call0, w_call1, w_callv1, w_calli1, w_callt1, w_call2, w_callv2, w_calli2, w_callt2, w_call3, w_callv3, w_calli3, w_call4, w_callv4, w_calli4, w_call5, w_callv5, w_calli5, w_call6, w_callv6, w_calli6, w_call7, w_callv7, w_calli7, w_call8, w_callv8, w_calli8, c_if0_eq_t, c_if0_eq_f, c_if2_eq_t, c_if2_eq_f, c_if0_ne_t, c_if0_ne_f, c_if2_ne_t, c_if2_ne_f, c_if0_lt_t, c_if0_lt_f, c_if2_lt_t, c_if2_lt_f, c_if0_ge_t, c_if0_ge_f, c_if2_ge_t, c_if2_ge_f, c_if0_gt_t, c_if0_gt_f, c_if2_gt_t, c_if2_gt_f, c_if0_le_t, c_if0_le_f, c_if2_le_t, c_if2_le_f, w_nil, uI_s, uA_r, uA_s, uD_d, mPut_0, mCl_own, mCv_go, mCl_min, mCl_cpy, mCv_obj, mAct_len, mAct_chrc, mAft_v, mAft_n, mAft_x, mGet_0, mSet_0, mGet_1, mSet_1, mGet_2, mSet_2, mGet_3, mSet_3, mGet_4, mSet_4, mGet_5, mSet_5, mGet_6, mSet_6, mGet_7, mSet_7, mGet_8, mSet_8, mGet_9, mSet_9, mGet_10, mSet_10, mGet_11, mSet_11, mGet_12, mSet_12, mGet_13, mSet_13, bk_Ne_push_125, a_Ne_push_174, bk_Ne_push_174, yn_k hn, yn_6 hn, yn_k6 hn, yn_l6 hn, yn_14 hn, yn_k14 hn, yn_l14 hn, yn_15 hn, yn_k15 hn, yn_l15 hn, hvia, htw, r_leads (I := I) D _ hn a0 a1 (by rw [f2]; exact r0) (by rw [f2]; exact r1), f2, f6, if_pos htl, up_fa, wr]
      exact kk
    · have kk := key (g (via (nPth tw src t)) + -un) (by unfold zGo; rw [if_neg htl]; rfl)
      simp (disch := first | omega | exact Nat.le_of_ble_eq_true rfl | (simp (disch := omega) only [yn_k hn, yn_6 hn, yn_k6 hn, yn_l6 hn, yn_14 hn, yn_k14 hn, yn_l14 hn, yn_15 hn, yn_k15 hn, yn_l15 hn, up_fa] <;> omega)) only [w_iconst, w_bipush, w_sipush, w_ldc_s, w_ldcw_s, w_ldc_i, w_ldcw_i, w_lconst, w_fconst, w_dconst, w_iload, w_iload_n, w_aload, w_aload_n, w_dload, w_istore, w_istore_n, w_astore_r, w_astore_s, w_astore_n_r, w_astore_n_s, w_dstore, w_iinc, w_iadd, w_isub, w_imul, w_iand, w_iushr, v_idiv, v_irem, w_ineg, w_i2l, w_i2c, w_i2f, w_i2d, v_f2d, w_lcmp, w_dcmp, v_fdiv, v_ddiv, w_dup_i, w_dup_r, w_dup2, w_dup_x2, w_pop_i, w_pop_r, w_goto, w_switch, w_ret_i, v_ret_z, v_ret_c, w_ret_a, w_ret_s, w_ret_f, w_ret_d, w_ret_v, v_iaload, v_baload, v_caload, v_laload, v_aaload, v_iastore, v_bastore, v_castore, v_lastore, v_aastore, v_alen, v_newa, v_anewa, w_new, w_throw, w_dead, v_getf_i, v_getf_z, v_getf_r, v_putf_i, v_putf_z, v_putf_r, w_call0, w_call1, w_callv1, w_calli1, w_callt1, w_call2, w_callv2, w_calli2, w_callt2, w_call3, w_callv3, w_calli3, w_call4, w_callv4, w_calli4, w_call5, w_callv5, w_calli5, w_call6, w_callv6, w_calli6, w_call7, w_callv7, w_calli7, w_call8, w_callv8, w_calli8, c_if0_eq_t, c_if0_eq_f, c_if2_eq_t, c_if2_eq_f, c_if0_ne_t, c_if0_ne_f, c_if2_ne_t, c_if2_ne_f, c_if0_lt_t, c_if0_lt_f, c_if2_lt_t, c_if2_lt_f, c_if0_ge_t, c_if0_ge_f, c_if2_ge_t, c_if2_ge_f, c_if0_gt_t, c_if0_gt_f, c_if2_gt_t, c_if2_gt_f, c_if0_le_t, c_if0_le_f, c_if2_le_t, c_if2_le_f, w_nil, uI_s, uA_r, uA_s, uD_d, mPut_0, mCl_own, mCv_go, mCl_min, mCl_cpy, mCv_obj, mAct_len, mAct_chrc, mAft_v, mAft_n, mAft_x, mGet_0, mSet_0, mGet_1, mSet_1, mGet_2, mSet_2, mGet_3, mSet_3, mGet_4, mSet_4, mGet_5, mSet_5, mGet_6, mSet_6, mGet_7, mSet_7, mGet_8, mSet_8, mGet_9, mSet_9, mGet_10, mSet_10, mGet_11, mSet_11, mGet_12, mSet_12, mGet_13, mSet_13, bk_Ne_push_125, a_Ne_push_171, bk_Ne_push_171, a_Ne_push_174, bk_Ne_push_174, yn_k hn, yn_6 hn, yn_k6 hn, yn_l6 hn, yn_14 hn, yn_k14 hn, yn_l14 hn, yn_15 hn, yn_k15 hn, yn_l15 hn, hvia, htw, r_leads (I := I) D _ hn a0 a1 (by rw [f2]; exact r0) (by rw [f2]; exact r1), f2, f6, if_neg htl, up_fa, wr]
      exact kk
end PU
