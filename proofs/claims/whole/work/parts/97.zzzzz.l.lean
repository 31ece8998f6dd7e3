/-! Constructors: a basin, a branch. -/
def kBa (b i j r : Int) (S0 : mH) (I0 : mN) (S : mH) (I : mN) : Prop := ((S.2.1 b = 1 ∧ S.1 b 4 = b + 1 ∧ S.1 b 5 = b + 2 ∧ S.1 b 6 = b + 3 ∧ S.1 b 7 = b + 4) ∧ yA S (b + 1) 64 6 ∧ yA S (b + 2) 65 9 ∧ yA S (b + 3) 67 10 ∧ yA S (b + 4) 51 3) ∧
  (∀ t : Int, 0 ≤ t → t < i → S.1 (b + 1) t = b + (5 + 4 * t) ∧ yPl S (b + (5 + 4 * t))) ∧ (∀ t : Int, 0 ≤ t → t < j → S.1 (b + 2) t = b + (29 + 3 * t) ∧ yRe S (b + (29 + 3 * t))) ∧ (∀ t : Int, 0 ≤ t → t < r → S.1 (b + 3) t = b + (56 + 5 * t) ∧ yRi S (b + (56 + 5 * t))) ∧
  (S.2.2.2.1 = b + 5 + 4 * i + 3 * j + 5 * r ∧ S.2.2.2.2 = S0.2.2.2.2 + 37 + 45 * i + 21 * j + 112 * r) ∧ (∀ a : Int, a < b → I a = I0 a ∧ S.1 a = S0.1 a ∧ S.2.1 a = S0.2.1 a ∧ S.2.2.1 a = S0.2.2.1 a) ∧ I b = (fun _ => 0) ∧ ∀ a : Int, b < a → a < b + 5 + 4 * i + 3 * j + 5 * r → I a = (fun _ => 0)
section KB
variable {S S0 S1 : mH} {I I0 I1 : mN} {Q : mQ} {b i j r q : Int} (D : Nat)
/-- a cell of the basin's rows set, behind the making of an object -/
theorem kBa_k {w c p t : Int} (h : kBa b i j r S0 I0 S I) (hq : S.2.2.2.1 = q) (hc : kCo q w c S I S1 I1) (p1 : b < p) (p2 : p ≤ b + 3) (i0 : 0 ≤ i) (i1 : i ≤ 6) (j0 : 0 ≤ j) (j1 : j ≤ 9) (r0 : 0 ≤ r) (r1 : r ≤ 10) (hj : 0 < j → i = 6) (hr : 0 < r → j = 9) (w0 : 0 < w) (hIq : I1 q = (fun _ => 0))
    (hp : (p = b + 1 ∧ i ≤ t) ∨ (p = b + 2 ∧ j ≤ t) ∨ (p = b + 3 ∧ r ≤ t)) : ((mUp S1.1 p t q, S1.2) : mH).2.1 b = 1 ∧ (∀ a : Int, a < q → a ≠ p → (mUp S1.1 p t q, S1.2).1 a = S.1 a) ∧ (∀ a : Int, a < q → (mUp S1.1 p t q, S1.2).2.1 a = S.2.1 a ∧ (mUp S1.1 p t q, S1.2).2.2.1 a = S.2.2.1 a) ∧ (∀ k : Int, k ≠ t → (mUp S1.1 p t q) p k = S.1 p k) ∧ (mUp S1.1 p t q) p t = q ∧
    (∀ s : Int, 0 ≤ s → s < i → (mUp S1.1 p t q) (b + 1) s = b + (5 + 4 * s) ∧ yPl (mUp S1.1 p t q, S1.2) (b + (5 + 4 * s))) ∧ (∀ s : Int, 0 ≤ s → s < j → (mUp S1.1 p t q) (b + 2) s = b + (29 + 3 * s) ∧ yRe (mUp S1.1 p t q, S1.2) (b + (29 + 3 * s))) ∧ (∀ s : Int, 0 ≤ s → s < r → (mUp S1.1 p t q) (b + 3) s = b + (56 + 5 * s) ∧ yRi (mUp S1.1 p t q, S1.2) (b + (56 + 5 * s))) ∧
    (∀ a : Int, a < b → I1 a = I0 a ∧ (mUp S1.1 p t q) a = S0.1 a ∧ S1.2.1 a = S0.2.1 a ∧ S1.2.2.1 a = S0.2.2.1 a) ∧ I1 b = (fun _ => 0) ∧ ∀ a : Int, b < a → a < q + w → I1 a = (fun _ => 0) := by
  obtain ⟨⟨⟨h1, -⟩, -⟩, h2, h3, h4, ⟨h5, -⟩, h6, h7, h8⟩ := h
  obtain ⟨c1, c2, c3, c4⟩ := hc
  have e1 : ∀ a : Int, a < q → a ≠ p → (mUp S1.1 p t q) a = S.1 a := fun a a0 a1 => (up_fa a1).trans (c1 a a0).2.1
  have ek : ∀ k : Int, k ≠ t → (mUp S1.1 p t q) p k = S.1 p k := fun k hk => by rw [up_nk hk, (c1 p (by omega)).2.1]
  have hA1 : ∀ lo hi : Int, p < lo → hi ≤ q → hA S (mUp S1.1 p t q, S1.2) lo hi := fun lo hi l0 l1 a a0 a1 => ⟨e1 a (by omega) (by omega), (c1 a (by omega)).2.2⟩
  refine ⟨(c1 b (by omega)).2.2.1.trans h1, e1, fun a ha => (c1 a ha).2.2, ek, up_eq rfl rfl, fun s s0 s1 => ?_, fun s s0 s1 => ?_, fun s s0 s1 => ?_, fun a ha => ?_, ?_, fun a a0 a1 => ?_⟩
  · refine ⟨?_, yPl_h (h2 s s0 s1).2 (hA1 _ _ (by omega) (by omega))⟩
    by_cases e : p = b + 1
    · subst e; rw [ek s (by omega)]; exact (h2 s s0 s1).1
    · rw [e1 _ (by omega) (by omega)]; exact (h2 s s0 s1).1
  · refine ⟨?_, yRe_h (h3 s s0 s1).2 (hA1 _ _ (by omega) (by omega))⟩
    by_cases e : p = b + 2
    · subst e; rw [ek s (by omega)]; exact (h3 s s0 s1).1
    · rw [e1 _ (by omega) (by omega)]; exact (h3 s s0 s1).1
  · refine ⟨?_, yRi_h (h4 s s0 s1).2 (hA1 _ _ (by omega) (by omega))⟩
    by_cases e : p = b + 3
    · subst e; rw [ek s (by omega)]; exact (h4 s s0 s1).1
    · rw [e1 _ (by omega) (by omega)]; exact (h4 s s0 s1).1
  · obtain ⟨d1, d2, d3, d4⟩ := h6 a ha
    exact ⟨(c1 a (by omega)).1.trans d1, (e1 a (by omega) (by omega)).trans d2, (c1 a (by omega)).2.2.1.trans d3, (c1 a (by omega)).2.2.2.trans d4⟩
  · rw [(c1 b (by omega)).1]; exact h7
  · by_cases e : a < q
    · rw [(c1 a e).1]; exact h8 a a0 (by omega)
    · by_cases e2 : a = q
      · rw [e2]; exact hIq
      · exact c2 a (by omega) a1
theorem l_Ba1 (b0 : 0 ≤ b) (k : ∀ (S : mH) (I : mN), kBa b 6 0 0 S0 I0 S I → mAt (mRun (D + 1)) 3 65 ([some (mR b), some (mI 6)], [], I, S) Q) : ∀ (n : Nat) (i : Int) (S : mH) (I : mN), i + n = 6 → 0 ≤ i → kBa b i 0 0 S0 I0 S I → mAt (mRun (D + 1)) 3 40 ([some (mR b), some (mI i)], [], I, S) Q
  | 0, i, S, I, hn, i0, h => by
    obtain rfl : i = 6 := by omega
    rw [a_Ba_init_40]
    simp (disch := first | omega | exact Nat.le_of_ble_eq_true rfl) only [w_iconst, w_bipush, w_sipush, w_ldc_s, w_ldcw_s, w_ldc_i, w_ldcw_i, w_lconst, w_fconst, w_dconst, w_iload, w_iload_n, w_aload, w_aload_n, w_dload, w_istore, w_istore_n, w_astore_r, w_astore_s, w_astore_n_r, w_astore_n_s, w_dstore, w_iinc, w_iadd, w_isub, w_imul, w_iand, w_iushr, v_idiv, v_irem, w_ineg, w_i2l, w_i2c, w_i2f, w_i2d, v_f2d, w_lcmp, w_dcmp, v_fdiv, v_ddiv, w_dup_i, w_dup_r, w_dup2, w_dup_x2, w_pop_i, w_pop_r, w_goto, w_switch, w_ret_i, v_ret_z, v_ret_c, w_ret_a, w_ret_s, w_ret_f, w_ret_d, w_ret_v, v_iaload, v_baload, v_caload, v_laload, v_aaload, v_iastore, v_bastore, v_castore, v_lastore, v_aastore, v_alen, v_newa, v_anewa, w_new, w_throw, w_dead, v_getf_i, v_getf_z, v_getf_r, v_putf_i, v_putf_z, v_putf_r, w_call0, w_call1, w_callv1, w_calli1, w_callt1, w_call2, w_callv2, w_calli2, w_callt2, w_call3, w_callv3, w_calli3, w_call4, w_callv4, w_calli4, w_call5, w_callv5, w_calli5, w_call6, w_callv6, w_calli6, w_call7, w_callv7, w_calli7, w_call8, w_callv8, w_calli8, c_if0_eq_t, c_if0_eq_f, c_if2_eq_t, c_if2_eq_f, c_if0_ne_t, c_if0_ne_f, c_if2_ne_t, c_if2_ne_f, c_if0_lt_t, c_if0_lt_f, c_if2_lt_t, c_if2_lt_f, c_if0_ge_t, c_if0_ge_f, c_if2_ge_t, c_if2_ge_f, c_if0_gt_t, c_if0_gt_f, c_if2_gt_t, c_if2_gt_f, c_if0_le_t, c_if0_le_f, c_if2_le_t, c_if2_le_f, w_nil, uI_s, uA_r, uA_s, uD_d, mPut_0, mCl_own, mCv_go, mCl_min, mCl_cpy, mCv_obj, mAct_len, mAct_chrc, mAft_v, mAft_n, mAft_x, mGet_0, mSet_0, mGet_1, mSet_1, mGet_2, mSet_2, mGet_3, mSet_3, mGet_4, mSet_4, mGet_5, mSet_5, mGet_6, mSet_6, mGet_7, mSet_7, mGet_8, mSet_8, mGet_9, mSet_9, mGet_10, mSet_10, mGet_11, mSet_11, mGet_12, mSet_12, mGet_13, mSet_13, bk_Ba_init_40]
    exact k S I h
  | n + 1, i, S, I, hn, i0, h => by
    obtain ⟨⟨⟨g1, g4, g5, g6, g7⟩, ⟨k1, l1⟩, ⟨k2, l2⟩, ⟨k3, l3⟩, k4, l4⟩, -, -, -, ⟨g8, g8'⟩, -⟩ := id h
    rw [a_Ba_init_40]
    have hkk : (mNewH S 5 4).2.1 S.2.2.2.1 = 5 := uk_eq rfl
    simp (disch := first | omega | exact Nat.le_of_ble_eq_true rfl | (simp (disch := omega) only [g1, g4, hkk] <;> omega)) only [w_iconst, w_bipush, w_sipush, w_ldc_s, w_ldcw_s, w_ldc_i, w_ldcw_i, w_lconst, w_fconst, w_dconst, w_iload, w_iload_n, w_aload, w_aload_n, w_dload, w_istore, w_istore_n, w_astore_r, w_astore_s, w_astore_n_r, w_astore_n_s, w_dstore, w_iinc, w_iadd, w_isub, w_imul, w_iand, w_iushr, v_idiv, v_irem, w_ineg, w_i2l, w_i2c, w_i2f, w_i2d, v_f2d, w_lcmp, w_dcmp, v_fdiv, v_ddiv, w_dup_i, w_dup_r, w_dup2, w_dup_x2, w_pop_i, w_pop_r, w_goto, w_switch, w_ret_i, v_ret_z, v_ret_c, w_ret_a, w_ret_s, w_ret_f, w_ret_d, w_ret_v, v_iaload, v_baload, v_caload, v_laload, v_aaload, v_iastore, v_bastore, v_castore, v_lastore, v_aastore, v_alen, v_newa, v_anewa, w_new, w_throw, w_dead, v_getf_i, v_getf_z, v_getf_r, v_putf_i, v_putf_z, v_putf_r, w_call0, w_call1, w_callv1, w_calli1, w_callt1, w_call2, w_callv2, w_calli2, w_callt2, w_call3, w_callv3, w_calli3, w_call4, w_callv4, w_calli4, w_call5, w_callv5, w_calli5, w_call6, w_callv6, w_calli6, w_call7, w_callv7, w_calli7, w_call8, w_callv8, w_calli8, c_if0_eq_t, c_if0_eq_f, c_if2_eq_t, c_if2_eq_f, c_if0_ne_t, c_if0_ne_f, c_if2_ne_t, c_if2_ne_f, c_if0_lt_t, c_if0_lt_f, c_if2_lt_t, c_if2_lt_f, c_if0_ge_t, c_if0_ge_f, c_if2_ge_t, c_if2_ge_f, c_if0_gt_t, c_if0_gt_f, c_if2_gt_t, c_if2_gt_f, c_if0_le_t, c_if0_le_f, c_if2_le_t, c_if2_le_f, w_nil, uI_s, uA_r, uA_s, uD_d, mPut_0, mCl_own, mCv_go, mCl_min, mCl_cpy, mCv_obj, mAct_len, mAct_chrc, mAft_v, mAft_n, mAft_x, mGet_0, mSet_0, mGet_1, mSet_1, mGet_2, mSet_2, mGet_3, mSet_3, mGet_4, mSet_4, mGet_5, mSet_5, mGet_6, mSet_6, mGet_7, mSet_7, mGet_8, mSet_8, mGet_9, mSet_9, mGet_10, mSet_10, mGet_11, mSet_11, mGet_12, mSet_12, mGet_13, mSet_13, bk_Ba_init_40, g1, g4, hkk]
    refine k_Pl (S := S) (I := I) D rfl (by omega) (fun S1 I1 hh => ?_)
    obtain ⟨hc, hz, hP⟩ := hh
    obtain ⟨f1, f2, f3, f4, f5, f6, f7, f8, f9, f10, f11⟩ := kBa_k (p := b + 1) (t := i) h rfl hc (by omega) (by omega) i0 (by omega) (Int.le_refl 0) (by decide) (Int.le_refl 0) (by decide) (by omega) (by omega) (by decide) hz (Or.inl ⟨rfl, Int.le_refl i⟩)
    have c1 := hc.1
    have m1 : S1.2.1 (b + 1) = 64 := (c1 _ (by omega)).2.2.1.trans k1
    have m2 : S1.2.2.1 (b + 1) = 6 := (c1 _ (by omega)).2.2.2.trans l1
    have m3 : S1.2.1 S.2.2.2.1 = 5 := hP.1
    simp (disch := first | omega | exact Nat.le_of_ble_eq_true rfl | (simp (disch := omega) only [m1, m2, m3] <;> omega)) only [w_iconst, w_bipush, w_sipush, w_ldc_s, w_ldcw_s, w_ldc_i, w_ldcw_i, w_lconst, w_fconst, w_dconst, w_iload, w_iload_n, w_aload, w_aload_n, w_dload, w_istore, w_istore_n, w_astore_r, w_astore_s, w_astore_n_r, w_astore_n_s, w_dstore, w_iinc, w_iadd, w_isub, w_imul, w_iand, w_iushr, v_idiv, v_irem, w_ineg, w_i2l, w_i2c, w_i2f, w_i2d, v_f2d, w_lcmp, w_dcmp, v_fdiv, v_ddiv, w_dup_i, w_dup_r, w_dup2, w_dup_x2, w_pop_i, w_pop_r, w_goto, w_switch, w_ret_i, v_ret_z, v_ret_c, w_ret_a, w_ret_s, w_ret_f, w_ret_d, w_ret_v, v_iaload, v_baload, v_caload, v_laload, v_aaload, v_iastore, v_bastore, v_castore, v_lastore, v_aastore, v_alen, v_newa, v_anewa, w_new, w_throw, w_dead, v_getf_i, v_getf_z, v_getf_r, v_putf_i, v_putf_z, v_putf_r, w_call0, w_call1, w_callv1, w_calli1, w_callt1, w_call2, w_callv2, w_calli2, w_callt2, w_call3, w_callv3, w_calli3, w_call4, w_callv4, w_calli4, w_call5, w_callv5, w_calli5, w_call6, w_callv6, w_calli6, w_call7, w_callv7, w_calli7, w_call8, w_callv8, w_calli8, c_if0_eq_t, c_if0_eq_f, c_if2_eq_t, c_if2_eq_f, c_if0_ne_t, c_if0_ne_f, c_if2_ne_t, c_if2_ne_f, c_if0_lt_t, c_if0_lt_f, c_if2_lt_t, c_if2_lt_f, c_if0_ge_t, c_if0_ge_f, c_if2_ge_t, c_if2_ge_f, c_if0_gt_t, c_if0_gt_f, c_if2_gt_t, c_if2_gt_f, c_if0_le_t, c_if0_le_f, c_if2_le_t, c_if2_le_f, w_nil, uI_s, uA_r, uA_s, uD_d, mPut_0, mCl_own, mCv_go, mCl_min, mCl_cpy, mCv_obj, mAct_len, mAct_chrc, mAft_v, mAft_n, mAft_x, mGet_0, mSet_0, mGet_1, mSet_1, mGet_2, mSet_2, mGet_3, mSet_3, mGet_4, mSet_4, mGet_5, mSet_5, mGet_6, mSet_6, mGet_7, mSet_7, mGet_8, mSet_8, mGet_9, mSet_9, mGet_10, mSet_10, mGet_11, mSet_11, mGet_12, mSet_12, mGet_13, mSet_13, m1, m2, m3, wr]
    have hqe : S.2.2.2.1 = b + (5 + 4 * i) := by omega
    refine l_Ba1 b0 k n (i + 1) _ I1 (by omega) (by omega) ⟨⟨⟨f1, ?_, ?_, ?_, ?_⟩, ?_, ?_, ?_, ?_⟩, fun t t0 t1 => ?_, fun t t0 t1 => by omega, fun t t0 t1 => by omega, ⟨?_, ?_⟩, f9, f10, fun a a0 a1 => f11 a a0 (by omega)⟩
    · exact (congrFun (f2 b (by omega) (by omega)) 4).trans g4
    · exact (congrFun (f2 b (by omega) (by omega)) 5).trans g5
    · exact (congrFun (f2 b (by omega) (by omega)) 6).trans g6
    · exact (congrFun (f2 b (by omega) (by omega)) 7).trans g7
    · exact ⟨(f3 _ (by omega)).1.trans k1, (f3 _ (by omega)).2.trans l1⟩
    · exact ⟨(f3 _ (by omega)).1.trans k2, (f3 _ (by omega)).2.trans l2⟩
    · exact ⟨(f3 _ (by omega)).1.trans k3, (f3 _ (by omega)).2.trans l3⟩
    · exact ⟨(f3 _ (by omega)).1.trans k4, (f3 _ (by omega)).2.trans l4⟩
    · by_cases e : t = i
      · subst e
        refine ⟨f5.trans hqe, ?_⟩
        rw [← hqe]
        exact yPl_h hP (fun a a0 a1 => ⟨up_fa (by omega), rfl, rfl⟩)
      · exact f6 t t0 (by omega)
    · have := hc.2.2.1
      show S1.2.2.2.1 = _
      omega
    · have := hc.2.2.2
      show S1.2.2.2.2 = _
      omega
theorem l_Ba2 (b0 : 0 ≤ b) (k : ∀ (S : mH) (I : mN), kBa b 6 9 0 S0 I0 S I → mAt (mRun (D + 1)) 3 92 ([some (mR b), some (mI 9)], [], I, S) Q) : ∀ (n : Nat) (i : Int) (S : mH) (I : mN), i + n = 9 → 0 ≤ i → kBa b 6 i 0 S0 I0 S I → mAt (mRun (D + 1)) 3 67 ([some (mR b), some (mI i)], [], I, S) Q
  | 0, i, S, I, hn, i0, h => by
    obtain rfl : i = 9 := by omega
    rw [a_Ba_init_67]
    simp (disch := first | omega | exact Nat.le_of_ble_eq_true rfl) only [w_iconst, w_bipush, w_sipush, w_ldc_s, w_ldcw_s, w_ldc_i, w_ldcw_i, w_lconst, w_fconst, w_dconst, w_iload, w_iload_n, w_aload, w_aload_n, w_dload, w_istore, w_istore_n, w_astore_r, w_astore_s, w_astore_n_r, w_astore_n_s, w_dstore, w_iinc, w_iadd, w_isub, w_imul, w_iand, w_iushr, v_idiv, v_irem, w_ineg, w_i2l, w_i2c, w_i2f, w_i2d, v_f2d, w_lcmp, w_dcmp, v_fdiv, v_ddiv, w_dup_i, w_dup_r, w_dup2, w_dup_x2, w_pop_i, w_pop_r, w_goto, w_switch, w_ret_i, v_ret_z, v_ret_c, w_ret_a, w_ret_s, w_ret_f, w_ret_d, w_ret_v, v_iaload, v_baload, v_caload, v_laload, v_aaload, v_iastore, v_bastore, v_castore, v_lastore, v_aastore, v_alen, v_newa, v_anewa, w_new, w_throw, w_dead, v_getf_i, v_getf_z, v_getf_r, v_putf_i, v_putf_z, v_putf_r, w_call0, w_call1, w_callv1, w_calli1, w_callt1, w_call2, w_callv2, w_calli2, w_callt2, w_call3, w_callv3, w_calli3, w_call4, w_callv4, w_calli4, w_call5, w_callv5, w_calli5, w_call6, w_callv6, w_calli6, w_call7, w_callv7, w_calli7, w_call8, w_callv8, w_calli8, c_if0_eq_t, c_if0_eq_f, c_if2_eq_t, c_if2_eq_f, c_if0_ne_t, c_if0_ne_f, c_if2_ne_t, c_if2_ne_f, c_if0_lt_t, c_if0_lt_f, c_if2_lt_t, c_if2_lt_f, c_if0_ge_t, c_if0_ge_f, c_if2_ge_t, c_if2_ge_f, c_if0_gt_t, c_if0_gt_f, c_if2_gt_t, c_if2_gt_f, c_if0_le_t, c_if0_le_f, c_if2_le_t, c_if2_le_f, w_nil, uI_s, uA_r, uA_s, uD_d, mPut_0, mCl_own, mCv_go, mCl_min, mCl_cpy, mCv_obj, mAct_len, mAct_chrc, mAft_v, mAft_n, mAft_x, mGet_0, mSet_0, mGet_1, mSet_1, mGet_2, mSet_2, mGet_3, mSet_3, mGet_4, mSet_4, mGet_5, mSet_5, mGet_6, mSet_6, mGet_7, mSet_7, mGet_8, mSet_8, mGet_9, mSet_9, mGet_10, mSet_10, mGet_11, mSet_11, mGet_12, mSet_12, mGet_13, mSet_13, bk_Ba_init_67]
    exact k S I h
  | n + 1, i, S, I, hn, i0, h => by
    obtain ⟨⟨⟨g1, g4, g5, g6, g7⟩, ⟨k1, l1⟩, ⟨k2, l2⟩, ⟨k3, l3⟩, k4, l4⟩, -, -, -, ⟨g8, g8'⟩, -⟩ := id h
    rw [a_Ba_init_67]
    have hkk : (mNewH S 6 5).2.1 S.2.2.2.1 = 6 := uk_eq rfl
    simp (disch := first | omega | exact Nat.le_of_ble_eq_true rfl | (simp (disch := omega) only [g1, g5, hkk] <;> omega)) only [w_iconst, w_bipush, w_sipush, w_ldc_s, w_ldcw_s, w_ldc_i, w_ldcw_i, w_lconst, w_fconst, w_dconst, w_iload, w_iload_n, w_aload, w_aload_n, w_dload, w_istore, w_istore_n, w_astore_r, w_astore_s, w_astore_n_r, w_astore_n_s, w_dstore, w_iinc, w_iadd, w_isub, w_imul, w_iand, w_iushr, v_idiv, v_irem, w_ineg, w_i2l, w_i2c, w_i2f, w_i2d, v_f2d, w_lcmp, w_dcmp, v_fdiv, v_ddiv, w_dup_i, w_dup_r, w_dup2, w_dup_x2, w_pop_i, w_pop_r, w_goto, w_switch, w_ret_i, v_ret_z, v_ret_c, w_ret_a, w_ret_s, w_ret_f, w_ret_d, w_ret_v, v_iaload, v_baload, v_caload, v_laload, v_aaload, v_iastore, v_bastore, v_castore, v_lastore, v_aastore, v_alen, v_newa, v_anewa, w_new, w_throw, w_dead, v_getf_i, v_getf_z, v_getf_r, v_putf_i, v_putf_z, v_putf_r, w_call0, w_call1, w_callv1, w_calli1, w_callt1, w_call2, w_callv2, w_calli2, w_callt2, w_call3, w_callv3, w_calli3, w_call4, w_callv4, w_calli4, w_call5, w_callv5, w_calli5, w_call6, w_callv6, w_calli6, w_call7, w_callv7, w_calli7, w_call8, w_callv8, w_calli8, c_if0_eq_t, c_if0_eq_f, c_if2_eq_t, c_if2_eq_f, c_if0_ne_t, c_if0_ne_f, c_if2_ne_t, c_if2_ne_f, c_if0_lt_t, c_if0_lt_f, c_if2_lt_t, c_if2_lt_f, c_if0_ge_t, c_if0_ge_f, c_if2_ge_t, c_if2_ge_f, c_if0_gt_t, c_if0_gt_f, c_if2_gt_t, c_if2_gt_f, c_if0_le_t, c_if0_le_f, c_if2_le_t, c_if2_le_f, w_nil, uI_s, uA_r, uA_s, uD_d, mPut_0, mCl_own, mCv_go, mCl_min, mCl_cpy, mCv_obj, mAct_len, mAct_chrc, mAft_v, mAft_n, mAft_x, mGet_0, mSet_0, mGet_1, mSet_1, mGet_2, mSet_2, mGet_3, mSet_3, mGet_4, mSet_4, mGet_5, mSet_5, mGet_6, mSet_6, mGet_7, mSet_7, mGet_8, mSet_8, mGet_9, mSet_9, mGet_10, mSet_10, mGet_11, mSet_11, mGet_12, mSet_12, mGet_13, mSet_13, bk_Ba_init_67, g1, g5, hkk]
    refine k_Re (S := S) (I := I) D rfl (by omega) (fun S1 I1 hh => ?_)
    obtain ⟨hc, hz, hP⟩ := hh
    obtain ⟨f1, f2, f3, f4, f5, f6, f7, f8, f9, f10, f11⟩ := kBa_k (p := b + 2) (t := i) h rfl hc (by omega) (by omega) (by decide) (by decide) i0 (by omega) (Int.le_refl 0) (by decide) (by omega) (by omega) (by decide) hz (Or.inr (Or.inl ⟨rfl, Int.le_refl i⟩))
    have c1 := hc.1
    have m1 : S1.2.1 (b + 2) = 65 := (c1 _ (by omega)).2.2.1.trans k2
    have m2 : S1.2.2.1 (b + 2) = 9 := (c1 _ (by omega)).2.2.2.trans l2
    have m3 : S1.2.1 S.2.2.2.1 = 6 := hP.1
    simp (disch := first | omega | exact Nat.le_of_ble_eq_true rfl | (simp (disch := omega) only [m1, m2, m3] <;> omega)) only [w_iconst, w_bipush, w_sipush, w_ldc_s, w_ldcw_s, w_ldc_i, w_ldcw_i, w_lconst, w_fconst, w_dconst, w_iload, w_iload_n, w_aload, w_aload_n, w_dload, w_istore, w_istore_n, w_astore_r, w_astore_s, w_astore_n_r, w_astore_n_s, w_dstore, w_iinc, w_iadd, w_isub, w_imul, w_iand, w_iushr, v_idiv, v_irem, w_ineg, w_i2l, w_i2c, w_i2f, w_i2d, v_f2d, w_lcmp, w_dcmp, v_fdiv, v_ddiv, w_dup_i, w_dup_r, w_dup2, w_dup_x2, w_pop_i, w_pop_r, w_goto, w_switch, w_ret_i, v_ret_z, v_ret_c, w_ret_a, w_ret_s, w_ret_f, w_ret_d, w_ret_v, v_iaload, v_baload, v_caload, v_laload, v_aaload, v_iastore, v_bastore, v_castore, v_lastore, v_aastore, v_alen, v_newa, v_anewa, w_new, w_throw, w_dead, v_getf_i, v_getf_z, v_getf_r, v_putf_i, v_putf_z, v_putf_r, w_call0, w_call1, w_callv1, w_calli1, w_callt1, w_call2, w_callv2, w_calli2, w_callt2, w_call3, w_callv3, w_calli3, w_call4, w_callv4, w_calli4, w_call5, w_callv5, w_calli5, w_call6, w_callv6, w_calli6, w_call7, w_callv7, w_calli7, w_call8, w_callv8, w_calli8, c_if0_eq_t, c_if0_eq_f, c_if2_eq_t, c_if2_eq_f, c_if0_ne_t, c_if0_ne_f, c_if2_ne_t, c_if2_ne_f, c_if0_lt_t, c_if0_lt_f, c_if2_lt_t, c_if2_lt_f, c_if0_ge_t, c_if0_ge_f, c_if2_ge_t, c_if2_ge_f, c_if0_gt_t, c_if0_gt_f, c_if2_gt_t, c_if2_gt_f, c_if0_le_t, c_if0_le_f, c_if2_le_t, c_if2_le_f, w_nil, uI_s, uA_r, uA_s, uD_d, mPut_0, mCl_own, mCv_go, mCl_min, mCl_cpy, mCv_obj, mAct_len, mAct_chrc, mAft_v, mAft_n, mAft_x, mGet_0, mSet_0, mGet_1, mSet_1, mGet_2, mSet_2, mGet_3, mSet_3, mGet_4, mSet_4, mGet_5, mSet_5, mGet_6, mSet_6, mGet_7, mSet_7, mGet_8, mSet_8, mGet_9, mSet_9, mGet_10, mSet_10, mGet_11, mSet_11, mGet_12, mSet_12, mGet_13, mSet_13, m1, m2, m3, wr]
    have hqe : S.2.2.2.1 = b + (29 + 3 * i) := by omega
    refine l_Ba2 b0 k n (i + 1) _ I1 (by omega) (by omega) ⟨⟨⟨f1, ?_, ?_, ?_, ?_⟩, ?_, ?_, ?_, ?_⟩, f6, fun t t0 t1 => ?_, fun t t0 t1 => by omega, ⟨?_, ?_⟩, f9, f10, fun a a0 a1 => f11 a a0 (by omega)⟩
    · exact (congrFun (f2 b (by omega) (by omega)) 4).trans g4
    · exact (congrFun (f2 b (by omega) (by omega)) 5).trans g5
    · exact (congrFun (f2 b (by omega) (by omega)) 6).trans g6
    · exact (congrFun (f2 b (by omega) (by omega)) 7).trans g7
    · exact ⟨(f3 _ (by omega)).1.trans k1, (f3 _ (by omega)).2.trans l1⟩
    · exact ⟨(f3 _ (by omega)).1.trans k2, (f3 _ (by omega)).2.trans l2⟩
    · exact ⟨(f3 _ (by omega)).1.trans k3, (f3 _ (by omega)).2.trans l3⟩
    · exact ⟨(f3 _ (by omega)).1.trans k4, (f3 _ (by omega)).2.trans l4⟩
    · by_cases e : t = i
      · subst e
        refine ⟨f5.trans hqe, ?_⟩
        rw [← hqe]
        exact yRe_h hP (fun a a0 a1 => ⟨up_fa (by omega), rfl, rfl⟩)
      · exact f7 t t0 (by omega)
    · have := hc.2.2.1
      show S1.2.2.2.1 = _
      omega
    · have := hc.2.2.2
      show S1.2.2.2.2 = _
      omega
theorem l_Ba3 (b0 : 0 ≤ b) (k : ∀ (S : mH) (I : mN), kBa b 6 9 10 S0 I0 S I → mAt (mRun (D + 1)) 3 119 ([some (mR b), some (mI 10)], [], I, S) Q) : ∀ (n : Nat) (i : Int) (S : mH) (I : mN), i + n = 10 → 0 ≤ i → kBa b 6 9 i S0 I0 S I → mAt (mRun (D + 1)) 3 94 ([some (mR b), some (mI i)], [], I, S) Q
  | 0, i, S, I, hn, i0, h => by
    obtain rfl : i = 10 := by omega
    rw [a_Ba_init_94]
    simp (disch := first | omega | exact Nat.le_of_ble_eq_true rfl) only [w_iconst, w_bipush, w_sipush, w_ldc_s, w_ldcw_s, w_ldc_i, w_ldcw_i, w_lconst, w_fconst, w_dconst, w_iload, w_iload_n, w_aload, w_aload_n, w_dload, w_istore, w_istore_n, w_astore_r, w_astore_s, w_astore_n_r, w_astore_n_s, w_dstore, w_iinc, w_iadd, w_isub, w_imul, w_iand, w_iushr, v_idiv, v_irem, w_ineg, w_i2l, w_i2c, w_i2f, w_i2d, v_f2d, w_lcmp, w_dcmp, v_fdiv, v_ddiv, w_dup_i, w_dup_r, w_dup2, w_dup_x2, w_pop_i, w_pop_r, w_goto, w_switch, w_ret_i, v_ret_z, v_ret_c, w_ret_a, w_ret_s, w_ret_f, w_ret_d, w_ret_v, v_iaload, v_baload, v_caload, v_laload, v_aaload, v_iastore, v_bastore, v_castore, v_lastore, v_aastore, v_alen, v_newa, v_anewa, w_new, w_throw, w_dead, v_getf_i, v_getf_z, v_getf_r, v_putf_i, v_putf_z, v_putf_r, w_call0, w_call1, w_callv1, w_calli1, w_callt1, w_call2, w_callv2, w_calli2, w_callt2, w_call3, w_callv3, w_calli3, w_call4, w_callv4, w_calli4, w_call5, w_callv5, w_calli5, w_call6, w_callv6, w_calli6, w_call7, w_callv7, w_calli7, w_call8, w_callv8, w_calli8, c_if0_eq_t, c_if0_eq_f, c_if2_eq_t, c_if2_eq_f, c_if0_ne_t, c_if0_ne_f, c_if2_ne_t, c_if2_ne_f, c_if0_lt_t, c_if0_lt_f, c_if2_lt_t, c_if2_lt_f, c_if0_ge_t, c_if0_ge_f, c_if2_ge_t, c_if2_ge_f, c_if0_gt_t, c_if0_gt_f, c_if2_gt_t, c_if2_gt_f, c_if0_le_t, c_if0_le_f, c_if2_le_t, c_if2_le_f, w_nil, uI_s, uA_r, uA_s, uD_d, mPut_0, mCl_own, mCv_go, mCl_min, mCl_cpy, mCv_obj, mAct_len, mAct_chrc, mAft_v, mAft_n, mAft_x, mGet_0, mSet_0, mGet_1, mSet_1, mGet_2, mSet_2, mGet_3, mSet_3, mGet_4, mSet_4, mGet_5, mSet_5, mGet_6, mSet_6, mGet_7, mSet_7, mGet_8, mSet_8, mGet_9, mSet_9, mGet_10, mSet_10, mGet_11, mSet_11, mGet_12, mSet_12, mGet_13, mSet_13, bk_Ba_init_94]
    exact k S I h
  | n + 1, i, S, I, hn, i0, h => by
    obtain ⟨⟨⟨g1, g4, g5, g6, g7⟩, ⟨k1, l1⟩, ⟨k2, l2⟩, ⟨k3, l3⟩, k4, l4⟩, -, -, -, ⟨g8, g8'⟩, -⟩ := id h
    rw [a_Ba_init_94]
    have hkk : (mNewH S 8 12).2.1 S.2.2.2.1 = 8 := uk_eq rfl
    simp (disch := first | omega | exact Nat.le_of_ble_eq_true rfl | (simp (disch := omega) only [g1, g6, hkk] <;> omega)) only [w_iconst, w_bipush, w_sipush, w_ldc_s, w_ldcw_s, w_ldc_i, w_ldcw_i, w_lconst, w_fconst, w_dconst, w_iload, w_iload_n, w_aload, w_aload_n, w_dload, w_istore, w_istore_n, w_astore_r, w_astore_s, w_astore_n_r, w_astore_n_s, w_dstore, w_iinc, w_iadd, w_isub, w_imul, w_iand, w_iushr, v_idiv, v_irem, w_ineg, w_i2l, w_i2c, w_i2f, w_i2d, v_f2d, w_lcmp, w_dcmp, v_fdiv, v_ddiv, w_dup_i, w_dup_r, w_dup2, w_dup_x2, w_pop_i, w_pop_r, w_goto, w_switch, w_ret_i, v_ret_z, v_ret_c, w_ret_a, w_ret_s, w_ret_f, w_ret_d, w_ret_v, v_iaload, v_baload, v_caload, v_laload, v_aaload, v_iastore, v_bastore, v_castore, v_lastore, v_aastore, v_alen, v_newa, v_anewa, w_new, w_throw, w_dead, v_getf_i, v_getf_z, v_getf_r, v_putf_i, v_putf_z, v_putf_r, w_call0, w_call1, w_callv1, w_calli1, w_callt1, w_call2, w_callv2, w_calli2, w_callt2, w_call3, w_callv3, w_calli3, w_call4, w_callv4, w_calli4, w_call5, w_callv5, w_calli5, w_call6, w_callv6, w_calli6, w_call7, w_callv7, w_calli7, w_call8, w_callv8, w_calli8, c_if0_eq_t, c_if0_eq_f, c_if2_eq_t, c_if2_eq_f, c_if0_ne_t, c_if0_ne_f, c_if2_ne_t, c_if2_ne_f, c_if0_lt_t, c_if0_lt_f, c_if2_lt_t, c_if2_lt_f, c_if0_ge_t, c_if0_ge_f, c_if2_ge_t, c_if2_ge_f, c_if0_gt_t, c_if0_gt_f, c_if2_gt_t, c_if2_gt_f, c_if0_le_t, c_if0_le_f, c_if2_le_t, c_if2_le_f, w_nil, uI_s, uA_r, uA_s, uD_d, mPut_0, mCl_own, mCv_go, mCl_min, mCl_cpy, mCv_obj, mAct_len, mAct_chrc, mAft_v, mAft_n, mAft_x, mGet_0, mSet_0, mGet_1, mSet_1, mGet_2, mSet_2, mGet_3, mSet_3, mGet_4, mSet_4, mGet_5, mSet_5, mGet_6, mSet_6, mGet_7, mSet_7, mGet_8, mSet_8, mGet_9, mSet_9, mGet_10, mSet_10, mGet_11, mSet_11, mGet_12, mSet_12, mGet_13, mSet_13, bk_Ba_init_94, g1, g6, hkk]
    refine k_Ri (S := S) (I := I) D rfl (by omega) (fun S1 I1 hh => ?_)
    obtain ⟨hc, hz, hP⟩ := hh
    obtain ⟨f1, f2, f3, f4, f5, f6, f7, f8, f9, f10, f11⟩ := kBa_k (p := b + 3) (t := i) h rfl hc (by omega) (by omega) (by decide) (by decide) (by decide) (by decide) i0 (by omega) (by omega) (by omega) (by decide) hz (Or.inr (Or.inr ⟨rfl, Int.le_refl i⟩))
    have c1 := hc.1
    have m1 : S1.2.1 (b + 3) = 67 := (c1 _ (by omega)).2.2.1.trans k3
    have m2 : S1.2.2.1 (b + 3) = 10 := (c1 _ (by omega)).2.2.2.trans l3
    have m3 : S1.2.1 S.2.2.2.1 = 8 := hP.1
    simp (disch := first | omega | exact Nat.le_of_ble_eq_true rfl | (simp (disch := omega) only [m1, m2, m3] <;> omega)) only [w_iconst, w_bipush, w_sipush, w_ldc_s, w_ldcw_s, w_ldc_i, w_ldcw_i, w_lconst, w_fconst, w_dconst, w_iload, w_iload_n, w_aload, w_aload_n, w_dload, w_istore, w_istore_n, w_astore_r, w_astore_s, w_astore_n_r, w_astore_n_s, w_dstore, w_iinc, w_iadd, w_isub, w_imul, w_iand, w_iushr, v_idiv, v_irem, w_ineg, w_i2l, w_i2c, w_i2f, w_i2d, v_f2d, w_lcmp, w_dcmp, v_fdiv, v_ddiv, w_dup_i, w_dup_r, w_dup2, w_dup_x2, w_pop_i, w_pop_r, w_goto, w_switch, w_ret_i, v_ret_z, v_ret_c, w_ret_a, w_ret_s, w_ret_f, w_ret_d, w_ret_v, v_iaload, v_baload, v_caload, v_laload, v_aaload, v_iastore, v_bastore, v_castore, v_lastore, v_aastore, v_alen, v_newa, v_anewa, w_new, w_throw, w_dead, v_getf_i, v_getf_z, v_getf_r, v_putf_i, v_putf_z, v_putf_r, w_call0, w_call1, w_callv1, w_calli1, w_callt1, w_call2, w_callv2, w_calli2, w_callt2, w_call3, w_callv3, w_calli3, w_call4, w_callv4, w_calli4, w_call5, w_callv5, w_calli5, w_call6, w_callv6, w_calli6, w_call7, w_callv7, w_calli7, w_call8, w_callv8, w_calli8, c_if0_eq_t, c_if0_eq_f, c_if2_eq_t, c_if2_eq_f, c_if0_ne_t, c_if0_ne_f, c_if2_ne_t, c_if2_ne_f, c_if0_lt_t, c_if0_lt_f, c_if2_lt_t, c_if2_lt_f, c_if0_ge_t, c_if0_ge_f, c_if2_ge_t, c_if2_ge_f, c_if0_gt_t, c_if0_gt_f, c_if2_gt_t, c_if2_gt_f, c_if0_le_t, c_if0_le_f, c_if2_le_t, c_if2_le_f, w_nil, uI_s, uA_r, uA_s, uD_d, mPut_0, mCl_own, mCv_go, mCl_min, mCl_cpy, mCv_obj, mAct_len, mAct_chrc, mAft_v, mAft_n, mAft_x, mGet_0, mSet_0, mGet_1, mSet_1, mGet_2, mSet_2, mGet_3, mSet_3, mGet_4, mSet_4, mGet_5, mSet_5, mGet_6, mSet_6, mGet_7, mSet_7, mGet_8, mSet_8, mGet_9, mSet_9, mGet_10, mSet_10, mGet_11, mSet_11, mGet_12, mSet_12, mGet_13, mSet_13, m1, m2, m3, wr]
    have hqe : S.2.2.2.1 = b + (56 + 5 * i) := by omega
    refine l_Ba3 b0 k n (i + 1) _ I1 (by omega) (by omega) ⟨⟨⟨f1, ?_, ?_, ?_, ?_⟩, ?_, ?_, ?_, ?_⟩, f6, f7, fun t t0 t1 => ?_, ⟨?_, ?_⟩, f9, f10, fun a a0 a1 => f11 a a0 (by omega)⟩
    · exact (congrFun (f2 b (by omega) (by omega)) 4).trans g4
    · exact (congrFun (f2 b (by omega) (by omega)) 5).trans g5
    · exact (congrFun (f2 b (by omega) (by omega)) 6).trans g6
    · exact (congrFun (f2 b (by omega) (by omega)) 7).trans g7
    · exact ⟨(f3 _ (by omega)).1.trans k1, (f3 _ (by omega)).2.trans l1⟩
    · exact ⟨(f3 _ (by omega)).1.trans k2, (f3 _ (by omega)).2.trans l2⟩
    · exact ⟨(f3 _ (by omega)).1.trans k3, (f3 _ (by omega)).2.trans l3⟩
    · exact ⟨(f3 _ (by omega)).1.trans k4, (f3 _ (by omega)).2.trans l4⟩
    · by_cases e : t = i
      · subst e
        refine ⟨f5.trans hqe, ?_⟩
        rw [← hqe]
        exact yRi_h hP (fun a a0 a1 => ⟨up_fa (by omega), rfl, rfl⟩)
      · exact f8 t t0 (by omega)
    · have := hc.2.2.1
      show S1.2.2.2.1 = _
      omega
    · have := hc.2.2.2
      show S1.2.2.2.2 = _
      omega
theorem k_Ba {n : Int} (hn : S.2.2.2.1 = n) (n0 : 0 ≤ n) (kk : ∀ (S' : mH) (I' : mN), kCo n 106 1616 S I S' I' ∧ I' n = (fun _ => 0) ∧ yB S' n → Q (.inl none) I' S') : mRun (D + 2) 3 [mR n] (mNewN I S) (mNewH S 1 9) Q := by
  have hK : (mNewH S 1 9).2.1 n = 1 := uk_eq hn.symm
  have t0 : kS [(4, 1, 64, 6), (5, 2, 65, 9), (6, 3, 67, 10), (7, 4, 51, 3)] 1 n 0 (mNewH S 1 9) (mNewN I S) (mNewH S 1 9) (mNewN I S) := kS_0 hK (by show S.2.2.2.1 + 1 = n + 1; omega)
  have i0 : (mNewN I S) n = (fun _ => 0) := ua_eq hn.symm
  have c0 : (mNewH S 1 9).2.2.2.2 = S.2.2.2.2 + 9 := rfl
  generalize hS0 : mNewH S 1 9 = S0 at hK t0 c0 ⊢
  generalize hI0 : mNewN I S = I0 at t0 i0 ⊢
  simp (disch := first | omega | exact Nat.le_of_ble_eq_true rfl) only [e_Ba_init, a_Ba_init_0]
  unfold bk_Ba_init_0
  refine k_ob n (fun _ _ _ => rfl) (fun _ _ => rfl) n0 ?_
  refine k_na n 4 6 64 1 (fun _ _ _ => rfl) (fun _ _ _ => rfl) (fun _ _ _ => rfl) (fun _ _ _ _ => rfl) t0.1 (by have := t0.2.1; omega) (by decide) (fun S1 I1 h1 => ?_)
  have t1 := kS_s t0 h1 rfl (by decide)
  have i1 : I1 n = (fun _ => 0) := (h1.2.2.2.2.2.2 n (by have := t0.2.1; omega)).trans i0
  have c1 : S1.2.2.2.2 = S.2.2.2.2 + 15 := by have := h1.1.2; omega
  refine k_na n 5 9 65 1 (fun _ _ _ => rfl) (fun _ _ _ => rfl) (fun _ _ _ => rfl) (fun _ _ _ _ => rfl) t1.1 (by have := t1.2.1; omega) (by decide) (fun S2 I2 h2 => ?_)
  have t2 := kS_s t1 h2 rfl (by decide)
  have i2 : I2 n = (fun _ => 0) := (h2.2.2.2.2.2.2 n (by have := t1.2.1; omega)).trans i1
  have c2 : S2.2.2.2.2 = S.2.2.2.2 + 24 := by have := h2.1.2; omega
  refine k_na n 6 10 67 1 (fun _ _ _ => rfl) (fun _ _ _ => rfl) (fun _ _ _ => rfl) (fun _ _ _ _ => rfl) t2.1 (by have := t2.2.1; omega) (by decide) (fun S3 I3 h3 => ?_)
  have t3 := kS_s t2 h3 rfl (by decide)
  have i3 : I3 n = (fun _ => 0) := (h3.2.2.2.2.2.2 n (by have := t2.2.1; omega)).trans i2
  have c3 : S3.2.2.2.2 = S.2.2.2.2 + 34 := by have := h3.1.2; omega
  refine k_na n 7 3 51 1 (fun _ _ _ => rfl) (fun _ _ _ => rfl) (fun _ _ _ => rfl) (fun _ _ _ _ => rfl) t3.1 (by have := t3.2.1; omega) (by decide) (fun S4 I4 h4 => ?_)
  have t4 := kS_s t3 h4 rfl (by decide)
  have i4 : I4 n = (fun _ => 0) := (h4.2.2.2.2.2.2 n (by have := t3.2.1; omega)).trans i3
  have c4 : S4.2.2.2.2 = S.2.2.2.2 + 37 := by have := h4.1.2; omega
  rw [← hS0, ← hI0] at t4
  have hc := kC_S (w := 5) hn t4 c4 (by decide)
  have tt := t4.2.2.1
  have q1 := (tt (4, 1, 64, 6) (List.mem_of_getElem? (i := 0) rfl)).2
  have q2 := (tt (5, 2, 65, 9) (List.mem_of_getElem? (i := 1) rfl)).2
  have q3 := (tt (6, 3, 67, 10) (List.mem_of_getElem? (i := 2) rfl)).2
  have q4 := (tt (7, 4, 51, 3) (List.mem_of_getElem? (i := 3) rfl)).2
  simp (disch := first | omega | exact Nat.le_of_ble_eq_true rfl) only [w_iconst, w_bipush, w_sipush, w_ldc_s, w_ldcw_s, w_ldc_i, w_ldcw_i, w_lconst, w_fconst, w_dconst, w_iload, w_iload_n, w_aload, w_aload_n, w_dload, w_istore, w_istore_n, w_astore_r, w_astore_s, w_astore_n_r, w_astore_n_s, w_dstore, w_iinc, w_iadd, w_isub, w_imul, w_iand, w_iushr, v_idiv, v_irem, w_ineg, w_i2l, w_i2c, w_i2f, w_i2d, v_f2d, w_lcmp, w_dcmp, v_fdiv, v_ddiv, w_dup_i, w_dup_r, w_dup2, w_dup_x2, w_pop_i, w_pop_r, w_goto, w_switch, w_ret_i, v_ret_z, v_ret_c, w_ret_a, w_ret_s, w_ret_f, w_ret_d, w_ret_v, v_iaload, v_baload, v_caload, v_laload, v_aaload, v_iastore, v_bastore, v_castore, v_lastore, v_aastore, v_alen, v_newa, v_anewa, w_new, w_throw, w_dead, v_getf_i, v_getf_z, v_getf_r, v_putf_i, v_putf_z, v_putf_r, w_call0, w_call1, w_callv1, w_calli1, w_callt1, w_call2, w_callv2, w_calli2, w_callt2, w_call3, w_callv3, w_calli3, w_call4, w_callv4, w_calli4, w_call5, w_callv5, w_calli5, w_call6, w_callv6, w_calli6, w_call7, w_callv7, w_calli7, w_call8, w_callv8, w_calli8, c_if0_eq_t, c_if0_eq_f, c_if2_eq_t, c_if2_eq_f, c_if0_ne_t, c_if0_ne_f, c_if2_ne_t, c_if2_ne_f, c_if0_lt_t, c_if0_lt_f, c_if2_lt_t, c_if2_lt_f, c_if0_ge_t, c_if0_ge_f, c_if2_ge_t, c_if2_ge_f, c_if0_gt_t, c_if0_gt_f, c_if2_gt_t, c_if2_gt_f, c_if0_le_t, c_if0_le_f, c_if2_le_t, c_if2_le_f, w_nil, uI_s, uA_r, uA_s, uD_d, mPut_0, mCl_own, mCv_go, mCl_min, mCl_cpy, mCv_obj, mAct_len, mAct_chrc, mAft_v, mAft_n, mAft_x, mGet_0, mSet_0, mGet_1, mSet_1, mGet_2, mSet_2, mGet_3, mSet_3, mGet_4, mSet_4, mGet_5, mSet_5, mGet_6, mSet_6, mGet_7, mSet_7, mGet_8, mSet_8, mGet_9, mSet_9, mGet_10, mSet_10, mGet_11, mSet_11, mGet_12, mSet_12, mGet_13, mSet_13]
  refine l_Ba1 D n0 (S0 := S) (I0 := I) (fun S5 I5 b5 => ?_) 6 0 _ _ rfl (Int.le_refl 0) ⟨⟨⟨t4.1, q1.1, q2.1, q3.1, q4.1⟩, q1.2, q2.2, q3.2, q4.2⟩, fun t t0 t1 => by omega, fun t t0 t1 => by omega, fun t t0 t1 => by omega, ⟨by have := hc.2.2.1; omega, by have := hc.2.2.2; omega⟩, hc.1, i4, fun a a0 a1 => hc.2.1 a a0 (by omega)⟩
  rw [a_Ba_init_65]
  simp (disch := first | omega | exact Nat.le_of_ble_eq_true rfl) only [w_iconst, w_bipush, w_sipush, w_ldc_s, w_ldcw_s, w_ldc_i, w_ldcw_i, w_lconst, w_fconst, w_dconst, w_iload, w_iload_n, w_aload, w_aload_n, w_dload, w_istore, w_istore_n, w_astore_r, w_astore_s, w_astore_n_r, w_astore_n_s, w_dstore, w_iinc, w_iadd, w_isub, w_imul, w_iand, w_iushr, v_idiv, v_irem, w_ineg, w_i2l, w_i2c, w_i2f, w_i2d, v_f2d, w_lcmp, w_dcmp, v_fdiv, v_ddiv, w_dup_i, w_dup_r, w_dup2, w_dup_x2, w_pop_i, w_pop_r, w_goto, w_switch, w_ret_i, v_ret_z, v_ret_c, w_ret_a, w_ret_s, w_ret_f, w_ret_d, w_ret_v, v_iaload, v_baload, v_caload, v_laload, v_aaload, v_iastore, v_bastore, v_castore, v_lastore, v_aastore, v_alen, v_newa, v_anewa, w_new, w_throw, w_dead, v_getf_i, v_getf_z, v_getf_r, v_putf_i, v_putf_z, v_putf_r, w_call0, w_call1, w_callv1, w_calli1, w_callt1, w_call2, w_callv2, w_calli2, w_callt2, w_call3, w_callv3, w_calli3, w_call4, w_callv4, w_calli4, w_call5, w_callv5, w_calli5, w_call6, w_callv6, w_calli6, w_call7, w_callv7, w_calli7, w_call8, w_callv8, w_calli8, c_if0_eq_t, c_if0_eq_f, c_if2_eq_t, c_if2_eq_f, c_if0_ne_t, c_if0_ne_f, c_if2_ne_t, c_if2_ne_f, c_if0_lt_t, c_if0_lt_f, c_if2_lt_t, c_if2_lt_f, c_if0_ge_t, c_if0_ge_f, c_if2_ge_t, c_if2_ge_f, c_if0_gt_t, c_if0_gt_f, c_if2_gt_t, c_if2_gt_f, c_if0_le_t, c_if0_le_f, c_if2_le_t, c_if2_le_f, w_nil, uI_s, uA_r, uA_s, uD_d, mPut_0, mCl_own, mCv_go, mCl_min, mCl_cpy, mCv_obj, mAct_len, mAct_chrc, mAft_v, mAft_n, mAft_x, mGet_0, mSet_0, mGet_1, mSet_1, mGet_2, mSet_2, mGet_3, mSet_3, mGet_4, mSet_4, mGet_5, mSet_5, mGet_6, mSet_6, mGet_7, mSet_7, mGet_8, mSet_8, mGet_9, mSet_9, mGet_10, mSet_10, mGet_11, mSet_11, mGet_12, mSet_12, mGet_13, mSet_13, bk_Ba_init_65]
  refine l_Ba2 D n0 (S0 := S) (I0 := I) (fun S6 I6 b6 => ?_) 9 0 S5 I5 rfl (Int.le_refl 0) b5
  rw [a_Ba_init_92]
  simp (disch := first | omega | exact Nat.le_of_ble_eq_true rfl) only [w_iconst, w_bipush, w_sipush, w_ldc_s, w_ldcw_s, w_ldc_i, w_ldcw_i, w_lconst, w_fconst, w_dconst, w_iload, w_iload_n, w_aload, w_aload_n, w_dload, w_istore, w_istore_n, w_astore_r, w_astore_s, w_astore_n_r, w_astore_n_s, w_dstore, w_iinc, w_iadd, w_isub, w_imul, w_iand, w_iushr, v_idiv, v_irem, w_ineg, w_i2l, w_i2c, w_i2f, w_i2d, v_f2d, w_lcmp, w_dcmp, v_fdiv, v_ddiv, w_dup_i, w_dup_r, w_dup2, w_dup_x2, w_pop_i, w_pop_r, w_goto, w_switch, w_ret_i, v_ret_z, v_ret_c, w_ret_a, w_ret_s, w_ret_f, w_ret_d, w_ret_v, v_iaload, v_baload, v_caload, v_laload, v_aaload, v_iastore, v_bastore, v_castore, v_lastore, v_aastore, v_alen, v_newa, v_anewa, w_new, w_throw, w_dead, v_getf_i, v_getf_z, v_getf_r, v_putf_i, v_putf_z, v_putf_r, w_call0, w_call1, w_callv1, w_calli1, w_callt1, w_call2, w_callv2, w_calli2, w_callt2, w_call3, w_callv3, w_calli3, w_call4, w_callv4, w_calli4, w_call5, w_callv5, w_calli5, w_call6, w_callv6, w_calli6, w_call7, w_callv7, w_calli7, w_call8, w_callv8, w_calli8, c_if0_eq_t, c_if0_eq_f, c_if2_eq_t, c_if2_eq_f, c_if0_ne_t, c_if0_ne_f, c_if2_ne_t, c_if2_ne_f, c_if0_lt_t, c_if0_lt_f, c_if2_lt_t, c_if2_lt_f, c_if0_ge_t, c_if0_ge_f, c_if2_ge_t, c_if2_ge_f, c_if0_gt_t, c_if0_gt_f, c_if2_gt_t, c_if2_gt_f, c_if0_le_t, c_if0_le_f, c_if2_le_t, c_if2_le_f, w_nil, uI_s, uA_r, uA_s, uD_d, mPut_0, mCl_own, mCv_go, mCl_min, mCl_cpy, mCv_obj, mAct_len, mAct_chrc, mAft_v, mAft_n, mAft_x, mGet_0, mSet_0, mGet_1, mSet_1, mGet_2, mSet_2, mGet_3, mSet_3, mGet_4, mSet_4, mGet_5, mSet_5, mGet_6, mSet_6, mGet_7, mSet_7, mGet_8, mSet_8, mGet_9, mSet_9, mGet_10, mSet_10, mGet_11, mSet_11, mGet_12, mSet_12, mGet_13, mSet_13, bk_Ba_init_92]
  refine l_Ba3 D n0 (S0 := S) (I0 := I) (fun S7 I7 b7 => ?_) 10 0 S6 I6 rfl (Int.le_refl 0) b6
  rw [a_Ba_init_119]
  simp (disch := first | omega | exact Nat.le_of_ble_eq_true rfl) only [w_iconst, w_bipush, w_sipush, w_ldc_s, w_ldcw_s, w_ldc_i, w_ldcw_i, w_lconst, w_fconst, w_dconst, w_iload, w_iload_n, w_aload, w_aload_n, w_dload, w_istore, w_istore_n, w_astore_r, w_astore_s, w_astore_n_r, w_astore_n_s, w_dstore, w_iinc, w_iadd, w_isub, w_imul, w_iand, w_iushr, v_idiv, v_irem, w_ineg, w_i2l, w_i2c, w_i2f, w_i2d, v_f2d, w_lcmp, w_dcmp, v_fdiv, v_ddiv, w_dup_i, w_dup_r, w_dup2, w_dup_x2, w_pop_i, w_pop_r, w_goto, w_switch, w_ret_i, v_ret_z, v_ret_c, w_ret_a, w_ret_s, w_ret_f, w_ret_d, w_ret_v, v_iaload, v_baload, v_caload, v_laload, v_aaload, v_iastore, v_bastore, v_castore, v_lastore, v_aastore, v_alen, v_newa, v_anewa, w_new, w_throw, w_dead, v_getf_i, v_getf_z, v_getf_r, v_putf_i, v_putf_z, v_putf_r, w_call0, w_call1, w_callv1, w_calli1, w_callt1, w_call2, w_callv2, w_calli2, w_callt2, w_call3, w_callv3, w_calli3, w_call4, w_callv4, w_calli4, w_call5, w_callv5, w_calli5, w_call6, w_callv6, w_calli6, w_call7, w_callv7, w_calli7, w_call8, w_callv8, w_calli8, c_if0_eq_t, c_if0_eq_f, c_if2_eq_t, c_if2_eq_f, c_if0_ne_t, c_if0_ne_f, c_if2_ne_t, c_if2_ne_f, c_if0_lt_t, c_if0_lt_f, c_if2_lt_t, c_if2_lt_f, c_if0_ge_t, c_if0_ge_f, c_if2_ge_t, c_if2_ge_f, c_if0_gt_t, c_if0_gt_f, c_if2_gt_t, c_if2_gt_f, c_if0_le_t, c_if0_le_f, c_if2_le_t, c_if2_le_f, w_nil, uI_s, uA_r, uA_s, uD_d, mPut_0, mCl_own, mCv_go, mCl_min, mCl_cpy, mCv_obj, mAct_len, mAct_chrc, mAft_v, mAft_n, mAft_x, mGet_0, mSet_0, mGet_1, mSet_1, mGet_2, mSet_2, mGet_3, mSet_3, mGet_4, mSet_4, mGet_5, mSet_5, mGet_6, mSet_6, mGet_7, mSet_7, mGet_8, mSet_8, mGet_9, mSet_9, mGet_10, mSet_10, mGet_11, mSet_11, mGet_12, mSet_12, mGet_13, mSet_13, bk_Ba_init_119]
  obtain ⟨⟨⟨g1, g4, g5, g6, g7⟩, k1, k2, k3, k4⟩, g9, g10, g11, ⟨g12, g13⟩, g14, g15, g16⟩ := b7
  exact kk S7 I7 ⟨⟨g14, fun a a0 a1 => g16 a a0 (by omega), by omega, by omega⟩, g15, g1, ⟨g4, g5, g6, g7⟩, k1, k2, k3, k4, g9, g10, g11⟩
/-- a branch, as far as it is made -/
def kBr (b i : Int) (S0 : mH) (I0 : mN) (S : mH) (I : mN) : Prop := (S.2.1 b = 2 ∧ S.1 b 0 = b + 1 ∧ yA S (b + 1) 60 7) ∧ (∀ t : Int, 0 ≤ t → t < i → S.1 (b + 1) t = b + 2 + 106 * t ∧ yB S (b + 2 + 106 * t)) ∧
  (S.2.2.2.1 = b + 2 + 106 * i ∧ S.2.2.2.2 = S0.2.2.2.2 + 10 + 1616 * i) ∧ (∀ a : Int, a < b → I a = I0 a ∧ S.1 a = S0.1 a ∧ S.2.1 a = S0.2.1 a ∧ S.2.2.1 a = S0.2.2.1 a) ∧ I b = (fun _ => 0) ∧ ∀ a : Int, b < a → a < b + 2 + 106 * i → I a = (fun _ => 0)
theorem l_Br (b0 : 0 ≤ b) (k : ∀ (S : mH) (I : mN), kBr b 7 S0 I0 S I → mAt (mRun (D + 2)) 21 40 ([some (mR b), some (mI 7)], [], I, S) Q) : ∀ (n : Nat) (i : Int) (S : mH) (I : mN), i + n = 7 → 0 ≤ i → kBr b i S0 I0 S I → mAt (mRun (D + 2)) 21 15 ([some (mR b), some (mI i)], [], I, S) Q
  | 0, i, S, I, hn, i0, h => by
    obtain rfl : i = 7 := by omega
    rw [a_Br_init_15]
    simp (disch := first | omega | exact Nat.le_of_ble_eq_true rfl) only [w_iconst, w_bipush, w_sipush, w_ldc_s, w_ldcw_s, w_ldc_i, w_ldcw_i, w_lconst, w_fconst, w_dconst, w_iload, w_iload_n, w_aload, w_aload_n, w_dload, w_istore, w_istore_n, w_astore_r, w_astore_s, w_astore_n_r, w_astore_n_s, w_dstore, w_iinc, w_iadd, w_isub, w_imul, w_iand, w_iushr, v_idiv, v_irem, w_ineg, w_i2l, w_i2c, w_i2f, w_i2d, v_f2d, w_lcmp, w_dcmp, v_fdiv, v_ddiv, w_dup_i, w_dup_r, w_dup2, w_dup_x2, w_pop_i, w_pop_r, w_goto, w_switch, w_ret_i, v_ret_z, v_ret_c, w_ret_a, w_ret_s, w_ret_f, w_ret_d, w_ret_v, v_iaload, v_baload, v_caload, v_laload, v_aaload, v_iastore, v_bastore, v_castore, v_lastore, v_aastore, v_alen, v_newa, v_anewa, w_new, w_throw, w_dead, v_getf_i, v_getf_z, v_getf_r, v_putf_i, v_putf_z, v_putf_r, w_call0, w_call1, w_callv1, w_calli1, w_callt1, w_call2, w_callv2, w_calli2, w_callt2, w_call3, w_callv3, w_calli3, w_call4, w_callv4, w_calli4, w_call5, w_callv5, w_calli5, w_call6, w_callv6, w_calli6, w_call7, w_callv7, w_calli7, w_call8, w_callv8, w_calli8, c_if0_eq_t, c_if0_eq_f, c_if2_eq_t, c_if2_eq_f, c_if0_ne_t, c_if0_ne_f, c_if2_ne_t, c_if2_ne_f, c_if0_lt_t, c_if0_lt_f, c_if2_lt_t, c_if2_lt_f, c_if0_ge_t, c_if0_ge_f, c_if2_ge_t, c_if2_ge_f, c_if0_gt_t, c_if0_gt_f, c_if2_gt_t, c_if2_gt_f, c_if0_le_t, c_if0_le_f, c_if2_le_t, c_if2_le_f, w_nil, uI_s, uA_r, uA_s, uD_d, mPut_0, mCl_own, mCv_go, mCl_min, mCl_cpy, mCv_obj, mAct_len, mAct_chrc, mAft_v, mAft_n, mAft_x, mGet_0, mSet_0, mGet_1, mSet_1, mGet_2, mSet_2, mGet_3, mSet_3, mGet_4, mSet_4, mGet_5, mSet_5, mGet_6, mSet_6, mGet_7, mSet_7, mGet_8, mSet_8, mGet_9, mSet_9, mGet_10, mSet_10, mGet_11, mSet_11, mGet_12, mSet_12, mGet_13, mSet_13, bk_Br_init_15]
    exact k S I h
  | n + 1, i, S, I, hn, i0, h => by
    obtain ⟨⟨g1, g2, k1, l1⟩, g3, ⟨g4, g5⟩, g6, g7, g8⟩ := id h
    rw [a_Br_init_15]
    have hkk : (mNewH S 1 9).2.1 S.2.2.2.1 = 1 := uk_eq rfl
    simp (disch := first | omega | exact Nat.le_of_ble_eq_true rfl | (simp (disch := omega) only [g1, g2, hkk] <;> omega)) only [w_iconst, w_bipush, w_sipush, w_ldc_s, w_ldcw_s, w_ldc_i, w_ldcw_i, w_lconst, w_fconst, w_dconst, w_iload, w_iload_n, w_aload, w_aload_n, w_dload, w_istore, w_istore_n, w_astore_r, w_astore_s, w_astore_n_r, w_astore_n_s, w_dstore, w_iinc, w_iadd, w_isub, w_imul, w_iand, w_iushr, v_idiv, v_irem, w_ineg, w_i2l, w_i2c, w_i2f, w_i2d, v_f2d, w_lcmp, w_dcmp, v_fdiv, v_ddiv, w_dup_i, w_dup_r, w_dup2, w_dup_x2, w_pop_i, w_pop_r, w_goto, w_switch, w_ret_i, v_ret_z, v_ret_c, w_ret_a, w_ret_s, w_ret_f, w_ret_d, w_ret_v, v_iaload, v_baload, v_caload, v_laload, v_aaload, v_iastore, v_bastore, v_castore, v_lastore, v_aastore, v_alen, v_newa, v_anewa, w_new, w_throw, w_dead, v_getf_i, v_getf_z, v_getf_r, v_putf_i, v_putf_z, v_putf_r, w_call0, w_call1, w_callv1, w_calli1, w_callt1, w_call2, w_callv2, w_calli2, w_callt2, w_call3, w_callv3, w_calli3, w_call4, w_callv4, w_calli4, w_call5, w_callv5, w_calli5, w_call6, w_callv6, w_calli6, w_call7, w_callv7, w_calli7, w_call8, w_callv8, w_calli8, c_if0_eq_t, c_if0_eq_f, c_if2_eq_t, c_if2_eq_f, c_if0_ne_t, c_if0_ne_f, c_if2_ne_t, c_if2_ne_f, c_if0_lt_t, c_if0_lt_f, c_if2_lt_t, c_if2_lt_f, c_if0_ge_t, c_if0_ge_f, c_if2_ge_t, c_if2_ge_f, c_if0_gt_t, c_if0_gt_f, c_if2_gt_t, c_if2_gt_f, c_if0_le_t, c_if0_le_f, c_if2_le_t, c_if2_le_f, w_nil, uI_s, uA_r, uA_s, uD_d, mPut_0, mCl_own, mCv_go, mCl_min, mCl_cpy, mCv_obj, mAct_len, mAct_chrc, mAft_v, mAft_n, mAft_x, mGet_0, mSet_0, mGet_1, mSet_1, mGet_2, mSet_2, mGet_3, mSet_3, mGet_4, mSet_4, mGet_5, mSet_5, mGet_6, mSet_6, mGet_7, mSet_7, mGet_8, mSet_8, mGet_9, mSet_9, mGet_10, mSet_10, mGet_11, mSet_11, mGet_12, mSet_12, mGet_13, mSet_13, bk_Br_init_15, g1, g2, hkk]
    refine k_Ba (S := S) (I := I) D rfl (by omega) (fun S1 I1 hh => ?_)
    obtain ⟨⟨c1, c2, c3, c4⟩, hz, hP⟩ := hh
    have m1 : S1.2.1 (b + 1) = 60 := (c1 _ (by omega)).2.2.1.trans k1
    have m2 : S1.2.2.1 (b + 1) = 7 := (c1 _ (by omega)).2.2.2.trans l1
    have m3 : S1.2.1 S.2.2.2.1 = 1 := hP.1
    simp (disch := first | omega | exact Nat.le_of_ble_eq_true rfl | (simp (disch := omega) only [m1, m2, m3] <;> omega)) only [w_iconst, w_bipush, w_sipush, w_ldc_s, w_ldcw_s, w_ldc_i, w_ldcw_i, w_lconst, w_fconst, w_dconst, w_iload, w_iload_n, w_aload, w_aload_n, w_dload, w_istore, w_istore_n, w_astore_r, w_astore_s, w_astore_n_r, w_astore_n_s, w_dstore, w_iinc, w_iadd, w_isub, w_imul, w_iand, w_iushr, v_idiv, v_irem, w_ineg, w_i2l, w_i2c, w_i2f, w_i2d, v_f2d, w_lcmp, w_dcmp, v_fdiv, v_ddiv, w_dup_i, w_dup_r, w_dup2, w_dup_x2, w_pop_i, w_pop_r, w_goto, w_switch, w_ret_i, v_ret_z, v_ret_c, w_ret_a, w_ret_s, w_ret_f, w_ret_d, w_ret_v, v_iaload, v_baload, v_caload, v_laload, v_aaload, v_iastore, v_bastore, v_castore, v_lastore, v_aastore, v_alen, v_newa, v_anewa, w_new, w_throw, w_dead, v_getf_i, v_getf_z, v_getf_r, v_putf_i, v_putf_z, v_putf_r, w_call0, w_call1, w_callv1, w_calli1, w_callt1, w_call2, w_callv2, w_calli2, w_callt2, w_call3, w_callv3, w_calli3, w_call4, w_callv4, w_calli4, w_call5, w_callv5, w_calli5, w_call6, w_callv6, w_calli6, w_call7, w_callv7, w_calli7, w_call8, w_callv8, w_calli8, c_if0_eq_t, c_if0_eq_f, c_if2_eq_t, c_if2_eq_f, c_if0_ne_t, c_if0_ne_f, c_if2_ne_t, c_if2_ne_f, c_if0_lt_t, c_if0_lt_f, c_if2_lt_t, c_if2_lt_f, c_if0_ge_t, c_if0_ge_f, c_if2_ge_t, c_if2_ge_f, c_if0_gt_t, c_if0_gt_f, c_if2_gt_t, c_if2_gt_f, c_if0_le_t, c_if0_le_f, c_if2_le_t, c_if2_le_f, w_nil, uI_s, uA_r, uA_s, uD_d, mPut_0, mCl_own, mCv_go, mCl_min, mCl_cpy, mCv_obj, mAct_len, mAct_chrc, mAft_v, mAft_n, mAft_x, mGet_0, mSet_0, mGet_1, mSet_1, mGet_2, mSet_2, mGet_3, mSet_3, mGet_4, mSet_4, mGet_5, mSet_5, mGet_6, mSet_6, mGet_7, mSet_7, mGet_8, mSet_8, mGet_9, mSet_9, mGet_10, mSet_10, mGet_11, mSet_11, mGet_12, mSet_12, mGet_13, mSet_13, m1, m2, m3, wr]
    have hqe : S.2.2.2.1 = b + 2 + 106 * i := by omega
    refine l_Br b0 k n (i + 1) _ I1 (by omega) (by omega) ⟨⟨(c1 b (by omega)).2.2.1.trans g1, ?_, m1, m2⟩, fun t t0 t1 => ?_, ⟨?_, ?_⟩, fun a ha => ?_, ?_, fun a a0 a1 => ?_⟩
    · show (mUp S1.1 (b + 1) i S.2.2.2.1) b 0 = b + 1
      rw [up_fa (by omega), (c1 b (by omega)).2.1]; exact g2
    · show (mUp S1.1 (b + 1) i S.2.2.2.1) (b + 1) t = _ ∧ _
      by_cases e : t = i
      · subst e
        refine ⟨(up_eq rfl rfl).trans hqe, ?_⟩
        rw [← hqe]
        exact yB_h hP (fun a a0 a1 => ⟨up_fa (by omega), rfl, rfl⟩)
      · refine ⟨by rw [up_nk e, (c1 _ (by omega)).2.1]; exact (g3 t t0 (by omega)).1, yB_h (g3 t t0 (by omega)).2 (fun a a0 a1 => ⟨(up_fa (by omega)).trans (c1 a (by omega)).2.1, (c1 a (by omega)).2.2⟩)⟩
    · show S1.2.2.2.1 = _
      omega
    · show S1.2.2.2.2 = _
      omega
    · obtain ⟨d1, d2, d3, d4⟩ := g6 a ha
      obtain ⟨e1, e2, e3, e4⟩ := c1 a (by omega)
      exact ⟨e1.trans d1, (up_fa (by omega)).trans (e2.trans d2), e3.trans d3, e4.trans d4⟩
    · rw [(c1 b (by omega)).1]; exact g7
    · by_cases e : a < S.2.2.2.1
      · rw [(c1 a e).1]; exact g8 a a0 (by omega)
      · by_cases e2 : a = S.2.2.2.1
        · rw [e2]; exact hz
        · exact c2 a (by omega) (by omega)
theorem k_Br {n : Int} (hn : S.2.2.2.1 = n) (n0 : 0 ≤ n) (kk : ∀ (S' : mH) (I' : mN), kBr n 7 S I S' I' → Q (.inl none) I' S') : mRun (D + 3) 21 [mR n] (mNewN I S) (mNewH S 2 3) Q := by
  have hK : (mNewH S 2 3).2.1 n = 2 := uk_eq hn.symm
  have t0 : kS [(0, 1, 60, 7)] 2 n 0 (mNewH S 2 3) (mNewN I S) (mNewH S 2 3) (mNewN I S) := kS_0 hK (by show S.2.2.2.1 + 1 = n + 1; omega)
  have i0 : (mNewN I S) n = (fun _ => 0) := ua_eq hn.symm
  have c0 : (mNewH S 2 3).2.2.2.2 = S.2.2.2.2 + 3 := rfl
  generalize hS0 : mNewH S 2 3 = S0 at hK t0 c0 ⊢
  generalize hI0 : mNewN I S = I0 at t0 i0 ⊢
  simp (disch := first | omega | exact Nat.le_of_ble_eq_true rfl) only [e_Br_init, a_Br_init_0]
  unfold bk_Br_init_0
  refine k_ob n (fun _ _ _ => rfl) (fun _ _ => rfl) n0 ?_
  refine k_na n 0 7 60 2 (fun _ _ _ => rfl) (fun _ _ _ => rfl) (fun _ _ _ => rfl) (fun _ _ _ _ => rfl) t0.1 (by have := t0.2.1; omega) (by decide) (fun S1 I1 h1 => ?_)
  have t1 := kS_s t0 h1 rfl (by decide)
  have i1 : I1 n = (fun _ => 0) := (h1.2.2.2.2.2.2 n (by have := t0.2.1; omega)).trans i0
  have c1 : S1.2.2.2.2 = S.2.2.2.2 + 10 := by have := h1.1.2; omega
  rw [← hS0, ← hI0] at t1
  have hc := kC_S (w := 2) hn t1 c1 (by decide)
  have tt := t1.2.2.1
  have q1 := (tt (0, 1, 60, 7) (List.mem_of_getElem? (i := 0) rfl)).2
  simp (disch := first | omega | exact Nat.le_of_ble_eq_true rfl) only [w_iconst, w_bipush, w_sipush, w_ldc_s, w_ldcw_s, w_ldc_i, w_ldcw_i, w_lconst, w_fconst, w_dconst, w_iload, w_iload_n, w_aload, w_aload_n, w_dload, w_istore, w_istore_n, w_astore_r, w_astore_s, w_astore_n_r, w_astore_n_s, w_dstore, w_iinc, w_iadd, w_isub, w_imul, w_iand, w_iushr, v_idiv, v_irem, w_ineg, w_i2l, w_i2c, w_i2f, w_i2d, v_f2d, w_lcmp, w_dcmp, v_fdiv, v_ddiv, w_dup_i, w_dup_r, w_dup2, w_dup_x2, w_pop_i, w_pop_r, w_goto, w_switch, w_ret_i, v_ret_z, v_ret_c, w_ret_a, w_ret_s, w_ret_f, w_ret_d, w_ret_v, v_iaload, v_baload, v_caload, v_laload, v_aaload, v_iastore, v_bastore, v_castore, v_lastore, v_aastore, v_alen, v_newa, v_anewa, w_new, w_throw, w_dead, v_getf_i, v_getf_z, v_getf_r, v_putf_i, v_putf_z, v_putf_r, w_call0, w_call1, w_callv1, w_calli1, w_callt1, w_call2, w_callv2, w_calli2, w_callt2, w_call3, w_callv3, w_calli3, w_call4, w_callv4, w_calli4, w_call5, w_callv5, w_calli5, w_call6, w_callv6, w_calli6, w_call7, w_callv7, w_calli7, w_call8, w_callv8, w_calli8, c_if0_eq_t, c_if0_eq_f, c_if2_eq_t, c_if2_eq_f, c_if0_ne_t, c_if0_ne_f, c_if2_ne_t, c_if2_ne_f, c_if0_lt_t, c_if0_lt_f, c_if2_lt_t, c_if2_lt_f, c_if0_ge_t, c_if0_ge_f, c_if2_ge_t, c_if2_ge_f, c_if0_gt_t, c_if0_gt_f, c_if2_gt_t, c_if2_gt_f, c_if0_le_t, c_if0_le_f, c_if2_le_t, c_if2_le_f, w_nil, uI_s, uA_r, uA_s, uD_d, mPut_0, mCl_own, mCv_go, mCl_min, mCl_cpy, mCv_obj, mAct_len, mAct_chrc, mAft_v, mAft_n, mAft_x, mGet_0, mSet_0, mGet_1, mSet_1, mGet_2, mSet_2, mGet_3, mSet_3, mGet_4, mSet_4, mGet_5, mSet_5, mGet_6, mSet_6, mGet_7, mSet_7, mGet_8, mSet_8, mGet_9, mSet_9, mGet_10, mSet_10, mGet_11, mSet_11, mGet_12, mSet_12, mGet_13, mSet_13]
  refine l_Br D n0 (S0 := S) (I0 := I) (fun S5 I5 b5 => ?_) 7 0 _ _ rfl (Int.le_refl 0) ⟨⟨t1.1, q1.1, q1.2⟩, fun t t0 t1 => by omega, ⟨by have := hc.2.2.1; omega, by have := hc.2.2.2; omega⟩, hc.1, i1, fun a a0 a1 => hc.2.1 a a0 (by omega)⟩
  rw [a_Br_init_40]
  simp (disch := first | omega | exact Nat.le_of_ble_eq_true rfl) only [w_iconst, w_bipush, w_sipush, w_ldc_s, w_ldcw_s, w_ldc_i, w_ldcw_i, w_lconst, w_fconst, w_dconst, w_iload, w_iload_n, w_aload, w_aload_n, w_dload, w_istore, w_istore_n, w_astore_r, w_astore_s, w_astore_n_r, w_astore_n_s, w_dstore, w_iinc, w_iadd, w_isub, w_imul, w_iand, w_iushr, v_idiv, v_irem, w_ineg, w_i2l, w_i2c, w_i2f, w_i2d, v_f2d, w_lcmp, w_dcmp, v_fdiv, v_ddiv, w_dup_i, w_dup_r, w_dup2, w_dup_x2, w_pop_i, w_pop_r, w_goto, w_switch, w_ret_i, v_ret_z, v_ret_c, w_ret_a, w_ret_s, w_ret_f, w_ret_d, w_ret_v, v_iaload, v_baload, v_caload, v_laload, v_aaload, v_iastore, v_bastore, v_castore, v_lastore, v_aastore, v_alen, v_newa, v_anewa, w_new, w_throw, w_dead, v_getf_i, v_getf_z, v_getf_r, v_putf_i, v_putf_z, v_putf_r, w_call0, w_call1, w_callv1, w_calli1, w_callt1, w_call2, w_callv2, w_calli2, w_callt2, w_call3, w_callv3, w_calli3, w_call4, w_callv4, w_calli4, w_call5, w_callv5, w_calli5, w_call6, w_callv6, w_calli6, w_call7, w_callv7, w_calli7, w_call8, w_callv8, w_calli8, c_if0_eq_t, c_if0_eq_f, c_if2_eq_t, c_if2_eq_f, c_if0_ne_t, c_if0_ne_f, c_if2_ne_t, c_if2_ne_f, c_if0_lt_t, c_if0_lt_f, c_if2_lt_t, c_if2_lt_f, c_if0_ge_t, c_if0_ge_f, c_if2_ge_t, c_if2_ge_f, c_if0_gt_t, c_if0_gt_f, c_if2_gt_t, c_if2_gt_f, c_if0_le_t, c_if0_le_f, c_if2_le_t, c_if2_le_f, w_nil, uI_s, uA_r, uA_s, uD_d, mPut_0, mCl_own, mCv_go, mCl_min, mCl_cpy, mCv_obj, mAct_len, mAct_chrc, mAft_v, mAft_n, mAft_x, mGet_0, mSet_0, mGet_1, mSet_1, mGet_2, mSet_2, mGet_3, mSet_3, mGet_4, mSet_4, mGet_5, mSet_5, mGet_6, mSet_6, mGet_7, mSet_7, mGet_8, mSet_8, mGet_9, mSet_9, mGet_10, mSet_10, mGet_11, mSet_11, mGet_12, mSet_12, mGet_13, mSet_13, bk_Br_init_40]
  exact kk S5 I5 b5
end KB
