/-! The office made: its branches, its other objects, its first text. -/
def yBr (S : mH) (b : Int) : Prop := (S.2.1 b = 2 ∧ S.1 b 0 = b + 1 ∧ yA S (b + 1) 60 7) ∧ ∀ t : Int, 0 ≤ t → t < 7 → S.1 (b + 1) t = b + 2 + 106 * t ∧ yB S (b + 2 + 106 * t)
section KR
variable {S S' S0 S1 : mH} {I I0 I1 : mN} {Q : mQ} {b i x q : Int} (D : Nat)
theorem hA_t2 {S S' S'' : mH} {lo hi lo' hi' : Int} (h : hA S S' lo hi) (h' : hA S' S'' lo' hi') (e0 : lo' ≤ lo) (e1 : hi ≤ hi') : hA S S'' lo hi := fun a a0 a1 => by
  obtain ⟨b1, b2, b3⟩ := h a a0 a1
  obtain ⟨c1, c2, c3⟩ := h' a (by omega) (by omega)
  exact ⟨c1.trans b1, c2.trans b2, c3.trans b3⟩
theorem yBr_h (h : yBr S b) (ha : hA S S' b (b + 744)) : yBr S' b := by
  obtain ⟨⟨h1, h2, h3, h4⟩, h5⟩ := h
  obtain ⟨a1, a2, a3⟩ := ha b (by omega) (by omega)
  obtain ⟨b1, b2, b3⟩ := ha (b + 1) (by omega) (by omega)
  refine ⟨⟨a2.trans h1, by rw [a1]; exact h2, b2.trans h3, b3.trans h4⟩, fun t t0 t1 => ⟨by rw [b1]; exact (h5 t t0 t1).1, yB_h (h5 t t0 t1).2 (fun a a0 a1 => ha a (by omega) (by omega))⟩⟩
/-- the office, as far as its branches are made -/
def kBs (b i : Int) (S0 : mH) (I0 : mN) (S : mH) (I : mN) : Prop := (S.2.1 b = 11 ∧ S.1 b 0 = b + 1 ∧ yA S (b + 1) 61 3) ∧ (∀ t : Int, 0 ≤ t → t < i → S.1 (b + 1) t = b + (2 + 744 * t) ∧ yBr S (b + (2 + 744 * t))) ∧
  (S.2.2.2.1 = b + 2 + 744 * i ∧ S.2.2.2.2 = S0.2.2.2.2 + 14 + 11322 * i) ∧ (∀ a : Int, a < b → I a = I0 a ∧ S.1 a = S0.1 a ∧ S.2.1 a = S0.2.1 a ∧ S.2.2.1 a = S0.2.2.1 a) ∧ I b = (fun _ => 0) ∧ ∀ a : Int, b < a → a < b + 2 + 744 * i → I a = (fun _ => 0)
theorem l_RS (b0 : 0 ≤ b) (k : ∀ (S : mH) (I : mN), kBs b 3 S0 I0 S I → mAt (mRun (D + 3)) 114 38 ([some (mR b), some (mI 3)], [], I, S) Q) : ∀ (n : Nat) (i : Int) (S : mH) (I : mN), i + n = 3 → 0 ≤ i → kBs b i S0 I0 S I → mAt (mRun (D + 3)) 114 14 ([some (mR b), some (mI i)], [], I, S) Q
  | 0, i, S, I, hn, i0, h => by
    obtain rfl : i = 3 := by omega
    rw [a_RS_init_14]
    simp (disch := first | omega | exact Nat.le_of_ble_eq_true rfl) only [w_iconst, w_bipush, w_sipush, w_ldc_s, w_ldcw_s, w_ldc_i, w_ldcw_i, w_lconst, w_fconst, w_dconst, w_iload, w_iload_n, w_aload, w_aload_n, w_dload, w_istore, w_istore_n, w_astore_r, w_astore_s, w_astore_n_r, w_astore_n_s, w_dstore, w_iinc, w_iadd, w_isub, w_imul, w_iand, w_iushr, v_idiv, v_irem, w_ineg, w_i2l, w_i2c, w_i2f, w_i2d, v_f2d, w_lcmp, w_dcmp, v_fdiv, v_ddiv, w_dup_i, w_dup_r, w_dup2, w_dup_x2, w_pop_i, w_pop_r, w_goto, w_switch, w_ret_i, v_ret_z, v_ret_c, w_ret_a, w_ret_s, w_ret_f, w_ret_d, w_ret_v, v_iaload, v_baload, v_caload, v_laload, v_aaload, v_iastore, v_bastore, v_castore, v_lastore, v_aastore, v_alen, v_newa, v_anewa, w_new, w_throw, w_dead, v_getf_i, v_getf_z, v_getf_r, v_putf_i, v_putf_z, v_putf_r, w_call0, w_call1, w_callv1, w_calli1, w_callt1, w_call2, w_callv2, w_calli2, w_callt2, w_call3, w_callv3, w_calli3, w_call4, w_callv4, w_calli4, w_call5, w_callv5, w_calli5, w_call6, w_callv6, w_calli6, w_call7, w_callv7, w_calli7, w_call8, w_callv8, w_calli8, c_if0_eq_t, c_if0_eq_f, c_if2_eq_t, c_if2_eq_f, c_if0_ne_t, c_if0_ne_f, c_if2_ne_t, c_if2_ne_f, c_if0_lt_t, c_if0_lt_f, c_if2_lt_t, c_if2_lt_f, c_if0_ge_t, c_if0_ge_f, c_if2_ge_t, c_if2_ge_f, c_if0_gt_t, c_if0_gt_f, c_if2_gt_t, c_if2_gt_f, c_if0_le_t, c_if0_le_f, c_if2_le_t, c_if2_le_f, w_nil, uI_s, uA_r, uA_s, uD_d, mPut_0, mCl_own, mCv_go, mCl_min, mCl_cpy, mCv_obj, mAct_len, mAct_chrc, mAft_v, mAft_n, mAft_x, mGet_0, mSet_0, mGet_1, mSet_1, mGet_2, mSet_2, mGet_3, mSet_3, mGet_4, mSet_4, mGet_5, mSet_5, mGet_6, mSet_6, mGet_7, mSet_7, mGet_8, mSet_8, mGet_9, mSet_9, mGet_10, mSet_10, mGet_11, mSet_11, mGet_12, mSet_12, mGet_13, mSet_13, bk_RS_init_14]
    exact k S I h
  | n + 1, i, S, I, hn, i0, h => by
    obtain ⟨⟨g1, g2, k1, l1⟩, g3, ⟨g4, g5⟩, g6, g7, g8⟩ := id h
    rw [a_RS_init_14]
    have hkk : (mNewH S 2 3).2.1 S.2.2.2.1 = 2 := uk_eq rfl
    simp (disch := first | omega | exact Nat.le_of_ble_eq_true rfl | (simp (disch := omega) only [g1, g2, hkk] <;> omega)) only [w_iconst, w_bipush, w_sipush, w_ldc_s, w_ldcw_s, w_ldc_i, w_ldcw_i, w_lconst, w_fconst, w_dconst, w_iload, w_iload_n, w_aload, w_aload_n, w_dload, w_istore, w_istore_n, w_astore_r, w_astore_s, w_astore_n_r, w_astore_n_s, w_dstore, w_iinc, w_iadd, w_isub, w_imul, w_iand, w_iushr, v_idiv, v_irem, w_ineg, w_i2l, w_i2c, w_i2f, w_i2d, v_f2d, w_lcmp, w_dcmp, v_fdiv, v_ddiv, w_dup_i, w_dup_r, w_dup2, w_dup_x2, w_pop_i, w_pop_r, w_goto, w_switch, w_ret_i, v_ret_z, v_ret_c, w_ret_a, w_ret_s, w_ret_f, w_ret_d, w_ret_v, v_iaload, v_baload, v_caload, v_laload, v_aaload, v_iastore, v_bastore, v_castore, v_lastore, v_aastore, v_alen, v_newa, v_anewa, w_new, w_throw, w_dead, v_getf_i, v_getf_z, v_getf_r, v_putf_i, v_putf_z, v_putf_r, w_call0, w_call1, w_callv1, w_calli1, w_callt1, w_call2, w_callv2, w_calli2, w_callt2, w_call3, w_callv3, w_calli3, w_call4, w_callv4, w_calli4, w_call5, w_callv5, w_calli5, w_call6, w_callv6, w_calli6, w_call7, w_callv7, w_calli7, w_call8, w_callv8, w_calli8, c_if0_eq_t, c_if0_eq_f, c_if2_eq_t, c_if2_eq_f, c_if0_ne_t, c_if0_ne_f, c_if2_ne_t, c_if2_ne_f, c_if0_lt_t, c_if0_lt_f, c_if2_lt_t, c_if2_lt_f, c_if0_ge_t, c_if0_ge_f, c_if2_ge_t, c_if2_ge_f, c_if0_gt_t, c_if0_gt_f, c_if2_gt_t, c_if2_gt_f, c_if0_le_t, c_if0_le_f, c_if2_le_t, c_if2_le_f, w_nil, uI_s, uA_r, uA_s, uD_d, mPut_0, mCl_own, mCv_go, mCl_min, mCl_cpy, mCv_obj, mAct_len, mAct_chrc, mAft_v, mAft_n, mAft_x, mGet_0, mSet_0, mGet_1, mSet_1, mGet_2, mSet_2, mGet_3, mSet_3, mGet_4, mSet_4, mGet_5, mSet_5, mGet_6, mSet_6, mGet_7, mSet_7, mGet_8, mSet_8, mGet_9, mSet_9, mGet_10, mSet_10, mGet_11, mSet_11, mGet_12, mSet_12, mGet_13, mSet_13, bk_RS_init_14, g1, g2, hkk]
    refine k_Br (S := S) (I := I) D rfl (by omega) (fun S1 I1 hh => ?_)
    obtain ⟨d1, d2, ⟨d3, d4⟩, d5, d6, d7⟩ := hh
    have m1 : S1.2.1 (b + 1) = 61 := (d5 _ (by omega)).2.2.1.trans k1
    have m2 : S1.2.2.1 (b + 1) = 3 := (d5 _ (by omega)).2.2.2.trans l1
    have m3 : S1.2.1 S.2.2.2.1 = 2 := d1.1
    simp (disch := first | omega | exact Nat.le_of_ble_eq_true rfl | (simp (disch := omega) only [m1, m2, m3] <;> omega)) only [w_iconst, w_bipush, w_sipush, w_ldc_s, w_ldcw_s, w_ldc_i, w_ldcw_i, w_lconst, w_fconst, w_dconst, w_iload, w_iload_n, w_aload, w_aload_n, w_dload, w_istore, w_istore_n, w_astore_r, w_astore_s, w_astore_n_r, w_astore_n_s, w_dstore, w_iinc, w_iadd, w_isub, w_imul, w_iand, w_iushr, v_idiv, v_irem, w_ineg, w_i2l, w_i2c, w_i2f, w_i2d, v_f2d, w_lcmp, w_dcmp, v_fdiv, v_ddiv, w_dup_i, w_dup_r, w_dup2, w_dup_x2, w_pop_i, w_pop_r, w_goto, w_switch, w_ret_i, v_ret_z, v_ret_c, w_ret_a, w_ret_s, w_ret_f, w_ret_d, w_ret_v, v_iaload, v_baload, v_caload, v_laload, v_aaload, v_iastore, v_bastore, v_castore, v_lastore, v_aastore, v_alen, v_newa, v_anewa, w_new, w_throw, w_dead, v_getf_i, v_getf_z, v_getf_r, v_putf_i, v_putf_z, v_putf_r, w_call0, w_call1, w_callv1, w_calli1, w_callt1, w_call2, w_callv2, w_calli2, w_callt2, w_call3, w_callv3, w_calli3, w_call4, w_callv4, w_calli4, w_call5, w_callv5, w_calli5, w_call6, w_callv6, w_calli6, w_call7, w_callv7, w_calli7, w_call8, w_callv8, w_calli8, c_if0_eq_t, c_if0_eq_f, c_if2_eq_t, c_if2_eq_f, c_if0_ne_t, c_if0_ne_f, c_if2_ne_t, c_if2_ne_f, c_if0_lt_t, c_if0_lt_f, c_if2_lt_t, c_if2_lt_f, c_if0_ge_t, c_if0_ge_f, c_if2_ge_t, c_if2_ge_f, c_if0_gt_t, c_if0_gt_f, c_if2_gt_t, c_if2_gt_f, c_if0_le_t, c_if0_le_f, c_if2_le_t, c_if2_le_f, w_nil, uI_s, uA_r, uA_s, uD_d, mPut_0, mCl_own, mCv_go, mCl_min, mCl_cpy, mCv_obj, mAct_len, mAct_chrc, mAft_v, mAft_n, mAft_x, mGet_0, mSet_0, mGet_1, mSet_1, mGet_2, mSet_2, mGet_3, mSet_3, mGet_4, mSet_4, mGet_5, mSet_5, mGet_6, mSet_6, mGet_7, mSet_7, mGet_8, mSet_8, mGet_9, mSet_9, mGet_10, mSet_10, mGet_11, mSet_11, mGet_12, mSet_12, mGet_13, mSet_13, m1, m2, m3, wr]
    have hqe : S.2.2.2.1 = b + (2 + 744 * i) := by omega
    refine l_RS b0 k n (i + 1) _ I1 (by omega) (by omega) ⟨⟨(d5 b (by omega)).2.2.1.trans g1, ?_, m1, m2⟩, fun t t0 t1 => ?_, ⟨?_, ?_⟩, fun a ha => ?_, ?_, fun a a0 a1 => ?_⟩
    · show (mUp S1.1 (b + 1) i S.2.2.2.1) b 0 = b + 1
      rw [up_fa (by omega), (d5 b (by omega)).2.1]; exact g2
    · show (mUp S1.1 (b + 1) i S.2.2.2.1) (b + 1) t = _ ∧ _
      by_cases e : t = i
      · subst e
        refine ⟨(up_eq rfl rfl).trans hqe, ?_⟩
        rw [← hqe]
        exact yBr_h ⟨d1, d2⟩ (fun a a0 a1 => ⟨up_fa (by omega), rfl, rfl⟩)
      · refine ⟨by rw [up_nk e, (d5 _ (by omega)).2.1]; exact (g3 t t0 (by omega)).1, yBr_h (g3 t t0 (by omega)).2 (fun a a0 a1 => ⟨(up_fa (by omega)).trans (d5 a (by omega)).2.1, (d5 a (by omega)).2.2⟩)⟩
    · show S1.2.2.2.1 = _
      omega
    · show S1.2.2.2.2 = _
      omega
    · obtain ⟨c1, c2, c3, c4⟩ := g6 a ha
      obtain ⟨e1, e2, e3, e4⟩ := d5 a (by omega)
      exact ⟨e1.trans c1, (up_fa (by omega)).trans (e2.trans c2), e3.trans c3, e4.trans c4⟩
    · rw [(d5 b (by omega)).1]; exact g7
    · by_cases e : a < S.2.2.2.1
      · rw [(d5 a e).1]; exact g8 a a0 (by omega)
      · by_cases e2 : a = S.2.2.2.1
        · rw [e2]; exact d6
        · exact d7 a (by omega) (by omega)
/-- an object made and put into a field of the office -/
def kNx (x f q w c : Int) (S : mH) (I : mN) (S1 T : mH) (I1 : mN) : Prop := (T.2.1 x = S.2.1 x ∧ T.1 x f = q ∧ ∀ g : Int, g ≠ f → T.1 x g = S.1 x g) ∧ hA S T (x + 1) q ∧ (∀ a : Int, a < x → T.1 a = S.1 a ∧ T.2.1 a = S.2.1 a ∧ T.2.2.1 a = S.2.2.1 a) ∧ (T.2.2.2.1 = q + w ∧ T.2.2.2.2 = S.2.2.2.2 + c) ∧ (∀ a : Int, a < q → I1 a = I a) ∧ hA S1 T q (q + w) ∧ ∀ a : Int, q < a → a < q + w → I1 a = (fun _ => 0)
theorem kN_x {f w c : Int} (h : kCo q w c S I S1 I1) (hx : x < q) : kNx x f q w c S I S1 (mUp S1.1 x f q, S1.2) I1 := by
  obtain ⟨h1, h2, h3, h4⟩ := h
  refine ⟨⟨(h1 x hx).2.2.1, up_eq rfl rfl, fun g hg => (up_nk hg).trans (by rw [(h1 x hx).2.1])⟩, fun a a0 a1 => ⟨(up_fa (by omega)).trans (h1 a a1).2.1, (h1 a a1).2.2⟩, fun a ha => ⟨(up_fa (by omega)).trans (h1 a (by omega)).2.1, (h1 a (by omega)).2.2⟩, ⟨h3, h4⟩, fun a ha => (h1 a ha).1, fun a a0 a1 => ⟨up_fa (by omega), rfl, rfl⟩, h2⟩
theorem kCo_na {k N : Int} (hq : S.2.2.2.1 = q) : kCo q 1 N S I (mNewH S k N) (mNewN I S) := ⟨fun a ha => ⟨ua_ne (by omega), ua_ne (by omega), uk_ne (by omega), uk_ne (by omega)⟩, fun a a0 a1 => by omega, by show S.2.2.2.1 + 1 = q + 1; omega, rfl⟩
theorem mTxt_p : ∀ k : Fin 37, ∀ v ∈ mTxs.getD k.val [], (0 : Int) < v ∧ v ≤ 255 := by decide +kernel
theorem mTxt_q {k : Nat} (hk : k < 37) {i : Int} (i0 : 0 ≤ i) (i1 : i < mLen k) : 0 < mTxt k i ∧ mTxt k i ≤ 255 := by
  have h := mTxt_p ⟨k, hk⟩
  unfold mLen at i1
  have hl : i.toNat < (mTx k).length := by omega
  have e : mTxt k i = (mTx k)[i.toNat] := by
    unfold mTxt
    rw [List.getD_eq_getElem?_getD, List.getElem?_eq_getElem hl]
    rfl
  rw [e]
  exact h _ (List.getElem_mem hl)
theorem mLen_q {k : Nat} (hk : k < 37) : 0 ≤ mLen k ∧ mLen k ≤ 400 := by
  have h9 : ∀ j : Fin 37, (mTxs.getD j.val []).length ≤ 400 := by decide +kernel
  have := h9 ⟨k, hk⟩
  have : (mTx k).length ≤ 400 := this
  unfold mLen
  omega
theorem l_addT {r : Int} {k : Nat} (hk : k < 37) (hr : yRd S r) : ∀ (n : Nat) (i : Int) (I : mN) (p : zTx), i + n = mLen k → 0 ≤ i → rTx I r p → 0 ≤ p.2 → p.2 + n ≤ 900 → (∀ I' : mN, rTx I' r (wT k n i p) → rTf I I' r → Q (.inl none) I' S) → mAt (mRun (D + 1)) 65 2 ([some (mR r), some (mS k), some (mI i)], [], I, S) Q
  | 0, i, I, p, hn, i0, hp, p0, p9, kk => by
    rw [a_Rd_addText_2]
    simp (disch := first | omega | exact Nat.le_of_ble_eq_true rfl) only [w_iconst, w_bipush, w_sipush, w_ldc_s, w_ldcw_s, w_ldc_i, w_ldcw_i, w_lconst, w_fconst, w_dconst, w_iload, w_iload_n, w_aload, w_aload_n, w_dload, w_istore, w_istore_n, w_astore_r, w_astore_s, w_astore_n_r, w_astore_n_s, w_dstore, w_iinc, w_iadd, w_isub, w_imul, w_iand, w_iushr, v_idiv, v_irem, w_ineg, w_i2l, w_i2c, w_i2f, w_i2d, v_f2d, w_lcmp, w_dcmp, v_fdiv, v_ddiv, w_dup_i, w_dup_r, w_dup2, w_dup_x2, w_pop_i, w_pop_r, w_goto, w_switch, w_ret_i, v_ret_z, v_ret_c, w_ret_a, w_ret_s, w_ret_f, w_ret_d, w_ret_v, v_iaload, v_baload, v_caload, v_laload, v_aaload, v_iastore, v_bastore, v_castore, v_lastore, v_aastore, v_alen, v_newa, v_anewa, w_new, w_throw, w_dead, v_getf_i, v_getf_z, v_getf_r, v_putf_i, v_putf_z, v_putf_r, w_call0, w_call1, w_callv1, w_calli1, w_callt1, w_call2, w_callv2, w_calli2, w_callt2, w_call3, w_callv3, w_calli3, w_call4, w_callv4, w_calli4, w_call5, w_callv5, w_calli5, w_call6, w_callv6, w_calli6, w_call7, w_callv7, w_calli7, w_call8, w_callv8, w_calli8, c_if0_eq_t, c_if0_eq_f, c_if2_eq_t, c_if2_eq_f, c_if0_ne_t, c_if0_ne_f, c_if2_ne_t, c_if2_ne_f, c_if0_lt_t, c_if0_lt_f, c_if2_lt_t, c_if2_lt_f, c_if0_ge_t, c_if0_ge_f, c_if2_ge_t, c_if2_ge_f, c_if0_gt_t, c_if0_gt_f, c_if2_gt_t, c_if2_gt_f, c_if0_le_t, c_if0_le_f, c_if2_le_t, c_if2_le_f, w_nil, uI_s, uA_r, uA_s, uD_d, mPut_0, mCl_own, mCv_go, mCl_min, mCl_cpy, mCv_obj, mAct_len, mAct_chrc, mAft_v, mAft_n, mAft_x, mGet_0, mSet_0, mGet_1, mSet_1, mGet_2, mSet_2, mGet_3, mSet_3, mGet_4, mSet_4, mGet_5, mSet_5, mGet_6, mSet_6, mGet_7, mSet_7, mGet_8, mSet_8, mGet_9, mSet_9, mGet_10, mSet_10, mGet_11, mSet_11, mGet_12, mSet_12, mGet_13, mSet_13, bk_Rd_addText_2, a_Rd_addText_25, bk_Rd_addText_25]
    exact kk I hp ⟨fun _ _ _ => rfl, fun _ _ => rfl⟩
  | n + 1, i, I, p, hn, i0, hp, p0, p9, kk => by
    have hi : i < mLen k := by omega
    have hb := mTxt_q hk i0 hi
    have hl := (mLen_q hk).2
    rw [a_Rd_addText_2]
    simp (disch := first | omega | exact Nat.le_of_ble_eq_true rfl | (simp (disch := omega) only [yr_k hr] <;> omega)) only [w_iconst, w_bipush, w_sipush, w_ldc_s, w_ldcw_s, w_ldc_i, w_ldcw_i, w_lconst, w_fconst, w_dconst, w_iload, w_iload_n, w_aload, w_aload_n, w_dload, w_istore, w_istore_n, w_astore_r, w_astore_s, w_astore_n_r, w_astore_n_s, w_dstore, w_iinc, w_iadd, w_isub, w_imul, w_iand, w_iushr, v_idiv, v_irem, w_ineg, w_i2l, w_i2c, w_i2f, w_i2d, v_f2d, w_lcmp, w_dcmp, v_fdiv, v_ddiv, w_dup_i, w_dup_r, w_dup2, w_dup_x2, w_pop_i, w_pop_r, w_goto, w_switch, w_ret_i, v_ret_z, v_ret_c, w_ret_a, w_ret_s, w_ret_f, w_ret_d, w_ret_v, v_iaload, v_baload, v_caload, v_laload, v_aaload, v_iastore, v_bastore, v_castore, v_lastore, v_aastore, v_alen, v_newa, v_anewa, w_new, w_throw, w_dead, v_getf_i, v_getf_z, v_getf_r, v_putf_i, v_putf_z, v_putf_r, w_call0, w_call1, w_callv1, w_calli1, w_callt1, w_call2, w_callv2, w_calli2, w_callt2, w_call3, w_callv3, w_calli3, w_call4, w_callv4, w_calli4, w_call5, w_callv5, w_calli5, w_call6, w_callv6, w_calli6, w_call7, w_callv7, w_calli7, w_call8, w_callv8, w_calli8, c_if0_eq_t, c_if0_eq_f, c_if2_eq_t, c_if2_eq_f, c_if0_ne_t, c_if0_ne_f, c_if2_ne_t, c_if2_ne_f, c_if0_lt_t, c_if0_lt_f, c_if2_lt_t, c_if2_lt_f, c_if0_ge_t, c_if0_ge_f, c_if2_ge_t, c_if2_ge_f, c_if0_gt_t, c_if0_gt_f, c_if2_gt_t, c_if2_gt_f, c_if0_le_t, c_if0_le_f, c_if2_le_t, c_if2_le_f, w_nil, uI_s, uA_r, uA_s, uD_d, mPut_0, mCl_own, mCv_go, mCl_min, mCl_cpy, mCv_obj, mAct_len, mAct_chrc, mAft_v, mAft_n, mAft_x, mGet_0, mSet_0, mGet_1, mSet_1, mGet_2, mSet_2, mGet_3, mSet_3, mGet_4, mSet_4, mGet_5, mSet_5, mGet_6, mSet_6, mGet_7, mSet_7, mGet_8, mSet_8, mGet_9, mSet_9, mGet_10, mSet_10, mGet_11, mSet_11, mGet_12, mSet_12, mGet_13, mSet_13, bk_Rd_addText_2, yr_k hr]
    refine p_addByte D hr hp p0 (by omega) hb.1 hb.2 (fun I1 h1 f1 => ?_)
    have e : zA1 (mTxt k i) p = wC (mTxt k i) p := if_neg (by omega)
    rw [e] at h1
    simp (disch := first | omega | exact Nat.le_of_ble_eq_true rfl) only [w_iconst, w_bipush, w_sipush, w_ldc_s, w_ldcw_s, w_ldc_i, w_ldcw_i, w_lconst, w_fconst, w_dconst, w_iload, w_iload_n, w_aload, w_aload_n, w_dload, w_istore, w_istore_n, w_astore_r, w_astore_s, w_astore_n_r, w_astore_n_s, w_dstore, w_iinc, w_iadd, w_isub, w_imul, w_iand, w_iushr, v_idiv, v_irem, w_ineg, w_i2l, w_i2c, w_i2f, w_i2d, v_f2d, w_lcmp, w_dcmp, v_fdiv, v_ddiv, w_dup_i, w_dup_r, w_dup2, w_dup_x2, w_pop_i, w_pop_r, w_goto, w_switch, w_ret_i, v_ret_z, v_ret_c, w_ret_a, w_ret_s, w_ret_f, w_ret_d, w_ret_v, v_iaload, v_baload, v_caload, v_laload, v_aaload, v_iastore, v_bastore, v_castore, v_lastore, v_aastore, v_alen, v_newa, v_anewa, w_new, w_throw, w_dead, v_getf_i, v_getf_z, v_getf_r, v_putf_i, v_putf_z, v_putf_r, w_call0, w_call1, w_callv1, w_calli1, w_callt1, w_call2, w_callv2, w_calli2, w_callt2, w_call3, w_callv3, w_calli3, w_call4, w_callv4, w_calli4, w_call5, w_callv5, w_calli5, w_call6, w_callv6, w_calli6, w_call7, w_callv7, w_calli7, w_call8, w_callv8, w_calli8, c_if0_eq_t, c_if0_eq_f, c_if2_eq_t, c_if2_eq_f, c_if0_ne_t, c_if0_ne_f, c_if2_ne_t, c_if2_ne_f, c_if0_lt_t, c_if0_lt_f, c_if2_lt_t, c_if2_lt_f, c_if0_ge_t, c_if0_ge_f, c_if2_ge_t, c_if2_ge_f, c_if0_gt_t, c_if0_gt_f, c_if2_gt_t, c_if2_gt_f, c_if0_le_t, c_if0_le_f, c_if2_le_t, c_if2_le_f, w_nil, uI_s, uA_r, uA_s, uD_d, mPut_0, mCl_own, mCv_go, mCl_min, mCl_cpy, mCv_obj, mAct_len, mAct_chrc, mAft_v, mAft_n, mAft_x, mGet_0, mSet_0, mGet_1, mSet_1, mGet_2, mSet_2, mGet_3, mSet_3, mGet_4, mSet_4, mGet_5, mSet_5, mGet_6, mSet_6, mGet_7, mSet_7, mGet_8, mSet_8, mGet_9, mSet_9, mGet_10, mSet_10, mGet_11, mSet_11, mGet_12, mSet_12, mGet_13, mSet_13, wr]
    exact l_addT hk hr n (i + 1) I1 _ (by omega) (by omega) h1 (by show 0 ≤ p.2 + 1; omega) (by show p.2 + 1 + (n : Int) ≤ 900; omega) (fun I' h' f' => kk I' h' (rTf_t f1 f'))
theorem p_addT {r : Int} {k : Nat} {p : zTx} (hk : k < 37) (hr : yRd S r) (hp : rTx I r p) (p0 : 0 ≤ p.2) (p9 : p.2 + mLen k ≤ 900) (kk : ∀ I' : mN, rTx I' r (wW k p) → rTf I I' r → Q (.inl none) I' S) : mRun (D + 2) 65 [mR r, mS k] I S Q := by
  have h0 := (mLen_q hk).1
  simp (disch := first | omega | exact Nat.le_of_ble_eq_true rfl) only [w_iconst, w_bipush, w_sipush, w_ldc_s, w_ldcw_s, w_ldc_i, w_ldcw_i, w_lconst, w_fconst, w_dconst, w_iload, w_iload_n, w_aload, w_aload_n, w_dload, w_istore, w_istore_n, w_astore_r, w_astore_s, w_astore_n_r, w_astore_n_s, w_dstore, w_iinc, w_iadd, w_isub, w_imul, w_iand, w_iushr, v_idiv, v_irem, w_ineg, w_i2l, w_i2c, w_i2f, w_i2d, v_f2d, w_lcmp, w_dcmp, v_fdiv, v_ddiv, w_dup_i, w_dup_r, w_dup2, w_dup_x2, w_pop_i, w_pop_r, w_goto, w_switch, w_ret_i, v_ret_z, v_ret_c, w_ret_a, w_ret_s, w_ret_f, w_ret_d, w_ret_v, v_iaload, v_baload, v_caload, v_laload, v_aaload, v_iastore, v_bastore, v_castore, v_lastore, v_aastore, v_alen, v_newa, v_anewa, w_new, w_throw, w_dead, v_getf_i, v_getf_z, v_getf_r, v_putf_i, v_putf_z, v_putf_r, w_call0, w_call1, w_callv1, w_calli1, w_callt1, w_call2, w_callv2, w_calli2, w_callt2, w_call3, w_callv3, w_calli3, w_call4, w_callv4, w_calli4, w_call5, w_callv5, w_calli5, w_call6, w_callv6, w_calli6, w_call7, w_callv7, w_calli7, w_call8, w_callv8, w_calli8, c_if0_eq_t, c_if0_eq_f, c_if2_eq_t, c_if2_eq_f, c_if0_ne_t, c_if0_ne_f, c_if2_ne_t, c_if2_ne_f, c_if0_lt_t, c_if0_lt_f, c_if2_lt_t, c_if2_lt_f, c_if0_ge_t, c_if0_ge_f, c_if2_ge_t, c_if2_ge_f, c_if0_gt_t, c_if0_gt_f, c_if2_gt_t, c_if2_gt_f, c_if0_le_t, c_if0_le_f, c_if2_le_t, c_if2_le_f, w_nil, uI_s, uA_r, uA_s, uD_d, mPut_0, mCl_own, mCv_go, mCl_min, mCl_cpy, mCv_obj, mAct_len, mAct_chrc, mAft_v, mAft_n, mAft_x, mGet_0, mSet_0, mGet_1, mSet_1, mGet_2, mSet_2, mGet_3, mSet_3, mGet_4, mSet_4, mGet_5, mSet_5, mGet_6, mSet_6, mGet_7, mSet_7, mGet_8, mSet_8, mGet_9, mSet_9, mGet_10, mSet_10, mGet_11, mSet_11, mGet_12, mSet_12, mGet_13, mSet_13, e_Rd_addText, a_Rd_addText_0, bk_Rd_addText_0]
  exact l_addT D hk hr (mLen k).toNat 0 I p (by omega) (Int.le_refl 0) hp p0 (by omega) kk
end KR
/-! The pieces of the first text, put together. -/
def wLs (p : zTx) (l : List Int) : Prop := p.2 = ((l.length : Nat) : Int) ∧ ∀ i : Int, 0 ≤ i → i < p.2 → p.1 i = l.getD i.toNat 0
theorem wLs_c {p : zTx} {l : List Int} {v : Int} (h : wLs p l) : wLs (wC v p) (l ++ [v]) := by
  obtain ⟨h1, h2⟩ := h
  refine ⟨by rw [wC_2, h1, List.length_append]; show _ = (((l.length + 1 : Nat)) : Int); omega, fun i i0 i1 => ?_⟩
  have i1 : i < p.2 + 1 := i1
  show zU p.1 p.2 v i = _
  by_cases e : i = p.2
  · rw [zU_eq e, List.getD_eq_getElem?_getD, List.getElem?_append_right (by omega), show i.toNat - l.length = 0 by omega]
    rfl
  · rw [zU_ne e, h2 i i0 (by omega), List.getD_eq_getElem?_getD, List.getD_eq_getElem?_getD, List.getElem?_append_left (by omega)]
theorem wLs_t {k : Nat} : ∀ (n i : Nat) (p : zTx) (l : List Int), i + n = (mTx k).length → wLs p l → wLs (wT k n (i : Int) p) (l ++ (mTx k).drop i)
  | 0, i, p, l, hn, h => by
    rw [List.drop_eq_nil_of_le (by omega), List.append_nil]; exact h
  | n + 1, i, p, l, hn, h => by
    have hl : i < (mTx k).length := by omega
    have ih := wLs_t (k := k) n (i + 1) (wC (mTxt k i) p) (l ++ [mTxt k i]) (by omega) (wLs_c h)
    have e : mTxt k (i : Int) = (mTx k)[i] := by
      unfold mTxt
      rw [List.getD_eq_getElem?_getD, show ((i : Int)).toNat = i by omega, List.getElem?_eq_getElem hl]
      rfl
    rw [List.drop_eq_getElem_cons hl, ← e]
    rw [List.append_assoc] at ih
    exact ih
theorem wLs_w {k : Nat} {p : zTx} {l : List Int} (h : wLs p l) : wLs (wW k p) (l ++ mTx k) := by
  have h9 := wLs_t (k := k) (mTx k).length 0 p l (by omega) h
  unfold wW
  rw [show (mLen k).toNat = (mTx k).length by unfold mLen; omega]
  exact h9
def wFst : zTx := wW 34 (wW 33 (wW 32 (wW 31 (wW 30 (wW 29 (wW 28 (fun _ => 0, 0)))))))
theorem wFst_l : [] ++ mTx 28 ++ mTx 29 ++ mTx 30 ++ mTx 31 ++ mTx 32 ++ mTx 33 ++ mTx 34 = mTx 36 := by decide +kernel
theorem wFst_e : wFst.2 = 361 ∧ ∀ i : Int, 0 ≤ i → i < 361 → wFst.1 i = mTxt 36 i := by
  have h0 : wLs (fun _ => 0, 0) [] := ⟨rfl, fun i i0 i1 => by have i1 : i < 0 := i1; omega⟩
  have h := wLs_w (k := 34) (wLs_w (k := 33) (wLs_w (k := 32) (wLs_w (k := 31) (wLs_w (k := 30) (wLs_w (k := 29) (wLs_w (k := 28) h0))))))
  rw [wFst_l] at h
  have hl : (mTx 36).length = 361 := by decide +kernel
  have e : wFst.2 = 361 := by
    have := h.1
    rw [hl] at this
    exact this
  refine ⟨e, fun i i0 i1 => h.2 i i0 ?_⟩
  show i < wFst.2
  omega
/-- the first basin -/
noncomputable def sFst : sT := (qTop (mTxt 36) 361).2.2
noncomputable def gSt : gT := (fun i => if i = 0 then 1 else if i = 3 then -1 else if i = 5 then -1 else 0, fun k j => if k = 0 ∧ j = 0 then sFst else fun _ => 0, fun _ _ => 0)
theorem sFst_w : sWf sFst ∧ sZ sFst := qTop_p (by decide) (by decide) tTop
theorem gSt_0 : gSt.2.1 0 0 = sFst := by
  show (if (0 : Int) = 0 ∧ (0 : Int) = 0 then sFst else fun _ => 0) = sFst
  exact if_pos ⟨rfl, rfl⟩
theorem gSt_b (k : Int) (k0 : 0 ≤ k) : gSt.1 (10 + k) = 0 ∧ gSt.1 (20 + k) = 0 := ⟨by
  show (if 10 + k = 0 then (1 : Int) else if 10 + k = 3 then -1 else if 10 + k = 5 then -1 else 0) = 0
  rw [if_neg (by omega), if_neg (by omega), if_neg (by omega)], by
  show (if 20 + k = 0 then (1 : Int) else if 20 + k = 3 then -1 else if 20 + k = 5 then -1 else 0) = 0
  rw [if_neg (by omega), if_neg (by omega), if_neg (by omega)]⟩
theorem gSt_v : gSt.1 0 = 1 ∧ gSt.1 1 = 0 ∧ gSt.1 2 = 0 ∧ gSt.1 3 = -1 ∧ gSt.1 4 = 0 ∧ gSt.1 5 = -1 := ⟨rfl, rfl, rfl, rfl, rfl, rfl⟩
theorem gSt_W : gWf gSt := by
  obtain ⟨v0, v1, v2, v3, v4, v5⟩ := gSt_v
  refine ⟨by rw [v0]; decide, by rw [v0, v1]; decide, fun k k0 k1 => ?_, fun k j k0 k1 j0 j1 => ?_, ⟨by rw [v2]; decide, fun i i0 i1 => ?_⟩, fun v _ _ => Or.inl rfl, by rw [v4]; decide, Or.inl v5⟩
  · rw [(gSt_b k k0).1, (gSt_b k k0).2]
    exact ⟨by decide, fun _ => rfl⟩
  · rw [v0] at k1
    rw [(gSt_b k k0).2] at j1
    obtain rfl : k = 0 := by omega
    obtain rfl : j = 0 := by omega
    rw [gSt_0]
    exact sFst_w
  · rw [v2] at i1; omega
theorem gSt_5 : gC5 gSt := fun k j k0 k1 j0 j1 => by
  rw [gSt_v.1] at k1
  rw [(gSt_b k k0).2] at j1
  obtain rfl : k = 0 := by omega
  obtain rfl : j = 0 := by omega
  rw [gSt_0]
  exact qTop_5 (by decide) (by decide) tTop
theorem gSt_O : (gSt.2.1 (gSt.1 1) (gSt.1 (10 + gSt.1 1))) = sFst := by
  show gSt.2.1 (gSt.1 1) (gSt.1 (10 + gSt.1 1)) = sFst
  rw [gSt_v.2.1, (gSt_b 0 (Int.le_refl 0)).1]
  exact gSt_0
theorem zB1 : (0 : Int) ≤ 0 ∧ (0 : Int) ≤ 1000 := by decide
theorem zB2 : (-1000000 : Int) ≤ 0 ∧ (0 : Int) ≤ 1000000 := by decide
theorem yOk_0 {I : mN} {b : Int} (h : ∀ a : Int, b ≤ a → a < b + 106 → I a = (fun _ => 0)) : yOk I b := by
  have hb := h b (by omega) (by omega)
  refine ⟨⟨?_, fun p p0 p1 => ?_, fun r r0 r1 => ?_, fun r r0 r1 => ?_⟩, fun r r0 r1 => ?_, fun r r0 r1 => ?_, fun s s0 s1 => ?_, ?_⟩
  · rw [hb]; decide
  · rw [h (b + (5 + 4 * p)) (by omega) (by omega), h (b + (5 + 4 * p) + 1) (by omega) (by omega), h (b + (5 + 4 * p) + 3) (by omega) (by omega)]
    exact ⟨by decide, fun j _ _ => zB1, fun j _ _ => zB1⟩
  · rw [h (b + (29 + 3 * r)) (by omega) (by omega), h (b + (29 + 3 * r) + 1) (by omega) (by omega), h (b + (29 + 3 * r) + 2) (by omega) (by omega)]
    exact ⟨by decide, fun j _ _ => ⟨zB1, zB1⟩⟩
  · rw [hb] at r1
    have r1 : r < 0 := r1
    omega
  · rw [h (b + (56 + 5 * r)) (by omega) (by omega), h (b + (56 + 5 * r) + 3) (by omega) (by omega), h (b + (56 + 5 * r) + 4) (by omega) (by omega)]
    exact ⟨by decide, by decide, fun j _ _ => zB2, fun j _ _ => zB1⟩
  · rw [hb] at r1
    have r1 : r < 0 := r1
    omega
  · rw [h (b + 4) (by omega) (by omega)]; exact Or.inl rfl
  · rw [hb]; exact Or.inl rfl
