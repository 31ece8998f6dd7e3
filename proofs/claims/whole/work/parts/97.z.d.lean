/-! Calls of the model: what they refuse. -/
section OC
variable {S : mH} {I : mN} {m z : Int} {G : gT} {Q : mQ} (D : Nat)
theorem oR_g (h : oR S I m G) {S' : mH} {I' : mN} (hm : yM S' m) (hC : kC2 I' m ((G.2.1 (G.1 1) (G.1 (10 + G.1 1))))) (h20 : I' (m + 20) = I (m + 20)) (h22 : I' (m + 22) = I (m + 22)) (h23 : I' (m + 23) = I (m + 23)) (h24 : I' (m + 24) = I (m + 24)) (h40 : I' (m + 40) = I (m + 40)) (h43 : I' (m + 43) = I (m + 43))
    (hf : ∀ f : Int, f = 26 ∨ f = 27 ∨ f = 28 ∨ f = 29 ∨ f = 55 ∨ f = 61 ∨ f = 64 → I' m f = I m f) (hz : ∀ c : Int, c < 0 ∨ 1395 ≤ c → I' (m + 25) c = 0 ∧ zDra (I' (m + 42)) ∧ I' (m + 44) c = 0) : oR S' I' m G := by
  obtain ⟨-, -, g3, g4, ⟨g50, g51, g52, g53⟩, g6, ⟨g70, g71, g72⟩, ⟨g80, g81⟩, -⟩ := h
  refine ⟨hm, hC, ?_, ?_, ⟨?_, ?_, ?_, ?_⟩, ?_, ⟨?_, ?_, ?_⟩, ⟨?_, ?_⟩, hz⟩
  · rw [h22]; exact g3
  · rw [h23, h24]; exact g4
  · rw [hf 26 (by omega)]; exact g50
  · rw [hf 27 (by omega)]; exact g51
  · rw [hf 28 (by omega)]; exact g52
  · rw [hf 29 (by omega)]; exact g53
  · rw [h20]; exact g6
  · rw [hf 55 (by omega)]; exact g70
  · rw [hf 61 (by omega)]; exact g71
  · rw [h40]; exact g72
  · rw [hf 64 (by omega)]; exact g80
  · rw [h43]; exact g81
theorem oR_z {z' : Int} (h : oR (mSx S m z) I m G) : oR (mSx S m z') I m G := oR_g h (by have := yM_x (z := z') h.1; rw [mSx_x] at this; exact this) h.2.1 rfl rfl rfl rfl rfl rfl (fun _ _ => rfl) h.2.2.2.2.2.2.2.2
theorem oR_k {I' : mN} {z' : Int} (h : oR (mSx S m z) I m G) (hf : kFw I I' m) (hC : kC2 I' m ((G.2.1 (G.1 1) (G.1 (10 + G.1 1))))) : oR (mSx S m z') I' m G := by
  obtain ⟨f1, f2⟩ := hf
  have e : ∀ a : Int, (m + 19 < a ∧ a < m + 33) ∨ m + 39 < a → I' a = I a := fun a ha => f1 a (by omega) (by omega) (by omega)
  refine oR_g h (oR_z h).1 hC (e _ (by omega)) (e _ (by omega)) (e _ (by omega)) (e _ (by omega)) (e _ (by omega)) (e _ (by omega)) (fun f hf => f2 f (by omega) (by omega)) (fun c hc => ?_)
  rw [e (m + 25) (by omega), e (m + 42) (by omega), e (m + 44) (by omega)]
  exact h.2.2.2.2.2.2.2.2 c hc
theorem kC2_1 {v : Int} {σ : sT} (h : kC2 I m σ) : kC2 (mUp I m 1 v) m σ := by
  obtain ⟨h1, h2, h3⟩ := h
  have e : ∀ a : Int, a ≠ m → mUp I m 1 v a = I a := fun a ha => up_fa ha
  refine ⟨by rw [e _ (by omega)]; exact h1, fun s s0 s1 => ?_, kWo_k h3 (up_nk (by decide)) (e _ (by omega)) (e _ (by omega)) (e _ (by omega))⟩
  rw [e (m + 16) (by omega), e (m + 13 + s) (by omega)]
  exact h2 s s0 s1
theorem oR_1 {v : Int} (h : oR S I m G) : oR S (mUp I m 1 v) m G := by
  have e : ∀ a : Int, a ≠ m → mUp I m 1 v a = I a := fun a ha => up_fa ha
  refine oR_g h h.1 (kC2_1 h.2.1) (e _ (by omega)) (e _ (by omega)) (e _ (by omega)) (e _ (by omega)) (e _ (by omega)) (e _ (by omega)) (fun f hf => up_nk (by omega)) (fun c hc => ?_)
  rw [e (m + 25) (by omega), e (m + 42) (by omega), e (m + 44) (by omega)]
  exact h.2.2.2.2.2.2.2.2 c hc
theorem oFm_1 {k v : Int} : oFm I (mUp I m k v) m := fun a ha => up_fa (by omega)
theorem kFw_J {I' : mN} (h : kFw I I' m) : oFm I I' m := fun a ha => h.1 a (by omega) (by omega) (by omega)
/-- a call that refuses or only tells -/
theorem oSay {I' : mN} {z' t v : Int} {l : List Nat} {q : mZ} (h : oR (mSx S m z') I' m G) (hf : oFm I I' m) (ht : zTh l q = t) (hv : ∀ u : Int, q = .inl (some (mI u)) → v = u) (kk : oK S I m Q l (q, G)) : Q (.inl (some (mI v))) (mUp I' m 1 t) (mSx S m z') :=
  kk _ z' v (oR_1 h) (oFm_t hf oFm_1) (by rw [up_eq rfl rfl, ht]) hv
theorem oSay2 {I' : mN} {z' v : Int} {l : List Nat} {q : mZ} (h : oR (mSx S m z') I' m G) (hf : oFm I I' m) (ht : I' m 1 = zTh l q) (hv : ∀ u : Int, q = .inl (some (mI u)) → v = u) (kk : oK S I m Q l (q, G)) : Q (.inl (some (mI v))) I' (mSx S m z') :=
  kk _ z' v h hf ht hv
theorem oV {v u : Int} (h : (.inl (some (mI v)) : mZ) = .inl (some (mI u))) : v = u := Sum.inl.inj (Option.some.inj (Sum.inl.inj h))
theorem oNo {v u : Int} {e : Nat} (h : (.inr e : mZ) = .inl (some (mI u))) : v = u := by cases h
theorem r_f1_1 (hm : yM S m) : mRun (D + 1) 196 [mR m, mI 1] I S Q = Q (.inl (some (mI 1))) (mUp I m 1 0) S := r_fits D hm (Or.inr rfl) I
theorem r_f1_0 (hm : yM S m) : mRun (D + 1) 196 [mR m, mI 0] I S Q = Q (.inl (some (mI 0))) (mUp I m 1 1) S := r_fits D hm (Or.inl rfl) I
theorem r_f2_11 (hm : yM S m) : mRun (D + 1) 197 [mR m, mI 1, mI 1] I S Q = Q (.inl (some (mI 1))) (mUp I m 1 0) S := r_fits2 D hm (Or.inr rfl) (Or.inr rfl) I
theorem r_f2_10 (hm : yM S m) : mRun (D + 1) 197 [mR m, mI 1, mI 0] I S Q = Q (.inl (some (mI 0))) (mUp I m 1 2) S := r_fits2 D hm (Or.inr rfl) (Or.inl rfl) I
theorem r_f2_00 (hm : yM S m) : mRun (D + 1) 197 [mR m, mI 0, mI 0] I S Q = Q (.inl (some (mI 0))) (mUp I m 1 1) S := r_fits2 D hm (Or.inl rfl) (Or.inl rfl) I
theorem r_f2_01 (hm : yM S m) : mRun (D + 1) 197 [mR m, mI 0, mI 1] I S Q = Q (.inl (some (mI 0))) (mUp I m 1 1) S := r_fits2 D hm (Or.inl rfl) (Or.inr rfl) I
theorem r_f3_111 (hm : yM S m) : mRun (D + 1) 198 [mR m, mI 1, mI 1, mI 1] I S Q = Q (.inl (some (mI 1))) (mUp I m 1 0) S := r_fits3 D hm (Or.inr rfl) (Or.inr rfl) (Or.inr rfl) I
theorem r_f3_110 (hm : yM S m) : mRun (D + 1) 198 [mR m, mI 1, mI 1, mI 0] I S Q = Q (.inl (some (mI 0))) (mUp I m 1 3) S := r_fits3 D hm (Or.inr rfl) (Or.inr rfl) (Or.inl rfl) I
theorem r_f3_10 (hm : yM S m) {c : Int} (hc : c = 0 ∨ c = 1) : mRun (D + 1) 198 [mR m, mI 1, mI 0, mI c] I S Q = Q (.inl (some (mI 0))) (mUp I m 1 2) S := r_fits3 D hm (Or.inr rfl) (Or.inl rfl) hc I
theorem r_f3_0 (hm : yM S m) {b c : Int} (hb : b = 0 ∨ b = 1) (hc : c = 0 ∨ c = 1) : mRun (D + 1) 198 [mR m, mI 0, mI b, mI c] I S Q = Q (.inl (some (mI 0))) (mUp I m 1 1) S := r_fits3 D hm (Or.inl rfl) hb hc I
theorem r_oP_t {p : Int} {σ : sT} (hm : yM S m) (hw : sWf σ) (hI : I (m + 1) = σ) (p0 : 0 ≤ p) (p1 : p < σ 1) : mRun (D + 2) 199 [mR (m + 1), mI p] I S Q = Q (.inl (some (mI 1))) I S := by
  have := hw.1.2.1
  rw [r_isPlace D (ym_k0 hm) (ym_l0 hm) (by rw [hI]; omega) (by rw [hI]; omega), hI, if_pos ⟨p0, p1⟩]
theorem r_oP_f {p : Int} {σ : sT} (hm : yM S m) (hw : sWf σ) (hI : I (m + 1) = σ) (hp : p < 0 ∨ σ 1 ≤ p) : mRun (D + 2) 199 [mR (m + 1), mI p] I S Q = Q (.inl (some (mI 0))) I S := by
  have := hw.1.2.1
  rw [r_isPlace D (ym_k0 hm) (ym_l0 hm) (by rw [hI]; omega) (by rw [hI]; omega), hI, if_neg (by omega)]
theorem r_oE_t {p : Int} {σ : sT} (hm : yM S m) (hw : sWf σ) (hI : I (m + 1) = σ) (p0 : 0 ≤ p) (p1 : p < σ 2) : mRun (D + 2) 200 [mR (m + 1), mI p] I S Q = Q (.inl (some (mI 1))) I S := by
  have := hw.1.2.2.1
  rw [r_isReach D (ym_k0 hm) (ym_l0 hm) (by rw [hI]; omega) (by rw [hI]; omega), hI, if_pos ⟨p0, p1⟩]
theorem r_oE_f {p : Int} {σ : sT} (hm : yM S m) (hw : sWf σ) (hI : I (m + 1) = σ) (hp : p < 0 ∨ σ 2 ≤ p) : mRun (D + 2) 200 [mR (m + 1), mI p] I S Q = Q (.inl (some (mI 0))) I S := by
  have := hw.1.2.2.1
  rw [r_isReach D (ym_k0 hm) (ym_l0 hm) (by rw [hI]; omega) (by rw [hI]; omega), hI, if_neg (by omega)]
theorem r_oI_t {p : Int} {σ : sT} (hm : yM S m) (hw : sWf σ) (hI : I (m + 1) = σ) (p0 : 0 ≤ p) (p1 : p < σ 3) : mRun (D + 2) 201 [mR (m + 1), mI p] I S Q = Q (.inl (some (mI 1))) I S := by
  have := hw.1.2.2.2
  rw [r_isRight D (ym_k0 hm) (ym_l0 hm) (by rw [hI]; omega) (by rw [hI]; omega), hI, if_pos ⟨p0, p1⟩]
theorem r_oI_f {p : Int} {σ : sT} (hm : yM S m) (hw : sWf σ) (hI : I (m + 1) = σ) (hp : p < 0 ∨ σ 3 ≤ p) : mRun (D + 2) 201 [mR (m + 1), mI p] I S Q = Q (.inl (some (mI 0))) I S := by
  have := hw.1.2.2.2
  rw [r_isRight D (ym_k0 hm) (ym_l0 hm) (by rw [hI]; omega) (by rw [hI]; omega), hI, if_neg (by omega)]
theorem r_oC_t {p : Int} (p0 : 0 ≤ p) (p1 : p < 3) : mRun (D + 2) 202 [mI p] I S Q = Q (.inl (some (mI 1))) I S := by rw [r_isScen, if_pos ⟨p0, p1⟩]
theorem r_oC_f {p : Int} (hp : p < 0 ∨ 3 ≤ p) : mRun (D + 2) 202 [mI p] I S Q = Q (.inl (some (mI 0))) I S := by rw [r_isScen, if_neg (by omega)]
theorem r_oW_t {p : Int} (p0 : 0 ≤ p) (p1 : p < 8) : mRun (D + 2) 203 [mI p] I S Q = Q (.inl (some (mI 1))) I S := by rw [r_misWeek, if_pos ⟨p0, p1⟩]
theorem r_oW_f {p : Int} (hp : p < 0 ∨ 8 ≤ p) : mRun (D + 2) 203 [mI p] I S Q = Q (.inl (some (mI 0))) I S := by rw [r_misWeek, if_neg (by omega)]
theorem r_oN_t {v lo hi : Int} (h0 : lo ≤ v) (h1 : v ≤ hi) : mRun (D + 1) 194 [mI v, mI lo, mI hi] I S Q = Q (.inl (some (mI 1))) I S := by rw [r_min, if_pos ⟨h0, h1⟩]
theorem r_oN_f {v lo hi : Int} (h : v < lo ∨ hi < v) : mRun (D + 1) 194 [mI v, mI lo, mI hi] I S Q = Q (.inl (some (mI 0))) I S := by rw [r_min, if_neg (by omega)]
theorem r_ocI {s p w : Int} (s0 : -100 ≤ s) (s1 : s ≤ 100) (p0 : -100 ≤ p) (p1 : p ≤ 100) (w0 : -100 ≤ w) (w1 : w ≤ 100) : mRun (D + 1) 264 [mI s, mI p, mI w] I S Q = Q (.inl (some (mI (115 + 48 * s + 8 * p + w)))) I S := by
  simp (disch := first | omega | exact Nat.le_of_ble_eq_true rfl) only [w_iconst, w_bipush, w_sipush, w_ldc_s, w_ldcw_s, w_ldc_i, w_ldcw_i, w_lconst, w_fconst, w_dconst, w_iload, w_iload_n, w_aload, w_aload_n, w_dload, w_istore, w_istore_n, w_astore_r, w_astore_s, w_astore_n_r, w_astore_n_s, w_dstore, w_iinc, w_iadd, w_isub, w_imul, w_iand, w_iushr, v_idiv, v_irem, w_ineg, w_i2l, w_i2c, w_i2f, w_i2d, v_f2d, w_lcmp, w_dcmp, v_fdiv, v_ddiv, w_dup_i, w_dup_r, w_dup2, w_dup_x2, w_pop_i, w_pop_r, w_goto, w_switch, w_ret_i, v_ret_z, v_ret_c, w_ret_a, w_ret_s, w_ret_f, w_ret_d, w_ret_v, v_iaload, v_baload, v_caload, v_laload, v_aaload, v_iastore, v_bastore, v_castore, v_lastore, v_aastore, v_alen, v_newa, v_anewa, w_new, w_throw, w_dead, v_getf_i, v_getf_z, v_getf_r, v_putf_i, v_putf_z, v_putf_r, w_call0, w_call1, w_callv1, w_calli1, w_callt1, w_call2, w_callv2, w_calli2, w_callt2, w_call3, w_callv3, w_calli3, w_call4, w_callv4, w_calli4, w_call5, w_callv5, w_calli5, w_call6, w_callv6, w_calli6, w_call7, w_callv7, w_calli7, w_call8, w_callv8, w_calli8, c_if0_eq_t, c_if0_eq_f, c_if2_eq_t, c_if2_eq_f, c_if0_ne_t, c_if0_ne_f, c_if2_ne_t, c_if2_ne_f, c_if0_lt_t, c_if0_lt_f, c_if2_lt_t, c_if2_lt_f, c_if0_ge_t, c_if0_ge_f, c_if2_ge_t, c_if2_ge_f, c_if0_gt_t, c_if0_gt_f, c_if2_gt_t, c_if2_gt_f, c_if0_le_t, c_if0_le_f, c_if2_le_t, c_if2_le_f, w_nil, uI_s, uA_r, uA_s, uD_d, mPut_0, mCl_own, mCv_go, mCl_min, mCl_cpy, mCv_obj, mAct_len, mAct_chrc, mAft_v, mAft_n, mAft_x, mGet_0, mSet_0, mGet_1, mSet_1, mGet_2, mSet_2, mGet_3, mSet_3, mGet_4, mSet_4, mGet_5, mSet_5, mGet_6, mSet_6, mGet_7, mSet_7, mGet_8, mSet_8, mGet_9, mSet_9, mGet_10, mSet_10, mGet_11, mSet_11, mGet_12, mSet_12, mGet_13, mSet_13, e_Mo_inflowCell, a_Mo_inflowCell_0, bk_Mo_inflowCell_0, wr]
theorem r_ocS {p : Int} (p0 : -100 ≤ p) (p1 : p ≤ 100) : mRun (D + 1) 265 [mI p] I S Q = Q (.inl (some (mI (4 + 2 * p + 1)))) I S := by
  simp (disch := first | omega | exact Nat.le_of_ble_eq_true rfl) only [w_iconst, w_bipush, w_sipush, w_ldc_s, w_ldcw_s, w_ldc_i, w_ldcw_i, w_lconst, w_fconst, w_dconst, w_iload, w_iload_n, w_aload, w_aload_n, w_dload, w_istore, w_istore_n, w_astore_r, w_astore_s, w_astore_n_r, w_astore_n_s, w_dstore, w_iinc, w_iadd, w_isub, w_imul, w_iand, w_iushr, v_idiv, v_irem, w_ineg, w_i2l, w_i2c, w_i2f, w_i2d, v_f2d, w_lcmp, w_dcmp, v_fdiv, v_ddiv, w_dup_i, w_dup_r, w_dup2, w_dup_x2, w_pop_i, w_pop_r, w_goto, w_switch, w_ret_i, v_ret_z, v_ret_c, w_ret_a, w_ret_s, w_ret_f, w_ret_d, w_ret_v, v_iaload, v_baload, v_caload, v_laload, v_aaload, v_iastore, v_bastore, v_castore, v_lastore, v_aastore, v_alen, v_newa, v_anewa, w_new, w_throw, w_dead, v_getf_i, v_getf_z, v_getf_r, v_putf_i, v_putf_z, v_putf_r, w_call0, w_call1, w_callv1, w_calli1, w_callt1, w_call2, w_callv2, w_calli2, w_callt2, w_call3, w_callv3, w_calli3, w_call4, w_callv4, w_calli4, w_call5, w_callv5, w_calli5, w_call6, w_callv6, w_calli6, w_call7, w_callv7, w_calli7, w_call8, w_callv8, w_calli8, c_if0_eq_t, c_if0_eq_f, c_if2_eq_t, c_if2_eq_f, c_if0_ne_t, c_if0_ne_f, c_if2_ne_t, c_if2_ne_f, c_if0_lt_t, c_if0_lt_f, c_if2_lt_t, c_if2_lt_f, c_if0_ge_t, c_if0_ge_f, c_if2_ge_t, c_if2_ge_f, c_if0_gt_t, c_if0_gt_f, c_if2_gt_t, c_if2_gt_f, c_if0_le_t, c_if0_le_f, c_if2_le_t, c_if2_le_f, w_nil, uI_s, uA_r, uA_s, uD_d, mPut_0, mCl_own, mCv_go, mCl_min, mCl_cpy, mCv_obj, mAct_len, mAct_chrc, mAft_v, mAft_n, mAft_x, mGet_0, mSet_0, mGet_1, mSet_1, mGet_2, mSet_2, mGet_3, mSet_3, mGet_4, mSet_4, mGet_5, mSet_5, mGet_6, mSet_6, mGet_7, mSet_7, mGet_8, mSet_8, mGet_9, mSet_9, mGet_10, mSet_10, mGet_11, mSet_11, mGet_12, mSet_12, mGet_13, mSet_13, e_Mo_storageCell, a_Mo_storageCell_0, bk_Mo_storageCell_0, wr]
theorem r_ocE {p : Int} (p0 : -100 ≤ p) (p1 : p ≤ 100) : mRun (D + 1) 266 [mI p] I S Q = Q (.inl (some (mI (16 + 11 * p)))) I S := by
  simp (disch := first | omega | exact Nat.le_of_ble_eq_true rfl) only [w_iconst, w_bipush, w_sipush, w_ldc_s, w_ldcw_s, w_ldc_i, w_ldcw_i, w_lconst, w_fconst, w_dconst, w_iload, w_iload_n, w_aload, w_aload_n, w_dload, w_istore, w_istore_n, w_astore_r, w_astore_s, w_astore_n_r, w_astore_n_s, w_dstore, w_iinc, w_iadd, w_isub, w_imul, w_iand, w_iushr, v_idiv, v_irem, w_ineg, w_i2l, w_i2c, w_i2f, w_i2d, v_f2d, w_lcmp, w_dcmp, v_fdiv, v_ddiv, w_dup_i, w_dup_r, w_dup2, w_dup_x2, w_pop_i, w_pop_r, w_goto, w_switch, w_ret_i, v_ret_z, v_ret_c, w_ret_a, w_ret_s, w_ret_f, w_ret_d, w_ret_v, v_iaload, v_baload, v_caload, v_laload, v_aaload, v_iastore, v_bastore, v_castore, v_lastore, v_aastore, v_alen, v_newa, v_anewa, w_new, w_throw, w_dead, v_getf_i, v_getf_z, v_getf_r, v_putf_i, v_putf_z, v_putf_r, w_call0, w_call1, w_callv1, w_calli1, w_callt1, w_call2, w_callv2, w_calli2, w_callt2, w_call3, w_callv3, w_calli3, w_call4, w_callv4, w_calli4, w_call5, w_callv5, w_calli5, w_call6, w_callv6, w_calli6, w_call7, w_callv7, w_calli7, w_call8, w_callv8, w_calli8, c_if0_eq_t, c_if0_eq_f, c_if2_eq_t, c_if2_eq_f, c_if0_ne_t, c_if0_ne_f, c_if2_ne_t, c_if2_ne_f, c_if0_lt_t, c_if0_lt_f, c_if2_lt_t, c_if2_lt_f, c_if0_ge_t, c_if0_ge_f, c_if2_ge_t, c_if2_ge_f, c_if0_gt_t, c_if0_gt_f, c_if2_gt_t, c_if2_gt_f, c_if0_le_t, c_if0_le_f, c_if2_le_t, c_if2_le_f, w_nil, uI_s, uA_r, uA_s, uD_d, mPut_0, mCl_own, mCv_go, mCl_min, mCl_cpy, mCv_obj, mAct_len, mAct_chrc, mAft_v, mAft_n, mAft_x, mGet_0, mSet_0, mGet_1, mSet_1, mGet_2, mSet_2, mGet_3, mSet_3, mGet_4, mSet_4, mGet_5, mSet_5, mGet_6, mSet_6, mGet_7, mSet_7, mGet_8, mSet_8, mGet_9, mSet_9, mGet_10, mSet_10, mGet_11, mSet_11, mGet_12, mSet_12, mGet_13, mSet_13, e_Mo_reachCell, a_Mo_reachCell_0, bk_Mo_reachCell_0, wr]
theorem r_ocR {p : Int} (p0 : -100 ≤ p) (p1 : p ≤ 100) : mRun (D + 1) 267 [mI p] I S Q = Q (.inl (some (mI (259 + 76 * p)))) I S := by
  simp (disch := first | omega | exact Nat.le_of_ble_eq_true rfl) only [w_iconst, w_bipush, w_sipush, w_ldc_s, w_ldcw_s, w_ldc_i, w_ldcw_i, w_lconst, w_fconst, w_dconst, w_iload, w_iload_n, w_aload, w_aload_n, w_dload, w_istore, w_istore_n, w_astore_r, w_astore_s, w_astore_n_r, w_astore_n_s, w_dstore, w_iinc, w_iadd, w_isub, w_imul, w_iand, w_iushr, v_idiv, v_irem, w_ineg, w_i2l, w_i2c, w_i2f, w_i2d, v_f2d, w_lcmp, w_dcmp, v_fdiv, v_ddiv, w_dup_i, w_dup_r, w_dup2, w_dup_x2, w_pop_i, w_pop_r, w_goto, w_switch, w_ret_i, v_ret_z, v_ret_c, w_ret_a, w_ret_s, w_ret_f, w_ret_d, w_ret_v, v_iaload, v_baload, v_caload, v_laload, v_aaload, v_iastore, v_bastore, v_castore, v_lastore, v_aastore, v_alen, v_newa, v_anewa, w_new, w_throw, w_dead, v_getf_i, v_getf_z, v_getf_r, v_putf_i, v_putf_z, v_putf_r, w_call0, w_call1, w_callv1, w_calli1, w_callt1, w_call2, w_callv2, w_calli2, w_callt2, w_call3, w_callv3, w_calli3, w_call4, w_callv4, w_calli4, w_call5, w_callv5, w_calli5, w_call6, w_callv6, w_calli6, w_call7, w_callv7, w_calli7, w_call8, w_callv8, w_calli8, c_if0_eq_t, c_if0_eq_f, c_if2_eq_t, c_if2_eq_f, c_if0_ne_t, c_if0_ne_f, c_if2_ne_t, c_if2_ne_f, c_if0_lt_t, c_if0_lt_f, c_if2_lt_t, c_if2_lt_f, c_if0_ge_t, c_if0_ge_f, c_if2_ge_t, c_if2_ge_f, c_if0_gt_t, c_if0_gt_f, c_if2_gt_t, c_if2_gt_f, c_if0_le_t, c_if0_le_f, c_if2_le_t, c_if2_le_f, w_nil, uI_s, uA_r, uA_s, uD_d, mPut_0, mCl_own, mCv_go, mCl_min, mCl_cpy, mCv_obj, mAct_len, mAct_chrc, mAft_v, mAft_n, mAft_x, mGet_0, mSet_0, mGet_1, mSet_1, mGet_2, mSet_2, mGet_3, mSet_3, mGet_4, mSet_4, mGet_5, mSet_5, mGet_6, mSet_6, mGet_7, mSet_7, mGet_8, mSet_8, mGet_9, mSet_9, mGet_10, mSet_10, mGet_11, mSet_11, mGet_12, mSet_12, mGet_13, mSet_13, e_Mo_rightCell, a_Mo_rightCell_0, bk_Mo_rightCell_0, wr]
theorem oAsk {σ : sT} {s : Int} (hm : yM S m) (hw : sWf σ) (s0 : 0 ≤ s) (s1 : s < 3) : kAsk S (D + 9) m (m + 1) s σ := kAsk_all D hm (kSa_1 hm) (by omega) (by omega) hw s0 s1
theorem yM_u (h : yM (mSx S m z) m) : yM S m := yM_h h (fun k hk => (up_nk hk).symm) (fun _ _ _ => ⟨rfl, rfl⟩)
end OC
