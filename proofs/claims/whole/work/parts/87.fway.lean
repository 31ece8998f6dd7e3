/-! The office's way: all sendings, week by week. -/
def zPk (cnt td K : Int) : Int → Bool := fun c => decide ((0 ≤ c ∧ c < 72) ∧ c / 8 < cnt ∧ td ≤ c % 8 ∧ zKy c < K)
theorem zPk_t {cnt td K c : Int} : zPk cnt td K c = true ↔ ((0 ≤ c ∧ c < 72) ∧ c / 8 < cnt ∧ td ≤ c % 8 ∧ zKy c < K) := ⟨fun h => of_decide_eq_true h, fun h => decide_eq_true h⟩
theorem zPk_f {cnt td K c : Int} : zPk cnt td K c = false ↔ ¬ ((0 ≤ c ∧ c < 72) ∧ c / 8 < cnt ∧ td ≤ c % 8 ∧ zKy c < K) := ⟨fun h => of_decide_eq_false h, fun h => decide_eq_false h⟩
theorem zPk_step {cnt td r w : Int} (r0 : 0 ≤ r) (r1 : r < cnt) (hc : cnt ≤ 9) (w0 : td ≤ w) (hw : 0 ≤ w) (w1 : w < 8) : zPu (zPk cnt td (16 * w + r)) (r * 8 + w) = zPk cnt td (16 * w + (r + 1)) := by
  funext c
  by_cases h : c = r * 8 + w
  · rw [zPu_eq h]
    refine (zPk_t.mpr ?_).symm
    unfold zKy; omega
  · rw [zPu_ne h]
    unfold zPk
    refine decide_eq_decide.mpr ?_
    unfold zKy
    omega
theorem zPk_row {cnt td w : Int} (hc : cnt ≤ 9) : zPk cnt td (16 * w + cnt) = zPk cnt td (16 * (w + 1) + 0) := by
  funext c
  unfold zPk
  refine decide_eq_decide.mpr ?_
  unfold zKy
  omega
theorem zKy_rw {r w : Int} (h0 : 0 ≤ w) (h1 : w < 8) : zKy (r * 8 + w) = 16 * w + r := by unfold zKy; omega
def nFw (I : mN) (n : Int) (I0 : mN) (b : Int) (N : zNet) (Dm : Int → Int) (K : Int) : Prop :=
  ∃ y : Int → Int, nWy I n N Dm y (zPk (I0 b 2) (I0 b 0) K) ∧ (∀ c : Int, zPk (I0 b 2) (I0 b 0) K c = true → I (b + (29 + 3 * (c / 8)) + 2) (c % 8) = y c ∧ (0 ≤ y c ∧ y c ≤ 1000) ∧ (N.1 c = false → y c = 0) ∧ (N.1 c = true → ∀ f' : Int → Int, zFl N f' Dm → (∀ d : Int, 0 ≤ d → d < 72 → N.1 d = true → zKy d < zKy c → f' d = y d) → y c ≤ f' c)) ∧
  (∀ r : Int, 0 ≤ r → r < 9 → ∀ j : Int, (0 ≤ j → j < 8 → zPk (I0 b 2) (I0 b 0) K (r * 8 + j) = false) → I (b + (29 + 3 * r) + 2) j = I0 (b + (29 + 3 * r) + 2) j) ∧
  (∀ a : Int, (a < n ∨ n + 15 ≤ a) → (∀ i : Int, 0 ≤ i → i < 9 → a ≠ b + (29 + 3 * i) + 2) → I a = I0 a) ∧ I n 1 = I0 b 0 ∧ I (n + 14) = I0 (n + 14)
section FW
variable {n e b : Int} {S : mH} {Q : mQ} (D : Nat) {I0 : mN} {N : zNet} {Dm : Int → Int}
theorem l_fw1 (hn : yNe S n e) (hB : yB S b) (hd : b + 106 ≤ n ∨ n + 15 ≤ b) (ht0 : 0 ≤ I0 b 0) (hr0 : 0 ≤ I0 b 2) (hr9 : I0 b 2 ≤ 9) (hlive : ∀ a : Int, 0 ≤ a → a < 72 → N.1 a = true → a / 8 < I0 b 2 ∧ I0 b 0 ≤ a % 8) (hD0 : ∀ v : Int, 0 ≤ v → v < 48 → 0 ≤ Dm v) (hsu : ∀ v : Int, 0 ≤ v → v < 48 → N.2.2.2.2 v ≤ 100000) {w : Int} (w0 : I0 b 0 ≤ w) (w1 : w < 8) :
    ∀ (c : Nat) {r : Int} {I : mN}, 0 ≤ r → r + c = I0 b 2 → nFw I n I0 b N Dm (16 * w + r) → (∀ I' : mN, nFw I' n I0 b N Dm (16 * w + I0 b 2) → mAt (mRun (D + 5)) 40 69 ([some (mR n), some (mR b), some (mI w), some (mI (I0 b 2))], [], I', S) Q) →
    mAt (mRun (D + 5)) 40 38 ([some (mR n), some (mR b), some (mI w), some (mI r)], [], I, S) Q
  | 0, r, I, r0, r1, hF, k => by
    obtain rfl : r = I0 b 2 := by omega
    obtain ⟨y, h1, h2, h3, h4, h5, h6⟩ := id hF
    have e0 : I b = I0 b := h4 b (by omega) (fun i i0 i1 => by omega)
    simp (disch := first | omega | exact Nat.le_of_ble_eq_true rfl | (simp (disch := omega) only [yb_k hB] <;> omega)) only [w_iconst, w_bipush, w_sipush, w_ldc_s, w_ldcw_s, w_ldc_i, w_ldcw_i, w_lconst, w_fconst, w_dconst, w_iload, w_iload_n, w_aload, w_aload_n, w_dload, w_istore, w_istore_n, w_astore_r, w_astore_s, w_astore_n_r, w_astore_n_s, w_dstore, w_iinc, w_iadd, w_isub, w_imul, w_iand, w_iushr, v_idiv, v_irem, w_ineg, w_i2l, w_i2c, w_i2f, w_i2d, v_f2d, w_lcmp, w_dcmp, v_fdiv, v_ddiv, w_dup_i, w_dup_r, w_dup2, w_dup_x2, w_pop_i, w_pop_r, w_goto, w_switch, w_ret_i, v_ret_z, v_ret_c, w_ret_a, w_ret_s, w_ret_f, w_ret_d, w_ret_v, v_iaload, v_baload, v_caload, v_laload, v_aaload, v_iastore, v_bastore, v_castore, v_lastore, v_aastore, v_alen, v_newa, v_anewa, w_new, w_throw, w_dead, v_getf_i, v_getf_z, v_getf_r, v_putf_i, v_putf_z, v_putf_r, w_call0, w_call1, w_callv1, w_calli1, w_callt1, w_call2, w_callv2, w_calli2, w_callt2, w_call3, w_callv3, w_calli3, w_call4, w_callv4, w_calli4, w_call5, w_callv5, w_calli5, w_call6, w_callv6, w_calli6, w_call7, w_callv7, w_calli7, w_call8, w_callv8, w_calli8, c_if0_eq_t, c_if0_eq_f, c_if2_eq_t, c_if2_eq_f, c_if0_ne_t, c_if0_ne_f, c_if2_ne_t, c_if2_ne_f, c_if0_lt_t, c_if0_lt_f, c_if2_lt_t, c_if2_lt_f, c_if0_ge_t, c_if0_ge_f, c_if2_ge_t, c_if2_ge_f, c_if0_gt_t, c_if0_gt_f, c_if2_gt_t, c_if2_gt_f, c_if0_le_t, c_if0_le_f, c_if2_le_t, c_if2_le_f, w_nil, uI_s, uA_r, uA_s, uD_d, mPut_0, mCl_own, mCv_go, mCl_min, mCl_cpy, mCv_obj, mAct_len, mAct_chrc, mAft_v, mAft_n, mAft_x, mGet_0, mSet_0, mGet_1, mSet_1, mGet_2, mSet_2, mGet_3, mSet_3, mGet_4, mSet_4, mGet_5, mSet_5, mGet_6, mSet_6, mGet_7, mSet_7, mGet_8, mSet_8, mGet_9, mSet_9, mGet_10, mSet_10, mGet_11, mSet_11, mGet_12, mSet_12, mGet_13, mSet_13, a_Ne_findWay_38, bk_Ne_findWay_38, yb_k hB, e0]
    exact k I hF
  | c + 1, r, I, r0, r1, hF, k => by
    obtain ⟨y, h1, h2, h3, h4, h5, h6⟩ := id hF
    have e0 : I b = I0 b := h4 b (by omega) (fun i i0 i1 => by omega)
    have hw0 : 0 ≤ w := by omega
    have hP : zPk (I0 b 2) (I0 b 0) (16 * w + r) (r * 8 + w) = false := zPk_f.mpr (by unfold zKy; omega)
    rw [a_Ne_findWay_38]
    simp (disch := first | omega | exact Nat.le_of_ble_eq_true rfl | (simp (disch := omega) only [yn_k hn, yb_k hB, yb_4 hB, yb_5 hB, yb_6 hB, yb_7 hB, yb_k1 hB, yb_l1 hB, yb_k2 hB, yb_l2 hB, yb_k3 hB, yb_l3 hB, yb_k4 hB, yb_l4 hB, yb_p hB, yb_pk hB, yb_p1 hB, yb_pk1 hB, yb_pl1 hB, yb_p2 hB, yb_pk2 hB, yb_pl2 hB, yb_p3 hB, yb_pk3 hB, yb_pl3 hB, yb_r hB, yb_rk hB, yb_r3 hB, yb_rk3 hB, yb_rl3 hB, yb_r4 hB, yb_rk4 hB, yb_rl4 hB, yb_g hB, yb_gk hB, yb_g7 hB, yb_gk7 hB, yb_gl7 hB, yb_g8 hB, yb_gk8 hB, yb_gl8 hB, yb_g9 hB, yb_gk9 hB, yb_gl9 hB, yb_g10 hB, yb_gk10 hB, yb_gl10 hB] <;> omega)) only [w_iconst, w_bipush, w_sipush, w_ldc_s, w_ldcw_s, w_ldc_i, w_ldcw_i, w_lconst, w_fconst, w_dconst, w_iload, w_iload_n, w_aload, w_aload_n, w_dload, w_istore, w_istore_n, w_astore_r, w_astore_s, w_astore_n_r, w_astore_n_s, w_dstore, w_iinc, w_iadd, w_isub, w_imul, w_iand, w_iushr, v_idiv, v_irem, w_ineg, w_i2l, w_i2c, w_i2f, w_i2d, v_f2d, w_lcmp, w_dcmp, v_fdiv, v_ddiv, w_dup_i, w_dup_r, w_dup2, w_dup_x2, w_pop_i, w_pop_r, w_goto, w_switch, w_ret_i, v_ret_z, v_ret_c, w_ret_a, w_ret_s, w_ret_f, w_ret_d, w_ret_v, v_iaload, v_baload, v_caload, v_laload, v_aaload, v_iastore, v_bastore, v_castore, v_lastore, v_aastore, v_alen, v_newa, v_anewa, w_new, w_throw, w_dead, v_getf_i, v_getf_z, v_getf_r, v_putf_i, v_putf_z, v_putf_r, w_call0, w_call1, w_callv1, w_calli1, w_callt1, w_call2, w_callv2, w_calli2, w_callt2, w_call3, w_callv3, w_calli3, w_call4, w_callv4, w_calli4, w_call5, w_callv5, w_calli5, w_call6, w_callv6, w_calli6, w_call7, w_callv7, w_calli7, w_call8, w_callv8, w_calli8, c_if0_eq_t, c_if0_eq_f, c_if2_eq_t, c_if2_eq_f, c_if0_ne_t, c_if0_ne_f, c_if2_ne_t, c_if2_ne_f, c_if0_lt_t, c_if0_lt_f, c_if2_lt_t, c_if2_lt_f, c_if0_ge_t, c_if0_ge_f, c_if2_ge_t, c_if2_ge_f, c_if0_gt_t, c_if0_gt_f, c_if2_gt_t, c_if2_gt_f, c_if0_le_t, c_if0_le_f, c_if2_le_t, c_if2_le_f, w_nil, uI_s, uA_r, uA_s, uD_d, mPut_0, mCl_own, mCv_go, mCl_min, mCl_cpy, mCv_obj, mAct_len, mAct_chrc, mAft_v, mAft_n, mAft_x, mGet_0, mSet_0, mGet_1, mSet_1, mGet_2, mSet_2, mGet_3, mSet_3, mGet_4, mSet_4, mGet_5, mSet_5, mGet_6, mSet_6, mGet_7, mSet_7, mGet_8, mSet_8, mGet_9, mSet_9, mGet_10, mSet_10, mGet_11, mSet_11, mGet_12, mSet_12, mGet_13, mSet_13, bk_Ne_findWay_38, yn_k hn, yb_k hB, yb_4 hB, yb_5 hB, yb_6 hB, yb_7 hB, yb_k1 hB, yb_l1 hB, yb_k2 hB, yb_l2 hB, yb_k3 hB, yb_l3 hB, yb_k4 hB, yb_l4 hB, yb_p hB, yb_pk hB, yb_p1 hB, yb_pk1 hB, yb_pl1 hB, yb_p2 hB, yb_pk2 hB, yb_pl2 hB, yb_p3 hB, yb_pk3 hB, yb_pl3 hB, yb_r hB, yb_rk hB, yb_r3 hB, yb_rk3 hB, yb_rl3 hB, yb_r4 hB, yb_rk4 hB, yb_rl4 hB, yb_g hB, yb_gk hB, yb_g7 hB, yb_gk7 hB, yb_gl7 hB, yb_g8 hB, yb_gk8 hB, yb_gl8 hB, yb_g9 hB, yb_gk9 hB, yb_gl9 hB, yb_g10 hB, yb_gk10 hB, yb_gl10 hB, e0]
    refine p_settle (D := D) hn h1 hD0 hsu r0 (by omega) (by rw [h5]; exact w0) w1 hP (fun x I1 x0 x1 hW fr hdead hmin => ?_)
    have f1 := fr.1
    rw [zPk_step r0 (by omega) hr9 w0 hw0 w1] at hW
    simp (disch := first | omega | exact Nat.le_of_ble_eq_true rfl | (simp (disch := omega) only [yn_k hn, yb_k hB, yb_4 hB, yb_5 hB, yb_6 hB, yb_7 hB, yb_k1 hB, yb_l1 hB, yb_k2 hB, yb_l2 hB, yb_k3 hB, yb_l3 hB, yb_k4 hB, yb_l4 hB, yb_p hB, yb_pk hB, yb_p1 hB, yb_pk1 hB, yb_pl1 hB, yb_p2 hB, yb_pk2 hB, yb_pl2 hB, yb_p3 hB, yb_pk3 hB, yb_pl3 hB, yb_r hB, yb_rk hB, yb_r3 hB, yb_rk3 hB, yb_rl3 hB, yb_r4 hB, yb_rk4 hB, yb_rl4 hB, yb_g hB, yb_gk hB, yb_g7 hB, yb_gk7 hB, yb_gl7 hB, yb_g8 hB, yb_gk8 hB, yb_gl8 hB, yb_g9 hB, yb_gk9 hB, yb_gl9 hB, yb_g10 hB, yb_gk10 hB, yb_gl10 hB] <;> omega)) only [w_iconst, w_bipush, w_sipush, w_ldc_s, w_ldcw_s, w_ldc_i, w_ldcw_i, w_lconst, w_fconst, w_dconst, w_iload, w_iload_n, w_aload, w_aload_n, w_dload, w_istore, w_istore_n, w_astore_r, w_astore_s, w_astore_n_r, w_astore_n_s, w_dstore, w_iinc, w_iadd, w_isub, w_imul, w_iand, w_iushr, v_idiv, v_irem, w_ineg, w_i2l, w_i2c, w_i2f, w_i2d, v_f2d, w_lcmp, w_dcmp, v_fdiv, v_ddiv, w_dup_i, w_dup_r, w_dup2, w_dup_x2, w_pop_i, w_pop_r, w_goto, w_switch, w_ret_i, v_ret_z, v_ret_c, w_ret_a, w_ret_s, w_ret_f, w_ret_d, w_ret_v, v_iaload, v_baload, v_caload, v_laload, v_aaload, v_iastore, v_bastore, v_castore, v_lastore, v_aastore, v_alen, v_newa, v_anewa, w_new, w_throw, w_dead, v_getf_i, v_getf_z, v_getf_r, v_putf_i, v_putf_z, v_putf_r, w_call0, w_call1, w_callv1, w_calli1, w_callt1, w_call2, w_callv2, w_calli2, w_callt2, w_call3, w_callv3, w_calli3, w_call4, w_callv4, w_calli4, w_call5, w_callv5, w_calli5, w_call6, w_callv6, w_calli6, w_call7, w_callv7, w_calli7, w_call8, w_callv8, w_calli8, c_if0_eq_t, c_if0_eq_f, c_if2_eq_t, c_if2_eq_f, c_if0_ne_t, c_if0_ne_f, c_if2_ne_t, c_if2_ne_f, c_if0_lt_t, c_if0_lt_f, c_if2_lt_t, c_if2_lt_f, c_if0_ge_t, c_if0_ge_f, c_if2_ge_t, c_if2_ge_f, c_if0_gt_t, c_if0_gt_f, c_if2_gt_t, c_if2_gt_f, c_if0_le_t, c_if0_le_f, c_if2_le_t, c_if2_le_f, w_nil, uI_s, uA_r, uA_s, uD_d, mPut_0, mCl_own, mCv_go, mCl_min, mCl_cpy, mCv_obj, mAct_len, mAct_chrc, mAft_v, mAft_n, mAft_x, mGet_0, mSet_0, mGet_1, mSet_1, mGet_2, mSet_2, mGet_3, mSet_3, mGet_4, mSet_4, mGet_5, mSet_5, mGet_6, mSet_6, mGet_7, mSet_7, mGet_8, mSet_8, mGet_9, mSet_9, mGet_10, mSet_10, mGet_11, mSet_11, mGet_12, mSet_12, mGet_13, mSet_13, yn_k hn, yb_k hB, yb_4 hB, yb_5 hB, yb_6 hB, yb_7 hB, yb_k1 hB, yb_l1 hB, yb_k2 hB, yb_l2 hB, yb_k3 hB, yb_l3 hB, yb_k4 hB, yb_l4 hB, yb_p hB, yb_pk hB, yb_p1 hB, yb_pk1 hB, yb_pl1 hB, yb_p2 hB, yb_pk2 hB, yb_pl2 hB, yb_p3 hB, yb_pk3 hB, yb_pl3 hB, yb_r hB, yb_rk hB, yb_r3 hB, yb_rk3 hB, yb_rl3 hB, yb_r4 hB, yb_rk4 hB, yb_rl4 hB, yb_g hB, yb_gk hB, yb_g7 hB, yb_gk7 hB, yb_gl7 hB, yb_g8 hB, yb_gk8 hB, yb_gl8 hB, yb_g9 hB, yb_gk9 hB, yb_gl9 hB, yb_g10 hB, yb_gk10 hB, yb_gl10 hB, wr]
    have eK : ∀ a : Int, a < n ∨ n + 15 ≤ a → I1 a = I a := fun a ha => f1 a (by omega) (by omega) (by omega) (by omega) (by omega) (by omega) (by omega) (by omega)
    have jne : ∀ a : Int, a ≠ b + (29 + 3 * r) + 2 → (mUp I1 (b + (29 + 3 * r) + 2) w x) a = I1 a := fun a ha => up_fa ha
    have hst : ∀ c : Int, zPk (I0 b 2) (I0 b 0) (16 * w + (r + 1)) c = true → c = r * 8 + w ∨ (c ≠ r * 8 + w ∧ zPk (I0 b 2) (I0 b 0) (16 * w + r) c = true) := fun c hc => by
      rw [← zPk_step r0 (by omega) hr9 w0 hw0 w1] at hc
      by_cases h : c = r * 8 + w
      · exact Or.inl h
      · rw [zPu_ne h] at hc; exact Or.inr ⟨h, hc⟩
    refine l_fw1 hn hB hd ht0 hr0 hr9 hlive hD0 hsu w0 w1 c (by omega) (by omega) ⟨zU y (r * 8 + w) x, ?_, fun c hc => ?_, fun r' q0 q1 j hj => ?_, fun a a0 a1 => ?_, ?_, ?_⟩ k
    · unfold nWy nN nOldQ at hW ⊢
      rw [jne n (by omega), jne (n + 1) (by omega), jne (n + 2) (by omega), jne (n + 3) (by omega), jne (n + 4) (by omega), jne (n + 5) (by omega), jne (n + 6) (by omega), jne (n + 7) (by omega), jne (n + 8) (by omega), jne (n + 9) (by omega), jne (n + 10) (by omega), jne (n + 11) (by omega)]
      exact hW
    · rcases hst c hc with h | ⟨h, hP2⟩
      · rw [h, zU_eq rfl, show (r * 8 + w) / 8 = r by omega, show (r * 8 + w) % 8 = w by omega]
        refine ⟨up_eq rfl rfl, ⟨x0, x1⟩, hdead, fun hl f' hf hd' => hmin hl f' hf (fun d d0 d1 hld hPd => ?_)⟩
        obtain ⟨⟨g0, g1⟩, g2, g3, g4⟩ := zPk_t.mp hPd
        have h9 := hd' d g0 g1 hld (by rw [zKy_rw hw0 w1]; exact g4)
        rw [zU_ne (fun h8 => by rw [h8, hP] at hPd; cases hPd)] at h9
        exact h9
      · obtain ⟨k1, k2, k3, k4⟩ := h2 c hP2
        obtain ⟨⟨g0, g1⟩, g2, g3, g4⟩ := zPk_t.mp hP2
        rw [zU_ne h]
        refine ⟨?_, k2, k3, fun hl f' hf hd' => k4 hl f' hf (fun d d0 d1 hld hk => ?_)⟩
        · by_cases hrr : c / 8 = r
          · rw [hrr, up_nk (by omega), ← hrr, eK _ (by omega)]; exact k1
          · rw [jne _ (by omega), eK _ (by omega)]; exact k1
        · have h9 := hd' d d0 d1 hld hk
          rw [zU_ne (fun h8 => by rw [h8, zKy_rw hw0 w1] at hk; omega)] at h9
          exact h9
    · have hj' : 0 ≤ j → j < 8 → zPk (I0 b 2) (I0 b 0) (16 * w + r) (r' * 8 + j) = false := fun j0 j1 => by
        have h9 := zPk_f.mp (hj j0 j1)
        refine zPk_f.mpr ?_
        unfold zKy at h9 ⊢; omega
      have hne : r' = r → j ≠ w := fun hr hjw => by
        have h9 := zPk_f.mp (hj (by omega) (by omega))
        refine h9 ?_
        unfold zKy; omega
      by_cases hrr : r' = r
      · rw [hrr, up_nk (hne hrr), ← hrr, eK _ (by omega)]; exact h3 r' q0 q1 j hj'
      · rw [jne _ (by omega), eK _ (by omega)]; exact h3 r' q0 q1 j hj'
    · rw [jne a (a1 r r0 (by omega)), eK a a0]; exact h4 a a0 a1
    · rw [jne n (by omega), fr.2 1 (by decide)]; exact h5
    · rw [jne _ (by omega), f1 _ (by omega) (by omega) (by omega) (by omega) (by omega) (by omega) (by omega) (by omega)]; exact h6
theorem l_fw0 (hn : yNe S n e) (hB : yB S b) (hd : b + 106 ≤ n ∨ n + 15 ≤ b) (ht0 : 0 ≤ I0 b 0) (hr0 : 0 ≤ I0 b 2) (hr9 : I0 b 2 ≤ 9) (hlive : ∀ a : Int, 0 ≤ a → a < 72 → N.1 a = true → a / 8 < I0 b 2 ∧ I0 b 0 ≤ a % 8) (hD0 : ∀ v : Int, 0 ≤ v → v < 48 → 0 ≤ Dm v) (hsu : ∀ v : Int, 0 ≤ v → v < 48 → N.2.2.2.2 v ≤ 100000) :
    ∀ (c : Nat) {w : Int} {I : mN} {x3 : Option mV}, I0 b 0 ≤ w → w + c = 8 → nFw I n I0 b N Dm (16 * w + 0) → (∀ (I' : mN) (x3 : Option mV), nFw I' n I0 b N Dm 128 → mAt (mRun (D + 5)) 40 75 ([some (mR n), some (mR b), some (mI 8), x3], [], I', S) Q) →
    mAt (mRun (D + 5)) 40 30 ([some (mR n), some (mR b), some (mI w), x3], [], I, S) Q
  | 0, w, I, x3, w0, w1, hF, k => by
    obtain rfl : w = 8 := by omega
    simp (disch := first | omega | exact Nat.le_of_ble_eq_true rfl) only [w_iconst, w_bipush, w_sipush, w_ldc_s, w_ldcw_s, w_ldc_i, w_ldcw_i, w_lconst, w_fconst, w_dconst, w_iload, w_iload_n, w_aload, w_aload_n, w_dload, w_istore, w_istore_n, w_astore_r, w_astore_s, w_astore_n_r, w_astore_n_s, w_dstore, w_iinc, w_iadd, w_isub, w_imul, w_iand, w_iushr, v_idiv, v_irem, w_ineg, w_i2l, w_i2c, w_i2f, w_i2d, v_f2d, w_lcmp, w_dcmp, v_fdiv, v_ddiv, w_dup_i, w_dup_r, w_dup2, w_dup_x2, w_pop_i, w_pop_r, w_goto, w_switch, w_ret_i, v_ret_z, v_ret_c, w_ret_a, w_ret_s, w_ret_f, w_ret_d, w_ret_v, v_iaload, v_baload, v_caload, v_laload, v_aaload, v_iastore, v_bastore, v_castore, v_lastore, v_aastore, v_alen, v_newa, v_anewa, w_new, w_throw, w_dead, v_getf_i, v_getf_z, v_getf_r, v_putf_i, v_putf_z, v_putf_r, w_call0, w_call1, w_callv1, w_calli1, w_callt1, w_call2, w_callv2, w_calli2, w_callt2, w_call3, w_callv3, w_calli3, w_call4, w_callv4, w_calli4, w_call5, w_callv5, w_calli5, w_call6, w_callv6, w_calli6, w_call7, w_callv7, w_calli7, w_call8, w_callv8, w_calli8, c_if0_eq_t, c_if0_eq_f, c_if2_eq_t, c_if2_eq_f, c_if0_ne_t, c_if0_ne_f, c_if2_ne_t, c_if2_ne_f, c_if0_lt_t, c_if0_lt_f, c_if2_lt_t, c_if2_lt_f, c_if0_ge_t, c_if0_ge_f, c_if2_ge_t, c_if2_ge_f, c_if0_gt_t, c_if0_gt_f, c_if2_gt_t, c_if2_gt_f, c_if0_le_t, c_if0_le_f, c_if2_le_t, c_if2_le_f, w_nil, uI_s, uA_r, uA_s, uD_d, mPut_0, mCl_own, mCv_go, mCl_min, mCl_cpy, mCv_obj, mAct_len, mAct_chrc, mAft_v, mAft_n, mAft_x, mGet_0, mSet_0, mGet_1, mSet_1, mGet_2, mSet_2, mGet_3, mSet_3, mGet_4, mSet_4, mGet_5, mSet_5, mGet_6, mSet_6, mGet_7, mSet_7, mGet_8, mSet_8, mGet_9, mSet_9, mGet_10, mSet_10, mGet_11, mSet_11, mGet_12, mSet_12, mGet_13, mSet_13, a_Ne_findWay_30, bk_Ne_findWay_30]
    exact k I _ hF
  | c + 1, w, I, x3, w0, w1, hF, k => by
    rw [a_Ne_findWay_30]
    simp (disch := first | omega | exact Nat.le_of_ble_eq_true rfl) only [w_iconst, w_bipush, w_sipush, w_ldc_s, w_ldcw_s, w_ldc_i, w_ldcw_i, w_lconst, w_fconst, w_dconst, w_iload, w_iload_n, w_aload, w_aload_n, w_dload, w_istore, w_istore_n, w_astore_r, w_astore_s, w_astore_n_r, w_astore_n_s, w_dstore, w_iinc, w_iadd, w_isub, w_imul, w_iand, w_iushr, v_idiv, v_irem, w_ineg, w_i2l, w_i2c, w_i2f, w_i2d, v_f2d, w_lcmp, w_dcmp, v_fdiv, v_ddiv, w_dup_i, w_dup_r, w_dup2, w_dup_x2, w_pop_i, w_pop_r, w_goto, w_switch, w_ret_i, v_ret_z, v_ret_c, w_ret_a, w_ret_s, w_ret_f, w_ret_d, w_ret_v, v_iaload, v_baload, v_caload, v_laload, v_aaload, v_iastore, v_bastore, v_castore, v_lastore, v_aastore, v_alen, v_newa, v_anewa, w_new, w_throw, w_dead, v_getf_i, v_getf_z, v_getf_r, v_putf_i, v_putf_z, v_putf_r, w_call0, w_call1, w_callv1, w_calli1, w_callt1, w_call2, w_callv2, w_calli2, w_callt2, w_call3, w_callv3, w_calli3, w_call4, w_callv4, w_calli4, w_call5, w_callv5, w_calli5, w_call6, w_callv6, w_calli6, w_call7, w_callv7, w_calli7, w_call8, w_callv8, w_calli8, c_if0_eq_t, c_if0_eq_f, c_if2_eq_t, c_if2_eq_f, c_if0_ne_t, c_if0_ne_f, c_if2_ne_t, c_if2_ne_f, c_if0_lt_t, c_if0_lt_f, c_if2_lt_t, c_if2_lt_f, c_if0_ge_t, c_if0_ge_f, c_if2_ge_t, c_if2_ge_f, c_if0_gt_t, c_if0_gt_f, c_if2_gt_t, c_if2_gt_f, c_if0_le_t, c_if0_le_f, c_if2_le_t, c_if2_le_f, w_nil, uI_s, uA_r, uA_s, uD_d, mPut_0, mCl_own, mCv_go, mCl_min, mCl_cpy, mCv_obj, mAct_len, mAct_chrc, mAft_v, mAft_n, mAft_x, mGet_0, mSet_0, mGet_1, mSet_1, mGet_2, mSet_2, mGet_3, mSet_3, mGet_4, mSet_4, mGet_5, mSet_5, mGet_6, mSet_6, mGet_7, mSet_7, mGet_8, mSet_8, mGet_9, mSet_9, mGet_10, mSet_10, mGet_11, mSet_11, mGet_12, mSet_12, mGet_13, mSet_13, bk_Ne_findWay_30]
    refine l_fw1 D hn hB hd ht0 hr0 hr9 hlive hD0 hsu w0 (by omega) (I0 b 2).toNat (Int.le_refl 0) (by omega) hF (fun I' hF' => ?_)
    simp (disch := first | omega | exact Nat.le_of_ble_eq_true rfl) only [w_iconst, w_bipush, w_sipush, w_ldc_s, w_ldcw_s, w_ldc_i, w_ldcw_i, w_lconst, w_fconst, w_dconst, w_iload, w_iload_n, w_aload, w_aload_n, w_dload, w_istore, w_istore_n, w_astore_r, w_astore_s, w_astore_n_r, w_astore_n_s, w_dstore, w_iinc, w_iadd, w_isub, w_imul, w_iand, w_iushr, v_idiv, v_irem, w_ineg, w_i2l, w_i2c, w_i2f, w_i2d, v_f2d, w_lcmp, w_dcmp, v_fdiv, v_ddiv, w_dup_i, w_dup_r, w_dup2, w_dup_x2, w_pop_i, w_pop_r, w_goto, w_switch, w_ret_i, v_ret_z, v_ret_c, w_ret_a, w_ret_s, w_ret_f, w_ret_d, w_ret_v, v_iaload, v_baload, v_caload, v_laload, v_aaload, v_iastore, v_bastore, v_castore, v_lastore, v_aastore, v_alen, v_newa, v_anewa, w_new, w_throw, w_dead, v_getf_i, v_getf_z, v_getf_r, v_putf_i, v_putf_z, v_putf_r, w_call0, w_call1, w_callv1, w_calli1, w_callt1, w_call2, w_callv2, w_calli2, w_callt2, w_call3, w_callv3, w_calli3, w_call4, w_callv4, w_calli4, w_call5, w_callv5, w_calli5, w_call6, w_callv6, w_calli6, w_call7, w_callv7, w_calli7, w_call8, w_callv8, w_calli8, c_if0_eq_t, c_if0_eq_f, c_if2_eq_t, c_if2_eq_f, c_if0_ne_t, c_if0_ne_f, c_if2_ne_t, c_if2_ne_f, c_if0_lt_t, c_if0_lt_f, c_if2_lt_t, c_if2_lt_f, c_if0_ge_t, c_if0_ge_f, c_if2_ge_t, c_if2_ge_f, c_if0_gt_t, c_if0_gt_f, c_if2_gt_t, c_if2_gt_f, c_if0_le_t, c_if0_le_f, c_if2_le_t, c_if2_le_f, w_nil, uI_s, uA_r, uA_s, uD_d, mPut_0, mCl_own, mCv_go, mCl_min, mCl_cpy, mCv_obj, mAct_len, mAct_chrc, mAft_v, mAft_n, mAft_x, mGet_0, mSet_0, mGet_1, mSet_1, mGet_2, mSet_2, mGet_3, mSet_3, mGet_4, mSet_4, mGet_5, mSet_5, mGet_6, mSet_6, mGet_7, mSet_7, mGet_8, mSet_8, mGet_9, mSet_9, mGet_10, mSet_10, mGet_11, mSet_11, mGet_12, mSet_12, mGet_13, mSet_13, a_Ne_findWay_69, bk_Ne_findWay_69, wr]
    refine l_fw0 hn hB hd ht0 hr0 hr9 hlive hD0 hsu c (by omega) (by omega) ?_ k
    unfold nFw at hF' ⊢
    rw [← zPk_row hr9]
    exact hF'
/-- at the end the sendings are the way -/
theorem nFw_way {I : mN} (hlive : ∀ a : Int, 0 ≤ a → a < 72 → N.1 a = true → a / 8 < I0 b 2 ∧ I0 b 0 ≤ a % 8) (h : nFw I n I0 b N Dm 128) : zWay N Dm (fun c => I (b + (29 + 3 * (c / 8)) + 2) (c % 8)) := by
  obtain ⟨y, h1, h2, h3, h4, h5, h6⟩ := h
  have hP : ∀ a : Int, 0 ≤ a → a < 72 → N.1 a = true → zPk (I0 b 2) (I0 b 0) 128 a = true := fun a a0 a1 hl => by
    obtain ⟨g1, g2⟩ := hlive a a0 a1 hl
    exact zPk_t.mpr ⟨⟨a0, a1⟩, g1, g2, by unfold zKy; omega⟩
  intro a a0 a1 hl
  have hk := h2 a (hP a a0 a1 hl)
  refine ⟨⟨zG (zPk (I0 b 2) (I0 b 0) 128) y (I (n + 5)), ⟨h1.2.2.1.1, fun v v0 v1 => by have := h1.2.2.1.2 v v0 v1; omega⟩, fun c c0 c1 hlc _ => ?_⟩, fun f hf hc => ?_⟩
  · rw [zG_t (hP c c0 c1 hlc)]
    exact (h2 c (hP c c0 c1 hlc)).1.symm
  · show I (b + (29 + 3 * (a / 8)) + 2) (a % 8) ≤ f a
    rw [hk.1]
    refine hk.2.2.2 hl f hf (fun d d0 d1 hld hkd => ?_)
    rw [← (h2 d (hP d d0 d1 hld)).1]
    exact hc d d0 d1 hld hkd
end FW
