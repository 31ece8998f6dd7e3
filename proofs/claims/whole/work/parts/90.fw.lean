/-! The office's way, found. -/
theorem zAg_fl {N N' : zNet} (h : zAg N N') {f D : Int → Int} (hf : zFl N f D) : zFl N' f D := ⟨fun a a0 a1 hl => by
  obtain ⟨h1, h2⟩ := h.1 a a0 a1
  have hl2 : N.1 a = true := h1.trans hl
  have := hf.1 a a0 a1 hl2
  rw [(h2 hl2).2.2] at this
  exact this, fun v v0 v1 => by rw [← zAg_ex h v0 v1]; exact hf.2 v v0 v1⟩
theorem zAg_way {N N' : zNet} (h : zAg N N') {D y : Int → Int} (hw : zWay N D y) : zWay N' D y := fun a a0 a1 hl => by
  have hl' : ∀ c : Int, 0 ≤ c → c < 72 → N'.1 c = true → N.1 c = true := fun c c0 c1 hc => (h.1 c c0 (by omega)).1.trans hc
  have hl2 : ∀ c : Int, 0 ≤ c → c < 72 → N.1 c = true → N'.1 c = true := fun c c0 c1 hc => (h.1 c c0 (by omega)).1.symm.trans hc
  obtain ⟨⟨f, f1, f2⟩, f3⟩ := hw a a0 a1 (hl' a a0 a1 hl)
  exact ⟨⟨f, zAg_fl h f1, fun c c0 c1 hc => f2 c c0 c1 (hl' c c0 c1 hc)⟩, fun g hg hgc => f3 g (zAg_fl (zAg_symm h) hg) (fun c c0 c1 hc => hgc c c0 c1 (hl2 c c0 c1 hc))⟩
theorem zD_nn {n : Nat} {td : Int} {rk pl : Int → Int} {am : Int → Int → Int} {k w : Int} (h : ∀ o t : Int, 0 ≤ o → o < n → td ≤ t → 0 ≤ t → t < 8 → 0 ≤ am o t) (v : Int) : 0 ≤ zD n td rk pl am k w v := by
  unfold zD
  refine sm_nonneg (fun o o0 o1 => sm_nonneg (fun t t0 t1 => ?_))
  split
  · rename_i hc; exact h o t o0 o1 hc.1 t0 t1
  · exact Int.le_refl 0
theorem zPlan_c {N : zNet} {n : Nat} {td : Int} {rk pl : Int → Int} {ask am am' : Int → Int → Int} (h : zPlan N n td rk pl ask am) (he : ∀ o t : Int, 0 ≤ o → o < n → td ≤ t → 0 ≤ t → t < 8 → am o t = am' o t) : zPlan N n td rk pl ask am' := fun o t o0 o1 t0 t1 t2 => by
  have e1 : zD n td rk pl am' (rk o) (t + 1) = zD n td rk pl am (rk o) (t + 1) := funext (fun v => zD_congr (fun o' t' a0 a1 b0 b1 b2 _ => (he o' t' a0 a1 b0 b1 b2).symm) v)
  rw [e1, ← he o t o0 o1 t0 t1 t2]
  exact h o t o0 o1 t0 t1 t2
theorem zWay_c {N : zNet} {D y y' : Int → Int} (h : zWay N D y) (he : ∀ c : Int, 0 ≤ c → c < 72 → y c = y' c) : zWay N D y' := fun a a0 a1 hl => by
  obtain ⟨⟨f, f1, f2⟩, f3⟩ := h a a0 a1 hl
  rw [← he a a0 a1]
  exact ⟨⟨f, f1, fun c c0 c1 hc hk => by rw [← he c c0 c1]; exact f2 c c0 c1 hc hk⟩, fun g hg hgc => f3 g hg (fun c c0 c1 hc hk => by rw [he c c0 c1]; exact hgc c c0 c1 hc hk)⟩
section FD
variable {n e b : Int} {S : mH} {Q : mQ} (D : Nat)
theorem yNet_live {I : mN} {s a : Int} (a1 : a < 72) (hl : (yNet I b s).1 a = true) : a / 8 < I b 2 ∧ I b 0 ≤ a % 8 := by
  unfold yNet at hl
  rw [zN_lv] at hl
  obtain ⟨h1, h2, -⟩ := hl
  refine ⟨?_, h2⟩
  unfold zFr at h1
  rw [if_pos (by omega)] at h1
  by_cases hc : a / 8 < I b 2
  · exact hc
  · rw [if_neg hc] at h1
    exact absurd rfl h1
theorem r_findWay_0 {I : mN} (hn : yNe S n e) (hB : yB S b) (hp : I b 8 = 1) : mRun (D + 1) 40 [mR n, mR b] I S Q = Q (.inl none) I S := by
  simp (disch := first | omega | exact Nat.le_of_ble_eq_true rfl | (simp (disch := omega) only [yn_k hn, yb_k hB, yb_4 hB, yb_5 hB, yb_6 hB, yb_7 hB, yb_k1 hB, yb_l1 hB, yb_k2 hB, yb_l2 hB, yb_k3 hB, yb_l3 hB, yb_k4 hB, yb_l4 hB, yb_p hB, yb_pk hB, yb_p1 hB, yb_pk1 hB, yb_pl1 hB, yb_p2 hB, yb_pk2 hB, yb_pl2 hB, yb_p3 hB, yb_pk3 hB, yb_pl3 hB, yb_r hB, yb_rk hB, yb_r3 hB, yb_rk3 hB, yb_rl3 hB, yb_r4 hB, yb_rk4 hB, yb_rl4 hB, yb_g hB, yb_gk hB, yb_g7 hB, yb_gk7 hB, yb_gl7 hB, yb_g8 hB, yb_gk8 hB, yb_gl8 hB, yb_g9 hB, yb_gk9 hB, yb_gl9 hB, yb_g10 hB, yb_gk10 hB, yb_gl10 hB] <;> omega)) only [w_iconst, w_bipush, w_sipush, w_ldc_s, w_ldcw_s, w_ldc_i, w_ldcw_i, w_lconst, w_fconst, w_dconst, w_iload, w_iload_n, w_aload, w_aload_n, w_dload, w_istore, w_istore_n, w_astore_r, w_astore_s, w_astore_n_r, w_astore_n_s, w_dstore, w_iinc, w_iadd, w_isub, w_imul, w_iand, w_iushr, v_idiv, v_irem, w_ineg, w_i2l, w_i2c, w_i2f, w_i2d, v_f2d, w_lcmp, w_dcmp, v_fdiv, v_ddiv, w_dup_i, w_dup_r, w_dup2, w_dup_x2, w_pop_i, w_pop_r, w_goto, w_switch, w_ret_i, v_ret_z, v_ret_c, w_ret_a, w_ret_s, w_ret_f, w_ret_d, w_ret_v, v_iaload, v_baload, v_caload, v_laload, v_aaload, v_iastore, v_bastore, v_castore, v_lastore, v_aastore, v_alen, v_newa, v_anewa, w_new, w_throw, w_dead, v_getf_i, v_getf_z, v_getf_r, v_putf_i, v_putf_z, v_putf_r, w_call0, w_call1, w_callv1, w_calli1, w_callt1, w_call2, w_callv2, w_calli2, w_callt2, w_call3, w_callv3, w_calli3, w_call4, w_callv4, w_calli4, w_call5, w_callv5, w_calli5, w_call6, w_callv6, w_calli6, w_call7, w_callv7, w_calli7, w_call8, w_callv8, w_calli8, c_if0_eq_t, c_if0_eq_f, c_if2_eq_t, c_if2_eq_f, c_if0_ne_t, c_if0_ne_f, c_if2_ne_t, c_if2_ne_f, c_if0_lt_t, c_if0_lt_f, c_if2_lt_t, c_if2_lt_f, c_if0_ge_t, c_if0_ge_f, c_if2_ge_t, c_if2_ge_f, c_if0_gt_t, c_if0_gt_f, c_if2_gt_t, c_if2_gt_f, c_if0_le_t, c_if0_le_f, c_if2_le_t, c_if2_le_f, w_nil, uI_s, uA_r, uA_s, uD_d, mPut_0, mCl_own, mCv_go, mCl_min, mCl_cpy, mCv_obj, mAct_len, mAct_chrc, mAft_v, mAft_n, mAft_x, mGet_0, mSet_0, mGet_1, mSet_1, mGet_2, mSet_2, mGet_3, mSet_3, mGet_4, mSet_4, mGet_5, mSet_5, mGet_6, mSet_6, mGet_7, mSet_7, mGet_8, mSet_8, mGet_9, mSet_9, mGet_10, mSet_10, mGet_11, mSet_11, mGet_12, mSet_12, mGet_13, mSet_13, e_Ne_findWay, a_Ne_findWay_0, bk_Ne_findWay_0, yn_k hn, yb_k hB, yb_4 hB, yb_5 hB, yb_6 hB, yb_7 hB, yb_k1 hB, yb_l1 hB, yb_k2 hB, yb_l2 hB, yb_k3 hB, yb_l3 hB, yb_k4 hB, yb_l4 hB, yb_p hB, yb_pk hB, yb_p1 hB, yb_pk1 hB, yb_pl1 hB, yb_p2 hB, yb_pk2 hB, yb_pl2 hB, yb_p3 hB, yb_pk3 hB, yb_pl3 hB, yb_r hB, yb_rk hB, yb_r3 hB, yb_rk3 hB, yb_rl3 hB, yb_r4 hB, yb_rk4 hB, yb_rl4 hB, yb_g hB, yb_gk hB, yb_g7 hB, yb_gk7 hB, yb_gl7 hB, yb_g8 hB, yb_gk8 hB, yb_gl8 hB, yb_g9 hB, yb_gk9 hB, yb_gl9 hB, yb_g10 hB, yb_gk10 hB, yb_gl10 hB, hp]
/-- amounts of the plan of scenario 0, and the office's way -/
def nWd (I' : mN) (n e : Int) (I : mN) (b : Int) (ask : Int → Int → Int) : Prop :=
  zPlan (yNet I b 0) (I b 3).toNat (I b 0) (yRk I b) (zPo I b) ask (zAm I' b 0) ∧
  zWay (yNet I b 0) (zD (I b 3).toNat (I b 0) (yRk I b) (zPo I b) (zAm I' b 0) (I b 3) (I b 0)) (fun c => I' (b + (29 + 3 * (c / 8)) + 2) (c % 8)) ∧
  (∀ c : Int, 0 ≤ c → c < 72 → c / 8 < I b 2 → I b 0 ≤ c % 8 → (0 ≤ I' (b + (29 + 3 * (c / 8)) + 2) (c % 8) ∧ I' (b + (29 + 3 * (c / 8)) + 2) (c % 8) ≤ 1000) ∧ ((yNet I b 0).1 c = false → I' (b + (29 + 3 * (c / 8)) + 2) (c % 8) = 0)) ∧
  (∃ I3 I1 : mN, I' = mUp I3 b 8 1 ∧ nSo I3 n I1 b 8 0 ∧ ySb I1 n b ∧ I1 b = I b ∧ (∀ v : Int, 0 ≤ v → v < 48 → I1 (n + 7) v = zSu I b 0 v) ∧ (∀ p : Int, 0 ≤ p → p < 6 → I1 (b + (5 + 4 * p)) = I (b + (5 + 4 * p)) ∧ I1 (b + (5 + 4 * p) + 1) = I (b + (5 + 4 * p) + 1) ∧ I1 (b + (5 + 4 * p) + 2) = I (b + (5 + 4 * p) + 2)) ∧ (∀ r : Int, 0 ≤ r → r < 9 → I1 (b + (29 + 3 * r)) = I (b + (29 + 3 * r)) ∧ I1 (b + (29 + 3 * r) + 2) = I' (b + (29 + 3 * r) + 2)) ∧ ∀ r : Int, 0 ≤ r → r < 10 → I1 (b + (56 + 5 * r)) = I (b + (56 + 5 * r)) ∧ I1 (b + (56 + 5 * r) + 3) = I' (b + (56 + 5 * r) + 3)) ∧
  nOldQ I' n ∧ (∀ r : Int, 0 ≤ r → r < 9 → ∀ j : Int, (r < I b 2 → I b 0 ≤ j → 8 ≤ j) → I' (b + (29 + 3 * r) + 2) j = I (b + (29 + 3 * r) + 2) j) ∧
  (∀ i : Int, 0 ≤ i → i < 10 → ∀ j : Int, (i < I b 3 → I b 0 ≤ j → 8 ≤ j) → I' (b + (56 + 5 * i) + 3) j = I (b + (56 + 5 * i) + 3) j) ∧
  I' (b + 4) = zU (I (b + 4)) 0 1 ∧ I' b = zU (I b) 8 1 ∧
  ∀ a : Int, (a < n ∨ n + 15 ≤ a) → a ≠ e → a ≠ b → a ≠ b + 4 → (∀ i : Int, 0 ≤ i → i < 10 → a ≠ b + (56 + 5 * i) + 3) → (∀ i : Int, 0 ≤ i → i < 9 → a ≠ b + (29 + 3 * i) + 2) → (∀ i : Int, 0 ≤ i → i < 6 → a ≠ b + (5 + 4 * i) + 1 ∧ a ≠ b + (5 + 4 * i) + 2) → I' a = I a
theorem nFw_0 {I1 J : mN} {I : mN} {ask : Int → Int → Int} (hd : b + 106 ≤ n ∨ n + 15 ≤ b) (hb0 : 0 ≤ I b 0) (h : nDone I1 n e I b 0 ask) (hJ : J = mUa I1 (n + 9) (fun j => if 0 ≤ j ∧ j < 48 then 0 else I1 (n + 9) j)) (e0 : I1 b = I b) : nFw J n J b (nN I1 n) (zD (I b 3).toNat (I b 0) (yRk I b) (zPo I b) (zAm I1 b 0) (I b 3) (I b 0)) (16 * I b 0 + 0) := by
  obtain ⟨⟨⟨g1, g2, g3, g4⟩, ⟨g5, g5'⟩, g6, g7, g8⟩, h2, h3, h4, h5, h6, h7, h8, h9⟩ := h
  have jne : ∀ a : Int, a ≠ n + 9 → J a = I1 a := fun a ha => by rw [hJ, ua_ne ha]
  have jb : J b = I b := (jne b (by omega)).trans e0
  have hPf : ∀ c : Int, zPk (J b 2) (J b 0) (16 * I b 0 + 0) c = false := fun c => zPk_f.mpr (fun hc => by
    rw [jb] at hc
    obtain ⟨⟨c0, c1⟩, -, c2, c3⟩ := hc
    unfold zKy at c3
    omega)
  have hG : ∀ y f : Int → Int, zG (zPk (J b 2) (J b 0) (16 * I b 0 + 0)) y f = f := fun y f => funext (fun c => zG_f (hPf c))
  refine ⟨fun _ => 0, ⟨⟨?_, ?_, fun a a0 a1 => ?_, fun v v0 v1 => ?_⟩, ?_, ?_, ?_, ?_⟩, (fun c hc => by rw [hPf c] at hc; cases hc), fun r r0 r1 j _ => rfl, fun a _ _ => rfl, ?_, rfl⟩
  · rw [jne n (by omega), jne (n + 1) (by omega), jne (n + 2) (by omega), jne (n + 3) (by omega)]; exact g1
  · rw [jne (n + 4) (by omega)]; exact g2
  · rw [jne (n + 6) (by omega), hPf a, if_neg (by decide)]; exact h4 a a0 a1
  · rw [hJ, ua_eq rfl, if_pos ⟨v0, v1⟩]
  · rw [jne (n + 5) (by omega)]; exact ⟨g5, g5'⟩
  · rw [hG, jne (n + 5) (by omega), jne (n + 8) (by omega)]
    exact ⟨g5, fun w w0 w1 => ⟨(g6 w w0 w1).1, (g6 w w0 w1).2.1⟩⟩
  · unfold nOldQ at g8 ⊢
    rw [jne n (by omega), jne (n + 10) (by omega), jne (n + 11) (by omega)]; exact g8
  · unfold nN
    rw [jne n (by omega), jne (n + 1) (by omega), jne (n + 2) (by omega), jne (n + 3) (by omega), jne (n + 4) (by omega), jne (n + 7) (by omega)]
  · rw [jne n (by omega), h3, jb]
theorem p_findWay {I K : mN} {ask : Int → Int → Int} (hKI : K = mUp I (b + 4) 0 0) (hE : e < n ∨ n + 15 ≤ e) (hn : yNe S n e) (hB : yB S b) (hd : b + 106 ≤ n ∨ n + 15 ≤ b) (he : e < b ∨ b + 106 ≤ e) (hbd : yBd K b) (ham : ∀ r : Int, 0 ≤ r → r < 10 → ∀ j : Int, 0 ≤ j → j < 8 → 0 ≤ K (b + (56 + 5 * r) + 3) j ∧ K (b + (56 + 5 * r) + 3) j ≤ 1000) (hp : I b 8 = 0) (hO : nOldQ K n) (hask : nAsk S (D + 4) e b 0 K ask) (hak : ∀ r w : Int, 0 ≤ r → r < K b 3 → K b 0 ≤ w → w < 8 → 0 ≤ ask r w ∧ ask r w ≤ 1000) (hpo : ∀ r : Int, 0 ≤ r → r < K b 3 → 0 ≤ zPo K b r ∧ zPo K b r < 6)
    (k : ∀ I' : mN, nWd I' n e K b ask → Q (.inl none) I' S) : mRun (D + 6) 40 [mR n, mR b] I S Q := by
  obtain ⟨⟨hb0, hb0'⟩, hb1, hb2, hb3⟩ := hbd.1
  simp (disch := first | omega | exact Nat.le_of_ble_eq_true rfl | (simp (disch := omega) only [yn_k hn, yb_k hB, yb_4 hB, yb_5 hB, yb_6 hB, yb_7 hB, yb_k1 hB, yb_l1 hB, yb_k2 hB, yb_l2 hB, yb_k3 hB, yb_l3 hB, yb_k4 hB, yb_l4 hB, yb_p hB, yb_pk hB, yb_p1 hB, yb_pk1 hB, yb_pl1 hB, yb_p2 hB, yb_pk2 hB, yb_pl2 hB, yb_p3 hB, yb_pk3 hB, yb_pl3 hB, yb_r hB, yb_rk hB, yb_r3 hB, yb_rk3 hB, yb_rl3 hB, yb_r4 hB, yb_rk4 hB, yb_rl4 hB, yb_g hB, yb_gk hB, yb_g7 hB, yb_gk7 hB, yb_gl7 hB, yb_g8 hB, yb_gk8 hB, yb_gl8 hB, yb_g9 hB, yb_gk9 hB, yb_gl9 hB, yb_g10 hB, yb_gk10 hB, yb_gl10 hB] <;> omega)) only [w_iconst, w_bipush, w_sipush, w_ldc_s, w_ldcw_s, w_ldc_i, w_ldcw_i, w_lconst, w_fconst, w_dconst, w_iload, w_iload_n, w_aload, w_aload_n, w_dload, w_istore, w_istore_n, w_astore_r, w_astore_s, w_astore_n_r, w_astore_n_s, w_dstore, w_iinc, w_iadd, w_isub, w_imul, w_iand, w_iushr, v_idiv, v_irem, w_ineg, w_i2l, w_i2c, w_i2f, w_i2d, v_f2d, w_lcmp, w_dcmp, v_fdiv, v_ddiv, w_dup_i, w_dup_r, w_dup2, w_dup_x2, w_pop_i, w_pop_r, w_goto, w_switch, w_ret_i, v_ret_z, v_ret_c, w_ret_a, w_ret_s, w_ret_f, w_ret_d, w_ret_v, v_iaload, v_baload, v_caload, v_laload, v_aaload, v_iastore, v_bastore, v_castore, v_lastore, v_aastore, v_alen, v_newa, v_anewa, w_new, w_throw, w_dead, v_getf_i, v_getf_z, v_getf_r, v_putf_i, v_putf_z, v_putf_r, w_call0, w_call1, w_callv1, w_calli1, w_callt1, w_call2, w_callv2, w_calli2, w_callt2, w_call3, w_callv3, w_calli3, w_call4, w_callv4, w_calli4, w_call5, w_callv5, w_calli5, w_call6, w_callv6, w_calli6, w_call7, w_callv7, w_calli7, w_call8, w_callv8, w_calli8, c_if0_eq_t, c_if0_eq_f, c_if2_eq_t, c_if2_eq_f, c_if0_ne_t, c_if0_ne_f, c_if2_ne_t, c_if2_ne_f, c_if0_lt_t, c_if0_lt_f, c_if2_lt_t, c_if2_lt_f, c_if0_ge_t, c_if0_ge_f, c_if2_ge_t, c_if2_ge_f, c_if0_gt_t, c_if0_gt_f, c_if2_gt_t, c_if2_gt_f, c_if0_le_t, c_if0_le_f, c_if2_le_t, c_if2_le_f, w_nil, uI_s, uA_r, uA_s, uD_d, mPut_0, mCl_own, mCv_go, mCl_min, mCl_cpy, mCv_obj, mAct_len, mAct_chrc, mAft_v, mAft_n, mAft_x, mGet_0, mSet_0, mGet_1, mSet_1, mGet_2, mSet_2, mGet_3, mSet_3, mGet_4, mSet_4, mGet_5, mSet_5, mGet_6, mSet_6, mGet_7, mSet_7, mGet_8, mSet_8, mGet_9, mSet_9, mGet_10, mSet_10, mGet_11, mSet_11, mGet_12, mSet_12, mGet_13, mSet_13, e_Ne_findWay, a_Ne_findWay_0, bk_Ne_findWay_0, a_Ne_findWay_8, bk_Ne_findWay_8, yn_k hn, yb_k hB, yb_4 hB, yb_5 hB, yb_6 hB, yb_7 hB, yb_k1 hB, yb_l1 hB, yb_k2 hB, yb_l2 hB, yb_k3 hB, yb_l3 hB, yb_k4 hB, yb_l4 hB, yb_p hB, yb_pk hB, yb_p1 hB, yb_pk1 hB, yb_pl1 hB, yb_p2 hB, yb_pk2 hB, yb_pl2 hB, yb_p3 hB, yb_pk3 hB, yb_pl3 hB, yb_r hB, yb_rk hB, yb_r3 hB, yb_rk3 hB, yb_rl3 hB, yb_r4 hB, yb_rk4 hB, yb_rl4 hB, yb_g hB, yb_gk hB, yb_g7 hB, yb_gk7 hB, yb_gl7 hB, yb_g8 hB, yb_gk8 hB, yb_gl8 hB, yb_g9 hB, yb_gk9 hB, yb_gl9 hB, yb_g10 hB, yb_gk10 hB, yb_gl10 hB, hp]
  rw [← hKI]
  have hK4 : K (b + 4) 0 = 0 := by rw [hKI]; exact up_eq rfl rfl
  clear hKI hp
  refine p_plan (D := D) (I := K) hE hn hB hd he hbd (Int.le_refl 0) (by decide) hK4 hO hask hak hpo (fun I1 hP => ?_)
  obtain ⟨q1, q2, q3, q4, q5, q6, q7, q8, q9⟩ := id hP
  have e1b : I1 b = K b := q7 b (by omega) (by omega) (by omega) (fun i i0 i1 => by omega)
  simp (disch := first | omega | exact Nat.le_of_ble_eq_true rfl | (simp (disch := omega) only [yn_k hn] <;> omega)) only [w_iconst, w_bipush, w_sipush, w_ldc_s, w_ldcw_s, w_ldc_i, w_ldcw_i, w_lconst, w_fconst, w_dconst, w_iload, w_iload_n, w_aload, w_aload_n, w_dload, w_istore, w_istore_n, w_astore_r, w_astore_s, w_astore_n_r, w_astore_n_s, w_dstore, w_iinc, w_iadd, w_isub, w_imul, w_iand, w_iushr, v_idiv, v_irem, w_ineg, w_i2l, w_i2c, w_i2f, w_i2d, v_f2d, w_lcmp, w_dcmp, v_fdiv, v_ddiv, w_dup_i, w_dup_r, w_dup2, w_dup_x2, w_pop_i, w_pop_r, w_goto, w_switch, w_ret_i, v_ret_z, v_ret_c, w_ret_a, w_ret_s, w_ret_f, w_ret_d, w_ret_v, v_iaload, v_baload, v_caload, v_laload, v_aaload, v_iastore, v_bastore, v_castore, v_lastore, v_aastore, v_alen, v_newa, v_anewa, w_new, w_throw, w_dead, v_getf_i, v_getf_z, v_getf_r, v_putf_i, v_putf_z, v_putf_r, w_call0, w_call1, w_callv1, w_calli1, w_callt1, w_call2, w_callv2, w_calli2, w_callt2, w_call3, w_callv3, w_calli3, w_call4, w_callv4, w_calli4, w_call5, w_callv5, w_calli5, w_call6, w_callv6, w_calli6, w_call7, w_callv7, w_calli7, w_call8, w_callv8, w_calli8, c_if0_eq_t, c_if0_eq_f, c_if2_eq_t, c_if2_eq_f, c_if0_ne_t, c_if0_ne_f, c_if2_ne_t, c_if2_ne_f, c_if0_lt_t, c_if0_lt_f, c_if2_lt_t, c_if2_lt_f, c_if0_ge_t, c_if0_ge_f, c_if2_ge_t, c_if2_ge_f, c_if0_gt_t, c_if0_gt_f, c_if2_gt_t, c_if2_gt_f, c_if0_le_t, c_if0_le_f, c_if2_le_t, c_if2_le_f, w_nil, uI_s, uA_r, uA_s, uD_d, mPut_0, mCl_own, mCv_go, mCl_min, mCl_cpy, mCv_obj, mAct_len, mAct_chrc, mAft_v, mAft_n, mAft_x, mGet_0, mSet_0, mGet_1, mSet_1, mGet_2, mSet_2, mGet_3, mSet_3, mGet_4, mSet_4, mGet_5, mSet_5, mGet_6, mSet_6, mGet_7, mSet_7, mGet_8, mSet_8, mGet_9, mSet_9, mGet_10, mSet_10, mGet_11, mSet_11, mGet_12, mSet_12, mGet_13, mSet_13, yn_k hn]
  rw [r_clear (D + 4) hn]
  generalize hJ : mUa I1 (n + 9) (fun j => if 0 ≤ j ∧ j < 48 then 0 else I1 (n + 9) j) = J
  have hFw := nFw_0 hd hb0 hP hJ.symm e1b
  have jne : ∀ a : Int, a ≠ n + 9 → J a = I1 a := fun a ha => by rw [← hJ, ua_ne ha]
  clear hJ
  have jb : J b = K b := (jne b (by omega)).trans e1b
  have jt : J n 1 = K b 0 := by rw [jne n (by omega)]; exact q3
  simp (disch := first | omega | exact Nat.le_of_ble_eq_true rfl | (simp (disch := omega) only [yn_k hn] <;> omega)) only [w_iconst, w_bipush, w_sipush, w_ldc_s, w_ldcw_s, w_ldc_i, w_ldcw_i, w_lconst, w_fconst, w_dconst, w_iload, w_iload_n, w_aload, w_aload_n, w_dload, w_istore, w_istore_n, w_astore_r, w_astore_s, w_astore_n_r, w_astore_n_s, w_dstore, w_iinc, w_iadd, w_isub, w_imul, w_iand, w_iushr, v_idiv, v_irem, w_ineg, w_i2l, w_i2c, w_i2f, w_i2d, v_f2d, w_lcmp, w_dcmp, v_fdiv, v_ddiv, w_dup_i, w_dup_r, w_dup2, w_dup_x2, w_pop_i, w_pop_r, w_goto, w_switch, w_ret_i, v_ret_z, v_ret_c, w_ret_a, w_ret_s, w_ret_f, w_ret_d, w_ret_v, v_iaload, v_baload, v_caload, v_laload, v_aaload, v_iastore, v_bastore, v_castore, v_lastore, v_aastore, v_alen, v_newa, v_anewa, w_new, w_throw, w_dead, v_getf_i, v_getf_z, v_getf_r, v_putf_i, v_putf_z, v_putf_r, w_call0, w_call1, w_callv1, w_calli1, w_callt1, w_call2, w_callv2, w_calli2, w_callt2, w_call3, w_callv3, w_calli3, w_call4, w_callv4, w_calli4, w_call5, w_callv5, w_calli5, w_call6, w_callv6, w_calli6, w_call7, w_callv7, w_calli7, w_call8, w_callv8, w_calli8, c_if0_eq_t, c_if0_eq_f, c_if2_eq_t, c_if2_eq_f, c_if0_ne_t, c_if0_ne_f, c_if2_ne_t, c_if2_ne_f, c_if0_lt_t, c_if0_lt_f, c_if2_lt_t, c_if2_lt_f, c_if0_ge_t, c_if0_ge_f, c_if2_ge_t, c_if2_ge_f, c_if0_gt_t, c_if0_gt_f, c_if2_gt_t, c_if2_gt_f, c_if0_le_t, c_if0_le_f, c_if2_le_t, c_if2_le_f, w_nil, uI_s, uA_r, uA_s, uD_d, mPut_0, mCl_own, mCv_go, mCl_min, mCl_cpy, mCv_obj, mAct_len, mAct_chrc, mAft_v, mAft_n, mAft_x, mGet_0, mSet_0, mGet_1, mSet_1, mGet_2, mSet_2, mGet_3, mSet_3, mGet_4, mSet_4, mGet_5, mSet_5, mGet_6, mSet_6, mGet_7, mSet_7, mGet_8, mSet_8, mGet_9, mSet_9, mGet_10, mSet_10, mGet_11, mSet_11, mGet_12, mSet_12, mGet_13, mSet_13, yn_k hn, jt]
  have hlive : ∀ a : Int, 0 ≤ a → a < 72 → (nN I1 n).1 a = true → a / 8 < J b 2 ∧ J b 0 ≤ a % 8 := fun a a0 a1 hl => by
    rw [jb]
    exact yNet_live a1 ((q2.1 a a0 (by omega)).1.symm.trans hl)
  have hamn : ∀ o t : Int, 0 ≤ o → o < K b 3 → K b 0 ≤ t → t < 8 → 0 ≤ zAm I1 b 0 o t ∧ zAm I1 b 0 o t ≤ 1000 := fun o t o0 o1 t0 t1 => by
    have h9 := (q6 o t o0 (by omega) t0 (by omega) t1).1
    have h8 := hak o t o0 o1 t0 t1
    omega
  have hsu : ∀ v : Int, 0 ≤ v → v < 48 → 0 ≤ I1 (n + 7) v ∧ I1 (n + 7) v ≤ 20000 := fun v v0 v1 => by
    have h9 : I1 (n + 7) v = zSu K b 0 v := q2.2 v v0 v1
    rw [h9]
    exact ySu_bd hbd (Int.le_refl 0) (by decide) (by omega) (by omega) (by omega)
  refine l_fw0 (I0 := J) (N := nN I1 n) D hn hB hd (by rw [jb]; exact hb0) (by rw [jb]; exact hb2.1) (by rw [jb]; exact hb2.2) hlive (fun v _ _ => zD_nn (fun o t o0 o1 t0 _ t1 => (hamn o t o0 (by omega) t0 t1).1) v) (fun v v0 v1 => by have h9 := hsu v v0 v1; show I1 (n + 7) v ≤ _; omega) (8 - K b 0).toNat (by rw [jb]; exact Int.le_refl _) (by omega) hFw (fun I2 x3 hF2 => ?_)
  have hway := nFw_way hlive hF2
  obtain ⟨y, w1, w2, w3, w4, w5, w6⟩ := hF2
  rw [jb] at w1 w2 w3 w5
  have f2 : ∀ a : Int, (a < n ∨ n + 15 ≤ a) → a ≠ e → a ≠ b + 4 → (∀ i : Int, 0 ≤ i → i < 10 → a ≠ b + (56 + 5 * i) + 3) → (∀ i : Int, 0 ≤ i → i < 9 → a ≠ b + (29 + 3 * i) + 2) → I2 a = K a := fun a a0 a1 a2 a3 a4 => by
    rw [w4 a a0 a4, jne a (by omega)]; exact q7 a a0 a1 a2 a3
  have e2b : I2 b = K b := f2 b (by omega) (by omega) (by omega) (fun i _ _ => by omega) (fun i _ _ => by omega)
  have e27 : I2 (n + 7) = I1 (n + 7) := congrArg (fun N : zNet => N.2.2.2.2) w1.2.2.2.2
  have e2a : ∀ r : Int, I2 (b + (56 + 5 * r) + 3) = I1 (b + (56 + 5 * r) + 3) ∨ ¬ (0 ≤ r ∧ r < 10) := fun r => by
    by_cases hr : 0 ≤ r ∧ r < 10
    · left; rw [w4 _ (by omega) (fun i _ _ => by omega), jne _ (by omega)]
    · exact Or.inr hr
  have hsent : ∀ r : Int, 0 ≤ r → r < 9 → ∀ j : Int, 0 ≤ j → j < 8 → 0 ≤ I2 (b + (29 + 3 * r) + 2) j ∧ I2 (b + (29 + 3 * r) + 2) j ≤ 1000 := fun r r0 r1 j j0 j1 => by
    cases hc : zPk (K b 2) (K b 0) 128 (r * 8 + j) with
    | true =>
      obtain ⟨g1, g2, -⟩ := w2 _ hc
      rw [show (r * 8 + j) / 8 = r by omega, show (r * 8 + j) % 8 = j by omega] at g1
      rw [g1]; exact g2
    | false =>
      rw [w3 r r0 r1 j (fun _ _ => hc), jne _ (by omega), q7 _ (by omega) (by omega) (by omega) (fun i _ _ => by omega)]
      exact ((hbd.2.2.1 r r0 r1).2 j j0 j1).2
  have hamt : ∀ r : Int, 0 ≤ r → r < 10 → ∀ j : Int, 0 ≤ j → j < 8 → 0 ≤ I2 (b + (56 + 5 * r) + 3) j ∧ I2 (b + (56 + 5 * r) + 3) j ≤ 1000 := fun r r0 r1 j j0 j1 => by
    rw [(e2a r).resolve_right (fun h9 => h9 ⟨r0, r1⟩)]
    by_cases hc : r < K b 3 ∧ K b 0 ≤ j
    · have h9 := hamn r j r0 hc.1 hc.2 j1
      have h8 : zAm I1 b 0 r j = I1 (b + (56 + 5 * r) + 3) j := by show I1 (b + (56 + 5 * r) + 3) (0 * 8 + j) = _; rw [show 0 * 8 + j = j by omega]
      rw [h8] at h9; exact h9
    · rw [q9 r r0 r1 j (fun h8 h7 => by omega)]; exact ham r r0 r1 j j0 j1
  have hsb : ySb I2 n b := by
    refine ⟨by rw [e2b]; exact hbd.1, by rw [e27]; exact hsu, fun p p0 p1 => ?_, fun r r0 r1 => ⟨?_, hsent r r0 r1⟩, hamt⟩
    · rw [f2 _ (by omega) (by omega) (by omega) (fun i _ _ => by omega) (fun i _ _ => by omega)]; exact (hbd.2.1 p p0 p1).1
    · rw [f2 _ (by omega) (by omega) (by omega) (fun i _ _ => by omega) (fun i _ _ => by omega)]; exact (hbd.2.2.1 r r0 r1).1
  simp (disch := first | omega | exact Nat.le_of_ble_eq_true rfl | (simp (disch := omega) only [yn_k hn] <;> omega)) only [w_iconst, w_bipush, w_sipush, w_ldc_s, w_ldcw_s, w_ldc_i, w_ldcw_i, w_lconst, w_fconst, w_dconst, w_iload, w_iload_n, w_aload, w_aload_n, w_dload, w_istore, w_istore_n, w_astore_r, w_astore_s, w_astore_n_r, w_astore_n_s, w_dstore, w_iinc, w_iadd, w_isub, w_imul, w_iand, w_iushr, v_idiv, v_irem, w_ineg, w_i2l, w_i2c, w_i2f, w_i2d, v_f2d, w_lcmp, w_dcmp, v_fdiv, v_ddiv, w_dup_i, w_dup_r, w_dup2, w_dup_x2, w_pop_i, w_pop_r, w_goto, w_switch, w_ret_i, v_ret_z, v_ret_c, w_ret_a, w_ret_s, w_ret_f, w_ret_d, w_ret_v, v_iaload, v_baload, v_caload, v_laload, v_aaload, v_iastore, v_bastore, v_castore, v_lastore, v_aastore, v_alen, v_newa, v_anewa, w_new, w_throw, w_dead, v_getf_i, v_getf_z, v_getf_r, v_putf_i, v_putf_z, v_putf_r, w_call0, w_call1, w_callv1, w_calli1, w_callt1, w_call2, w_callv2, w_calli2, w_callt2, w_call3, w_callv3, w_calli3, w_call4, w_callv4, w_calli4, w_call5, w_callv5, w_calli5, w_call6, w_callv6, w_calli6, w_call7, w_callv7, w_calli7, w_call8, w_callv8, w_calli8, c_if0_eq_t, c_if0_eq_f, c_if2_eq_t, c_if2_eq_f, c_if0_ne_t, c_if0_ne_f, c_if2_ne_t, c_if2_ne_f, c_if0_lt_t, c_if0_lt_f, c_if2_lt_t, c_if2_lt_f, c_if0_ge_t, c_if0_ge_f, c_if2_ge_t, c_if2_ge_f, c_if0_gt_t, c_if0_gt_f, c_if2_gt_t, c_if2_gt_f, c_if0_le_t, c_if0_le_f, c_if2_le_t, c_if2_le_f, w_nil, uI_s, uA_r, uA_s, uD_d, mPut_0, mCl_own, mCv_go, mCl_min, mCl_cpy, mCv_obj, mAct_len, mAct_chrc, mAft_v, mAft_n, mAft_x, mGet_0, mSet_0, mGet_1, mSet_1, mGet_2, mSet_2, mGet_3, mSet_3, mGet_4, mSet_4, mGet_5, mSet_5, mGet_6, mSet_6, mGet_7, mSet_7, mGet_8, mSet_8, mGet_9, mSet_9, mGet_10, mSet_10, mGet_11, mSet_11, mGet_12, mSet_12, mGet_13, mSet_13, a_Ne_findWay_75, bk_Ne_findWay_75, yn_k hn, w5]
  refine l_so0 (I1 := I2) (D + 4) hn hB hd hsb (by rw [e2b]; exact w5) (fun p p0 p1 => ?_) (8 - K b 0).toNat (by rw [e2b]; exact Int.le_refl _) (by omega) ⟨fun _ _ => rfl, fun i j hij => ?_, fun _ _ _ _ _ => rfl, fun _ _ _ _ _ => rfl⟩ (fun I3 x3 hS3 => ?_)
  · rw [e2b, f2 _ (by omega) (by omega) (by omega) (fun i _ _ => by omega) (fun i _ _ => by omega)]
    exact (hbd.2.1 p p0 p1).2.1 _ hb0 (by omega)
  · unfold nDn at hij; rw [e2b] at hij; omega
  · have s1 := hS3.1
    have s0 : ∀ a : Int, (∀ i : Int, 0 ≤ i → i < 6 → a ≠ b + (5 + 4 * i) + 1 ∧ a ≠ b + (5 + 4 * i) + 2) → a ≠ b → (mUp I3 b 8 1) a = I2 a := fun a ha hb => by rw [up_fa hb]; exact s1 a ha
    have eA : ∀ o t : Int, 0 ≤ o → o < 10 → zAm (mUp I3 b 8 1) b 0 o t = zAm I1 b 0 o t := fun o t o0 o1 => by
      show (mUp I3 b 8 1) (b + (56 + 5 * o) + 3) (0 * 8 + t) = I1 (b + (56 + 5 * o) + 3) (0 * 8 + t)
      rw [s0 _ (fun i _ _ => by omega) (by omega), (e2a o).resolve_right (fun h9 => h9 ⟨o0, o1⟩)]
    have eY : ∀ c : Int, 0 ≤ c → c < 72 → (mUp I3 b 8 1) (b + (29 + 3 * (c / 8)) + 2) (c % 8) = I2 (b + (29 + 3 * (c / 8)) + 2) (c % 8) := fun c c0 c1 => by
      rw [s0 _ (fun i _ _ => by omega) (by omega)]
    simp (disch := first | omega | exact Nat.le_of_ble_eq_true rfl | (simp (disch := omega) only [yb_k hB, yb_4 hB, yb_5 hB, yb_6 hB, yb_7 hB, yb_k1 hB, yb_l1 hB, yb_k2 hB, yb_l2 hB, yb_k3 hB, yb_l3 hB, yb_k4 hB, yb_l4 hB, yb_p hB, yb_pk hB, yb_p1 hB, yb_pk1 hB, yb_pl1 hB, yb_p2 hB, yb_pk2 hB, yb_pl2 hB, yb_p3 hB, yb_pk3 hB, yb_pl3 hB, yb_r hB, yb_rk hB, yb_r3 hB, yb_rk3 hB, yb_rl3 hB, yb_r4 hB, yb_rk4 hB, yb_rl4 hB, yb_g hB, yb_gk hB, yb_g7 hB, yb_gk7 hB, yb_gl7 hB, yb_g8 hB, yb_gk8 hB, yb_gl8 hB, yb_g9 hB, yb_gk9 hB, yb_gl9 hB, yb_g10 hB, yb_gk10 hB, yb_gl10 hB] <;> omega)) only [w_iconst, w_bipush, w_sipush, w_ldc_s, w_ldcw_s, w_ldc_i, w_ldcw_i, w_lconst, w_fconst, w_dconst, w_iload, w_iload_n, w_aload, w_aload_n, w_dload, w_istore, w_istore_n, w_astore_r, w_astore_s, w_astore_n_r, w_astore_n_s, w_dstore, w_iinc, w_iadd, w_isub, w_imul, w_iand, w_iushr, v_idiv, v_irem, w_ineg, w_i2l, w_i2c, w_i2f, w_i2d, v_f2d, w_lcmp, w_dcmp, v_fdiv, v_ddiv, w_dup_i, w_dup_r, w_dup2, w_dup_x2, w_pop_i, w_pop_r, w_goto, w_switch, w_ret_i, v_ret_z, v_ret_c, w_ret_a, w_ret_s, w_ret_f, w_ret_d, w_ret_v, v_iaload, v_baload, v_caload, v_laload, v_aaload, v_iastore, v_bastore, v_castore, v_lastore, v_aastore, v_alen, v_newa, v_anewa, w_new, w_throw, w_dead, v_getf_i, v_getf_z, v_getf_r, v_putf_i, v_putf_z, v_putf_r, w_call0, w_call1, w_callv1, w_calli1, w_callt1, w_call2, w_callv2, w_calli2, w_callt2, w_call3, w_callv3, w_calli3, w_call4, w_callv4, w_calli4, w_call5, w_callv5, w_calli5, w_call6, w_callv6, w_calli6, w_call7, w_callv7, w_calli7, w_call8, w_callv8, w_calli8, c_if0_eq_t, c_if0_eq_f, c_if2_eq_t, c_if2_eq_f, c_if0_ne_t, c_if0_ne_f, c_if2_ne_t, c_if2_ne_f, c_if0_lt_t, c_if0_lt_f, c_if2_lt_t, c_if2_lt_f, c_if0_ge_t, c_if0_ge_f, c_if2_ge_t, c_if2_ge_f, c_if0_gt_t, c_if0_gt_f, c_if2_gt_t, c_if2_gt_f, c_if0_le_t, c_if0_le_f, c_if2_le_t, c_if2_le_f, w_nil, uI_s, uA_r, uA_s, uD_d, mPut_0, mCl_own, mCv_go, mCl_min, mCl_cpy, mCv_obj, mAct_len, mAct_chrc, mAft_v, mAft_n, mAft_x, mGet_0, mSet_0, mGet_1, mSet_1, mGet_2, mSet_2, mGet_3, mSet_3, mGet_4, mSet_4, mGet_5, mSet_5, mGet_6, mSet_6, mGet_7, mSet_7, mGet_8, mSet_8, mGet_9, mSet_9, mGet_10, mSet_10, mGet_11, mSet_11, mGet_12, mSet_12, mGet_13, mSet_13, a_Ne_findWay_132, bk_Ne_findWay_132, yb_k hB, yb_4 hB, yb_5 hB, yb_6 hB, yb_7 hB, yb_k1 hB, yb_l1 hB, yb_k2 hB, yb_l2 hB, yb_k3 hB, yb_l3 hB, yb_k4 hB, yb_l4 hB, yb_p hB, yb_pk hB, yb_p1 hB, yb_pk1 hB, yb_pl1 hB, yb_p2 hB, yb_pk2 hB, yb_pl2 hB, yb_p3 hB, yb_pk3 hB, yb_pl3 hB, yb_r hB, yb_rk hB, yb_r3 hB, yb_rk3 hB, yb_rl3 hB, yb_r4 hB, yb_rk4 hB, yb_rl4 hB, yb_g hB, yb_gk hB, yb_g7 hB, yb_gk7 hB, yb_gl7 hB, yb_g8 hB, yb_gk8 hB, yb_gl8 hB, yb_g9 hB, yb_gk9 hB, yb_gl9 hB, yb_g10 hB, yb_gk10 hB, yb_gl10 hB]
    refine k _ ⟨?_, ?_, fun c c0 c1 c2 c3 => ?_, ⟨I3, I2, rfl, hS3, hsb, e2b, fun v v0 v1 => ?_, fun p p0 p1 => ⟨?_, ?_, ?_⟩, fun r r0 r1 => ⟨?_, ?_⟩, fun r r0 r1 => ⟨?_, ?_⟩⟩, ?_, fun r r0 r1 j hj => ?_, fun i i0 i1 j hj => ?_, ?_, ?_, fun a a0 a1 a2 a3 a4 a5 a6 => ?_⟩
    · exact zPlan_c q6 (fun o t o0 o1 _ _ _ => (eA o t o0 (by omega)).symm)
    · have eD : zD (K b 3).toNat (K b 0) (yRk K b) (zPo K b) (zAm (mUp I3 b 8 1) b 0) (K b 3) (K b 0) = zD (K b 3).toNat (K b 0) (yRk K b) (zPo K b) (zAm I1 b 0) (K b 3) (K b 0) := funext (fun v => zD_congr (fun o t o0 o1 _ _ _ _ => eA o t o0 (by omega)) v)
      rw [eD]
      exact zWay_c (zAg_way q2 hway) (fun c c0 c1 => (eY c c0 c1).symm)
    · obtain ⟨g1, g2, g3, -⟩ := w2 c (zPk_t.mpr ⟨⟨c0, c1⟩, c2, c3, by unfold zKy; omega⟩)
      rw [eY c c0 c1, g1]
      exact ⟨g2, fun hdead => g3 ((q2.1 c c0 (by omega)).1.trans hdead)⟩
    · rw [e27]; exact q2.2 v v0 v1
    · exact f2 _ (by omega) (by omega) (by omega) (fun i _ _ => by omega) (fun i _ _ => by omega)
    · exact f2 _ (by omega) (by omega) (by omega) (fun i _ _ => by omega) (fun i _ _ => by omega)
    · exact f2 _ (by omega) (by omega) (by omega) (fun i _ _ => by omega) (fun i _ _ => by omega)
    · exact f2 _ (by omega) (by omega) (by omega) (fun i _ _ => by omega) (fun i _ _ => by omega)
    · exact (s0 _ (fun i _ _ => by omega) (by omega)).symm
    · exact f2 _ (by omega) (by omega) (by omega) (fun i _ _ => by omega) (fun i _ _ => by omega)
    · exact (s0 _ (fun i _ _ => by omega) (by omega)).symm
    · have h9 := w1.2.2.2.1
      unfold nOldQ at h9 ⊢
      rw [s0 n (fun i _ _ => by omega) (by omega), s0 (n + 10) (fun i _ _ => by omega) (by omega), s0 (n + 11) (fun i _ _ => by omega) (by omega)]; exact h9
    · rw [s0 _ (fun i _ _ => by omega) (by omega), w3 r r0 r1 j (fun j0 j1 => zPk_f.mpr (fun hc => by
        obtain ⟨-, g2, g3, -⟩ := hc
        have := hj (by omega) (by omega)
        omega)), jne _ (by omega), q7 _ (by omega) (by omega) (by omega) (fun i _ _ => by omega)]
    · rw [s0 _ (fun i _ _ => by omega) (by omega), (e2a i).resolve_right (fun h9 => h9 ⟨i0, i1⟩)]
      exact q9 i i0 i1 j (fun h1 h2 => by have := hj h1 (by omega); omega)
    · rw [s0 _ (fun i _ _ => by omega) (by omega), w4 _ (by omega) (fun i _ _ => by omega), jne _ (by omega)]; exact q8
    · have e3 : I3 b = K b := (s1 b (fun i _ _ => by omega)).trans e2b
      funext j
      unfold zU
      by_cases hj : j = 8
      · rw [if_pos hj, up_eq rfl hj]
      · rw [if_neg hj, up_nk hj, e3]
    · rw [s0 a a6 a2]; exact f2 a a0 a1 a3 a4 a5
end FD
