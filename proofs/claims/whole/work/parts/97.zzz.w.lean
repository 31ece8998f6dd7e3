/-! A basin's text, read. -/
abbrev zRr : Type := Int × Int × sT
section QD
variable (tx : Int → Int) (N : Int)
noncomputable def qNum (lo hi t : Int) (f : Int → zRr) : zRr := if zK tx N t = 2 ∧ lo ≤ zV tx N t ∧ zV tx N t ≤ hi then f (zV tx N t) else (0, t, fun _ => 0)
noncomputable def qPl (σ : sT) (t : Int) : zRr := qNum tx N 0 60 t (fun c => qNum tx N 0 c (t + 1) (fun s => (1, t + 2, sAddP σ c s)))
noncomputable def qWk (r : Int) : Nat → sT → Int → zRr
  | 0, σ, t => (1, t, σ)
  | n + 1, σ, t => if zK tx N t = 17 then qNum tx N 0 7 (t + 1) (fun w => qNum tx N 0 50 (t + 2) (fun c => qWk r n (zU σ (19 + 11 * r + w) c) (t + 3))) else (1, t, σ)
noncomputable def qRe (σ : sT) (t : Int) : zRr := qNum tx N 0 (σ 1 - 1) t (fun f => if zK tx N (t + 1) = 2 ∧ zV tx N (t + 1) = f then (0, t + 1, fun _ => 0) else qNum tx N 0 (σ 1 - 1) (t + 1) (fun g => qNum tx N 0 50 (t + 2) (fun c => qNum tx N 0 2 (t + 3) (fun w => qWk tx N (σ 2) 900 (sAddE σ f g c w) (t + 4)))))
noncomputable def qPa (i : Int) : Nat → sT → Int → zRr
  | 0, σ, t => (1, t, σ)
  | n + 1, σ, t => if zK tx N t = 19 then qNum tx N 0 1000 (t + 1) (fun v => qPa i n (zU σ (262 + 76 * i) v) (t + 2))
    else if zK tx N t = 20 then qNum tx N 0 7 (t + 1) (fun f => qNum tx N f 7 (t + 2) (fun l => qNum tx N 0 20 (t + 3) (fun a => qPa i n (sAskR σ i f l a) (t + 4))))
    else if zK tx N t = 21 then (if (zDr tx N (t + 1)).1 = none then (0, t + 1 + (zDr tx N (t + 1)).2, fun _ => 0) else qPa i n (sDcr σ i (zDr tx N (t + 1)).2 (zTT tx N (t + 1))) (t + 1 + (zDr tx N (t + 1)).2))
    else (1, t, σ)
noncomputable def qRi (σ : sT) (t : Int) : zRr := qNum tx N 0 (σ 1 - 1) t (fun p => qNum tx N 1800 2099 (t + 1) (fun y => qNum tx N 0 9 (t + 2) (fun c => qPa tx N (σ 3) 900 (sAddI σ p y c (σ 3) (-1)) (t + 3))))
noncomputable def qFl (s p : Int) : Nat → Int → sT → Int → zRr
  | 0, _, σ, t => (1, t, σ)
  | n + 1, w, σ, t => if zK tx N t = 2 then qNum tx N 0 40 t (fun a => qFl s p n (w + 1) (zU σ (115 + 48 * s + 8 * p + w) a) (t + 1)) else (1, t, σ)
noncomputable def qIn (σ : sT) (t : Int) : zRr := qNum tx N 0 2 t (fun s => qNum tx N 0 (σ 1 - 1) (t + 1) (fun p => qNum tx N 0 40 (t + 2) (fun a => qFl tx N s p 7 1 (zU σ (115 + 48 * s + 8 * p + 0) a) (t + 3))))
noncomputable def qSt (σ : sT) (t : Int) : zRr := if zK tx N t = 15 ∧ σ 1 < 6 then qPl tx N σ (t + 1) else if zK tx N t = 16 ∧ σ 2 < 9 then qRe tx N σ (t + 1) else if zK tx N t = 18 ∧ σ 3 < 10 then qRi tx N σ (t + 1) else if zK tx N t = 22 then qIn tx N σ (t + 1) else (0, t, fun _ => 0)
noncomputable def qBs : Nat → sT → Int → zRr
  | 0, σ, t => if zK tx N t = 0 then (1, t, σ) else (0, t, fun _ => 0)
  | n + 1, σ, t => if zK tx N t = 0 then (1, t, σ) else if (qSt tx N σ t).1 = 1 then (if zK tx N (qSt tx N σ t).2.1 = 3 then qBs n (qSt tx N σ t).2.2 ((qSt tx N σ t).2.1 + 1) else (0, (qSt tx N σ t).2.1, fun _ => 0)) else (0, (qSt tx N σ t).2.1, fun _ => 0)
noncomputable def qTop : zRr := if zK tx N 0 = 14 then (if zK tx N 1 = 3 then qBs tx N 900 (fun _ => 0) 2 else (0, 1, fun _ => 0)) else (0, 0, fun _ => 0)
end QD
/-- what the reading of a basin may change -/
def rFs (I I' : mN) (r b : Int) : Prop := (∀ a : Int, a ≠ r → a ≠ r + 5 → (a < b ∨ b + 106 ≤ a) → I' a = I a) ∧ (∀ j : Int, j ≠ 7 → j ≠ 8 → j ≠ 10 → I' r j = I r j) ∧ (rBd I r → rBd I' r)
theorem rFs_r (I : mN) (r b : Int) : rFs I I r b := ⟨fun _ _ _ _ => rfl, fun _ _ _ _ => rfl, fun h => h⟩
theorem rFs_t {I I' I'' : mN} {r b : Int} (h : rFs I I' r b) (h' : rFs I' I'' r b) : rFs I I'' r b := ⟨fun a a0 a5 a6 => (h'.1 a a0 a5 a6).trans (h.1 a a0 a5 a6), fun j h7 h8 h9 => (h'.2.1 j h7 h8 h9).trans (h.2.1 j h7 h8 h9), fun q => h'.2.2 (h.2.2 q)⟩
theorem rFs_d {I I' : mN} {r b : Int} (h : rFd I I' r) : rFs I I' r b := ⟨fun a a0 a5 _ => h.1 a a0 a5, h.2.1, h.2.2.1⟩
theorem rFs_7 {I : mN} {r b v : Int} : rFs I (mUp I r 7 v) r b := ⟨fun a a0 a5 _ => up_fa a0, fun j h7 h8 h9 => up_nk h7, fun q j j0 j1 => by rw [up_fa (by omega)]; exact q j j0 j1⟩
theorem rFs_8 {I : mN} {r b v : Int} : rFs I (mUp I r 8 v) r b := rFs_d rFd_8
theorem rFs_b {I I' : mN} {r b : Int} (hrb : b + 106 ≤ r) (h : ∀ a : Int, (a < b ∨ b + 106 ≤ a) → I' a = I a) : rFs I I' r b := ⟨fun a _ _ ha => h a ha, fun j _ _ _ => by rw [h r (by omega)], fun q j j0 j1 => by rw [h (r + 5) (by omega)]; exact q j j0 j1⟩
section QO
variable {S : mH} {I : mN} {Q : mQ} {r b : Int} {tx : Int → Int} {N : Int} {T : Nat} {t : Int} {σ : sT}
def oSt (I : mN) (r b : Int) (tx : Int → Int) (N : Int) (T : Nat) (σ : sT) (t : Int) : Prop := rPo I r tx N T t ∧ yS I b σ ∧ yOk I b ∧ yF0 I b ∧ sWf σ ∧ rBd I r
def oB (S : mH) (r b : Int) (tx : Int → Int) (N : Int) (T : Nat) (I : mN) (Q : mQ) (q : zRr) : Prop := ∀ I' : mN, rFs I I' r b → (q.1 = 1 → oSt I' r b tx N T q.2.2 q.2.1) → (q.1 = 0 → I' r 8 = 1 ∧ I' r 7 = q.2.1 ∧ q.2.1 ≤ T ∧ 0 ≤ q.2.1 ∧ rTok I' r tx N T ∧ yOk I' b) → Q (.inl none) I' S
theorem oB_t {I1 : mN} {q : zRr} (h : oB S r b tx N T I Q q) (f : rFs I I1 r b) : oB S r b tx N T I1 Q q := fun I' f' a c => h I' (rFs_t f f') a c
theorem yS_kr {I I' : mN} (hw : sWf σ) (h : yS I b σ) (ho : yOk I b) (hf : yF0 I b) (e : ∀ a : Int, b ≤ a → a < b + 106 → I' a = I a) : yS I' b σ ∧ yOk I' b ∧ yF0 I' b := ⟨yS_k hw h (fun a a0 a1 => e a (by omega) (by omega)), yOk_k ho (fun a a0 a1 => e a (by omega) (by omega)), yF0_k hf (e _ (by omega) (by omega)) (by rw [e b (by omega) (by omega)])⟩
theorem oSt_s (hrb : b + 106 ≤ r) (n0 : 0 ≤ N) (n9 : N ≤ 900) (h : oSt I r b tx N T σ t) (hk : zK tx N t ≠ 0) : oSt (mUp I r 7 (t + 1)) r b tx N T σ (t + 1) := by
  obtain ⟨h1, h2, h3, h4, h5, h6⟩ := h
  have g := rPo_l n0 n9 h1 hk
  obtain ⟨q1, q2, q3⟩ := yS_kr (I' := mUp I r 7 (t + 1)) h5 h2 h3 h4 (fun a a0 a1 => up_fa (by omega))
  exact ⟨rPo_s h1 g.1, q1, q2, q3, h5, (rFs_7 (b := b)).2.2 h6⟩
theorem oB_8 {σ0 : sT} (hrb : b + 106 ≤ r) (k : oB S r b tx N T I Q (0, t, σ0)) (h : oSt I r b tx N T σ t) : Q (.inl none) (mUp I r 8 1) S :=
  k _ rFs_8 (fun q => absurd (show (0 : Int) = 1 from q) (by decide)) (fun _ => ⟨up_eq rfl rfl, by rw [up_nk (by decide)]; exact h.1.2.1, h.1.2.2.2.2, h.1.2.2.2.1, rTok_up h.1.1 (by decide) (by decide), yOk_k h.2.2.1 (fun a a0 a1 => up_fa (by omega))⟩)
theorem oB_1 {I1 : mN} (k : oB S r b tx N T I Q (1, t, σ)) (f : rFs I I1 r b) (h : oSt I1 r b tx N T σ t) : Q (.inl none) I1 S := k I1 f (fun _ => h) (fun q => absurd (show (1 : Int) = 0 from q) (by decide))
theorem qNum_1 {lo hi : Int} {f : Int → zRr} (h : zK tx N t = 2 ∧ lo ≤ zV tx N t ∧ zV tx N t ≤ hi) : qNum tx N lo hi t f = f (zV tx N t) := if_pos h
theorem qNum_0 {lo hi : Int} {f : Int → zRr} (h : ¬ (zK tx N t = 2 ∧ lo ≤ zV tx N t ∧ zV tx N t ≤ hi)) : qNum tx N lo hi t f = (0, t, fun _ => 0) := if_neg h
/-- a place -/
theorem p_plSt (E : Nat) (hrb : b + 106 ≤ r) (hB : yB S b) (n0 : 0 ≤ N) (n9 : N ≤ 900) (hr : yRd S r) (h : oSt I r b tx N T σ t) (h6 : σ 1 < 6) (kk : oB S r b tx N T I Q (qPl tx N σ t)) : mRun (E + 4) 83 [mR r, mR b] I S Q := by
  unfold qPl at kk
  by_cases c1 : zK tx N t = 2 ∧ 0 ≤ zV tx N t ∧ zV tx N t ≤ 60
  · rw [qNum_1 c1] at kk
    have g1 : ∀ Q : mQ, mRun (E + 3) 81 [mR r, mI 0, mI 60] I S Q = Q (.inl (some (mI (zV tx N t)))) (mUp I r 7 (t + 1)) S := fun Q => r_num (E + 1) n0 n9 hr h.1 c1.1 c1.2.1 c1.2.2
    have h1 := oSt_s hrb n0 n9 h (by omega)
    have f1 : rFs I (mUp I r 7 (t + 1)) r b := rFs_7
    generalize mUp I r 7 (t + 1) = I1 at g1 h1 f1
    by_cases c2 : zK tx N (t + 1) = 2 ∧ 0 ≤ zV tx N (t + 1) ∧ zV tx N (t + 1) ≤ zV tx N t
    · rw [qNum_1 c2] at kk
      have g2 : ∀ Q : mQ, mRun (E + 3) 81 [mR r, mI 0, mI (zV tx N t)] I1 S Q = Q (.inl (some (mI (zV tx N (t + 1))))) (mUp I1 r 7 (t + 1 + 1)) S := fun Q => r_num (E + 1) n0 n9 hr h1.1 c2.1 c2.2.1 c2.2.2
      have h2 := oSt_s hrb n0 n9 h1 (by omega)
      have f2 : rFs I1 (mUp I1 r 7 (t + 1 + 1)) r b := rFs_7
      generalize mUp I1 r 7 (t + 1 + 1) = I2 at g2 h2 f2
      obtain ⟨a1, a2, a3, a4, a5, a6⟩ := h2
      have w8 := a1.2.2.1
      have hb := a5.1
      simp (disch := first | omega | exact Nat.le_of_ble_eq_true rfl | (simp (disch := omega) only [yr_k hr, yr_0 hr, yr_k0 hr, yr_l0 hr, yr_3 hr, yr_k3 hr, yr_l3 hr, yr_4 hr, yr_k4 hr, yr_l4 hr, yr_5 hr, yr_k5 hr, yr_l5 hr, yr_9 hr, yr_k9 hr, yr_l9 hr, yr_11 hr, yb_k hB, w8] <;> omega)) only [w_iconst, w_bipush, w_sipush, w_ldc_s, w_ldcw_s, w_ldc_i, w_ldcw_i, w_lconst, w_fconst, w_dconst, w_iload, w_iload_n, w_aload, w_aload_n, w_dload, w_istore, w_istore_n, w_astore_r, w_astore_s, w_astore_n_r, w_astore_n_s, w_dstore, w_iinc, w_iadd, w_isub, w_imul, w_iand, w_iushr, v_idiv, v_irem, w_ineg, w_i2l, w_i2c, w_i2f, w_i2d, v_f2d, w_lcmp, w_dcmp, v_fdiv, v_ddiv, w_dup_i, w_dup_r, w_dup2, w_dup_x2, w_pop_i, w_pop_r, w_goto, w_switch, w_ret_i, v_ret_z, v_ret_c, w_ret_a, w_ret_s, w_ret_f, w_ret_d, w_ret_v, v_iaload, v_baload, v_caload, v_laload, v_aaload, v_iastore, v_bastore, v_castore, v_lastore, v_aastore, v_alen, v_newa, v_anewa, w_new, w_throw, w_dead, v_getf_i, v_getf_z, v_getf_r, v_putf_i, v_putf_z, v_putf_r, w_call0, w_call1, w_callv1, w_calli1, w_callt1, w_call2, w_callv2, w_calli2, w_callt2, w_call3, w_callv3, w_calli3, w_call4, w_callv4, w_calli4, w_call5, w_callv5, w_calli5, w_call6, w_callv6, w_calli6, w_call7, w_callv7, w_calli7, w_call8, w_callv8, w_calli8, c_if0_eq_t, c_if0_eq_f, c_if2_eq_t, c_if2_eq_f, c_if0_ne_t, c_if0_ne_f, c_if2_ne_t, c_if2_ne_f, c_if0_lt_t, c_if0_lt_f, c_if2_lt_t, c_if2_lt_f, c_if0_ge_t, c_if0_ge_f, c_if2_ge_t, c_if2_ge_f, c_if0_gt_t, c_if0_gt_f, c_if2_gt_t, c_if2_gt_f, c_if0_le_t, c_if0_le_f, c_if2_le_t, c_if2_le_f, w_nil, uI_s, uA_r, uA_s, uD_d, mPut_0, mCl_own, mCv_go, mCl_min, mCl_cpy, mCv_obj, mAct_len, mAct_chrc, mAft_v, mAft_n, mAft_x, mGet_0, mSet_0, mGet_1, mSet_1, mGet_2, mSet_2, mGet_3, mSet_3, mGet_4, mSet_4, mGet_5, mSet_5, mGet_6, mSet_6, mGet_7, mSet_7, mGet_8, mSet_8, mGet_9, mSet_9, mGet_10, mSet_10, mGet_11, mSet_11, mGet_12, mSet_12, mGet_13, mSet_13, e_Rd_placeStatement, a_Rd_placeStatement_0, bk_Rd_placeStatement_0, a_Rd_placeStatement_28, bk_Rd_placeStatement_28, yr_k hr, yr_0 hr, yr_k0 hr, yr_l0 hr, yr_3 hr, yr_k3 hr, yr_l3 hr, yr_4 hr, yr_k4 hr, yr_l4 hr, yr_5 hr, yr_k5 hr, yr_l5 hr, yr_9 hr, yr_k9 hr, yr_l9 hr, yr_11 hr, yb_k hB, g1, g2, w8]
      refine p_joinP E hB (a2.1.2.1) (by omega) h6 a2.1.1 (by omega) (by omega) (fun I3 o1 o2 o3 o4 o5 o6 o7 => ?_)
      simp (disch := first | omega | exact Nat.le_of_ble_eq_true rfl) only [w_iconst, w_bipush, w_sipush, w_ldc_s, w_ldcw_s, w_ldc_i, w_ldcw_i, w_lconst, w_fconst, w_dconst, w_iload, w_iload_n, w_aload, w_aload_n, w_dload, w_istore, w_istore_n, w_astore_r, w_astore_s, w_astore_n_r, w_astore_n_s, w_dstore, w_iinc, w_iadd, w_isub, w_imul, w_iand, w_iushr, v_idiv, v_irem, w_ineg, w_i2l, w_i2c, w_i2f, w_i2d, v_f2d, w_lcmp, w_dcmp, v_fdiv, v_ddiv, w_dup_i, w_dup_r, w_dup2, w_dup_x2, w_pop_i, w_pop_r, w_goto, w_switch, w_ret_i, v_ret_z, v_ret_c, w_ret_a, w_ret_s, w_ret_f, w_ret_d, w_ret_v, v_iaload, v_baload, v_caload, v_laload, v_aaload, v_iastore, v_bastore, v_castore, v_lastore, v_aastore, v_alen, v_newa, v_anewa, w_new, w_throw, w_dead, v_getf_i, v_getf_z, v_getf_r, v_putf_i, v_putf_z, v_putf_r, w_call0, w_call1, w_callv1, w_calli1, w_callt1, w_call2, w_callv2, w_calli2, w_callt2, w_call3, w_callv3, w_calli3, w_call4, w_callv4, w_calli4, w_call5, w_callv5, w_calli5, w_call6, w_callv6, w_calli6, w_call7, w_callv7, w_calli7, w_call8, w_callv8, w_calli8, c_if0_eq_t, c_if0_eq_f, c_if2_eq_t, c_if2_eq_f, c_if0_ne_t, c_if0_ne_f, c_if2_ne_t, c_if2_ne_f, c_if0_lt_t, c_if0_lt_f, c_if2_lt_t, c_if2_lt_f, c_if0_ge_t, c_if0_ge_f, c_if2_ge_t, c_if2_ge_f, c_if0_gt_t, c_if0_gt_f, c_if2_gt_t, c_if2_gt_f, c_if0_le_t, c_if0_le_f, c_if2_le_t, c_if2_le_f, w_nil, uI_s, uA_r, uA_s, uD_d, mPut_0, mCl_own, mCv_go, mCl_min, mCl_cpy, mCv_obj, mAct_len, mAct_chrc, mAft_v, mAft_n, mAft_x, mGet_0, mSet_0, mGet_1, mSet_1, mGet_2, mSet_2, mGet_3, mSet_3, mGet_4, mSet_4, mGet_5, mSet_5, mGet_6, mSet_6, mGet_7, mSet_7, mGet_8, mSet_8, mGet_9, mSet_9, mGet_10, mSet_10, mGet_11, mSet_11, mGet_12, mSet_12, mGet_13, mSet_13, a_Rd_placeStatement_28, bk_Rd_placeStatement_28]
      have hw' := sWf_adp (c := zV tx N t) (s := zV tx N (t + 1)) a5 h6 c1.2.1 c1.2.2 c2.2.1 c2.2.2
      obtain ⟨s1, s2⟩ := yS_adp a5 h6 hw' c1.2.1 c1.2.2 c2.2.1 c2.2.2 a2 a3 a4 o1 o2 o3 o4 o5 o6 o7
      have f3 : rFs I2 I3 r b := rFs_b hrb (fun a ha => o1 a (by omega) (by omega))
      refine oB_1 kk (rFs_t f1 (rFs_t f2 f3)) ⟨?_, s1, s2, yF0_k a4 (o1 _ (by omega) (by omega)) (o2 8 (by decide)), hw', f3.2.2 a6⟩
      rw [show t + 1 + 1 = t + 2 by omega] at a1
      exact ⟨rTok_k2 a1.1 (by rw [o1 r (by omega) (by omega)]) (by rw [o1 r (by omega) (by omega)]) (o1 _ (by omega) (by omega)) (o1 _ (by omega) (by omega)) (o1 _ (by omega) (by omega)) (o1 _ (by omega) (by omega)), by rw [o1 r (by omega) (by omega)]; exact a1.2.1, by rw [o1 r (by omega) (by omega)]; exact a1.2.2.1, a1.2.2.2⟩
    · rw [qNum_0 c2] at kk
      have g2 : ∀ Q : mQ, mRun (E + 3) 81 [mR r, mI 0, mI (zV tx N t)] I1 S Q = Q (.inl (some (mI (-1)))) (mUp I1 r 8 1) S := fun Q => r_numN (E + 1) n0 n9 hr h1.1 c2
      have w8 : (mUp I1 r 8 1) r 8 = 1 := up_eq rfl rfl
      simp (disch := first | omega | exact Nat.le_of_ble_eq_true rfl | (simp (disch := omega) only [yr_k hr, yr_0 hr, yr_k0 hr, yr_l0 hr, yr_3 hr, yr_k3 hr, yr_l3 hr, yr_4 hr, yr_k4 hr, yr_l4 hr, yr_5 hr, yr_k5 hr, yr_l5 hr, yr_9 hr, yr_k9 hr, yr_l9 hr, yr_11 hr, w8] <;> omega)) only [w_iconst, w_bipush, w_sipush, w_ldc_s, w_ldcw_s, w_ldc_i, w_ldcw_i, w_lconst, w_fconst, w_dconst, w_iload, w_iload_n, w_aload, w_aload_n, w_dload, w_istore, w_istore_n, w_astore_r, w_astore_s, w_astore_n_r, w_astore_n_s, w_dstore, w_iinc, w_iadd, w_isub, w_imul, w_iand, w_iushr, v_idiv, v_irem, w_ineg, w_i2l, w_i2c, w_i2f, w_i2d, v_f2d, w_lcmp, w_dcmp, v_fdiv, v_ddiv, w_dup_i, w_dup_r, w_dup2, w_dup_x2, w_pop_i, w_pop_r, w_goto, w_switch, w_ret_i, v_ret_z, v_ret_c, w_ret_a, w_ret_s, w_ret_f, w_ret_d, w_ret_v, v_iaload, v_baload, v_caload, v_laload, v_aaload, v_iastore, v_bastore, v_castore, v_lastore, v_aastore, v_alen, v_newa, v_anewa, w_new, w_throw, w_dead, v_getf_i, v_getf_z, v_getf_r, v_putf_i, v_putf_z, v_putf_r, w_call0, w_call1, w_callv1, w_calli1, w_callt1, w_call2, w_callv2, w_calli2, w_callt2, w_call3, w_callv3, w_calli3, w_call4, w_callv4, w_calli4, w_call5, w_callv5, w_calli5, w_call6, w_callv6, w_calli6, w_call7, w_callv7, w_calli7, w_call8, w_callv8, w_calli8, c_if0_eq_t, c_if0_eq_f, c_if2_eq_t, c_if2_eq_f, c_if0_ne_t, c_if0_ne_f, c_if2_ne_t, c_if2_ne_f, c_if0_lt_t, c_if0_lt_f, c_if2_lt_t, c_if2_lt_f, c_if0_ge_t, c_if0_ge_f, c_if2_ge_t, c_if2_ge_f, c_if0_gt_t, c_if0_gt_f, c_if2_gt_t, c_if2_gt_f, c_if0_le_t, c_if0_le_f, c_if2_le_t, c_if2_le_f, w_nil, uI_s, uA_r, uA_s, uD_d, mPut_0, mCl_own, mCv_go, mCl_min, mCl_cpy, mCv_obj, mAct_len, mAct_chrc, mAft_v, mAft_n, mAft_x, mGet_0, mSet_0, mGet_1, mSet_1, mGet_2, mSet_2, mGet_3, mSet_3, mGet_4, mSet_4, mGet_5, mSet_5, mGet_6, mSet_6, mGet_7, mSet_7, mGet_8, mSet_8, mGet_9, mSet_9, mGet_10, mSet_10, mGet_11, mSet_11, mGet_12, mSet_12, mGet_13, mSet_13, e_Rd_placeStatement, a_Rd_placeStatement_0, bk_Rd_placeStatement_0, a_Rd_placeStatement_28, bk_Rd_placeStatement_28, yr_k hr, yr_0 hr, yr_k0 hr, yr_l0 hr, yr_3 hr, yr_k3 hr, yr_l3 hr, yr_4 hr, yr_k4 hr, yr_l4 hr, yr_5 hr, yr_k5 hr, yr_l5 hr, yr_9 hr, yr_k9 hr, yr_l9 hr, yr_11 hr, g1, g2, w8]
      exact oB_8 hrb (oB_t kk f1) h1
  · rw [qNum_0 c1] at kk
    have g1 : ∀ Q : mQ, mRun (E + 3) 81 [mR r, mI 0, mI 60] I S Q = Q (.inl (some (mI (-1)))) (mUp I r 8 1) S := fun Q => r_numN (E + 1) n0 n9 hr h.1 c1
    have w8 : (mUp I r 8 1) r 8 = 1 := up_eq rfl rfl
    have g2 : ∀ Q : mQ, mRun (E + 3) 81 [mR r, mI 0, mI (-1)] (mUp I r 8 1) S Q = Q (.inl (some (mI (-1)))) (mUp I r 8 1) S := fun Q => by rw [r_numX (E + 1) hr w8, up_id w8]
    simp (disch := first | omega | exact Nat.le_of_ble_eq_true rfl | (simp (disch := omega) only [yr_k hr, yr_0 hr, yr_k0 hr, yr_l0 hr, yr_3 hr, yr_k3 hr, yr_l3 hr, yr_4 hr, yr_k4 hr, yr_l4 hr, yr_5 hr, yr_k5 hr, yr_l5 hr, yr_9 hr, yr_k9 hr, yr_l9 hr, yr_11 hr, w8] <;> omega)) only [w_iconst, w_bipush, w_sipush, w_ldc_s, w_ldcw_s, w_ldc_i, w_ldcw_i, w_lconst, w_fconst, w_dconst, w_iload, w_iload_n, w_aload, w_aload_n, w_dload, w_istore, w_istore_n, w_astore_r, w_astore_s, w_astore_n_r, w_astore_n_s, w_dstore, w_iinc, w_iadd, w_isub, w_imul, w_iand, w_iushr, v_idiv, v_irem, w_ineg, w_i2l, w_i2c, w_i2f, w_i2d, v_f2d, w_lcmp, w_dcmp, v_fdiv, v_ddiv, w_dup_i, w_dup_r, w_dup2, w_dup_x2, w_pop_i, w_pop_r, w_goto, w_switch, w_ret_i, v_ret_z, v_ret_c, w_ret_a, w_ret_s, w_ret_f, w_ret_d, w_ret_v, v_iaload, v_baload, v_caload, v_laload, v_aaload, v_iastore, v_bastore, v_castore, v_lastore, v_aastore, v_alen, v_newa, v_anewa, w_new, w_throw, w_dead, v_getf_i, v_getf_z, v_getf_r, v_putf_i, v_putf_z, v_putf_r, w_call0, w_call1, w_callv1, w_calli1, w_callt1, w_call2, w_callv2, w_calli2, w_callt2, w_call3, w_callv3, w_calli3, w_call4, w_callv4, w_calli4, w_call5, w_callv5, w_calli5, w_call6, w_callv6, w_calli6, w_call7, w_callv7, w_calli7, w_call8, w_callv8, w_calli8, c_if0_eq_t, c_if0_eq_f, c_if2_eq_t, c_if2_eq_f, c_if0_ne_t, c_if0_ne_f, c_if2_ne_t, c_if2_ne_f, c_if0_lt_t, c_if0_lt_f, c_if2_lt_t, c_if2_lt_f, c_if0_ge_t, c_if0_ge_f, c_if2_ge_t, c_if2_ge_f, c_if0_gt_t, c_if0_gt_f, c_if2_gt_t, c_if2_gt_f, c_if0_le_t, c_if0_le_f, c_if2_le_t, c_if2_le_f, w_nil, uI_s, uA_r, uA_s, uD_d, mPut_0, mCl_own, mCv_go, mCl_min, mCl_cpy, mCv_obj, mAct_len, mAct_chrc, mAft_v, mAft_n, mAft_x, mGet_0, mSet_0, mGet_1, mSet_1, mGet_2, mSet_2, mGet_3, mSet_3, mGet_4, mSet_4, mGet_5, mSet_5, mGet_6, mSet_6, mGet_7, mSet_7, mGet_8, mSet_8, mGet_9, mSet_9, mGet_10, mSet_10, mGet_11, mSet_11, mGet_12, mSet_12, mGet_13, mSet_13, e_Rd_placeStatement, a_Rd_placeStatement_0, bk_Rd_placeStatement_0, a_Rd_placeStatement_28, bk_Rd_placeStatement_28, yr_k hr, yr_0 hr, yr_k0 hr, yr_l0 hr, yr_3 hr, yr_k3 hr, yr_l3 hr, yr_4 hr, yr_k4 hr, yr_l4 hr, yr_5 hr, yr_k5 hr, yr_l5 hr, yr_9 hr, yr_k9 hr, yr_l9 hr, yr_11 hr, g1, g2, w8]
    exact oB_8 hrb kk h
end QO
