/-! The model's reading of a decree, whole. -/
section ZQ2
variable {S : mH} {m : Int} {tx : Int → Int} {N t : Int} (D : Nat)
theorem zTd_b {K V : Int} (hV : K = 2 → 0 ≤ V ∧ V ≤ 9999) : zTd K V ≠ 10003 ∧ zTd K V ≠ 10004 ∧ zTd K V ≠ 10005 ∧ zTd K V ≠ 10006 ∨ K = 7 ∨ K = 8 ∨ K = 9 ∨ K = 10 := by
  unfold zTd
  by_cases c1 : K = 2
  · rw [if_pos c1]; have := hV c1; omega
  · rw [if_neg c1]
    by_cases c2 : K = 17
    · rw [if_pos c2]; omega
    · rw [if_neg c2]
      by_cases c3 : 4 ≤ K ∧ K ≤ 13
      · rw [if_pos c3]; omega
      · rw [if_neg c3]
        by_cases c4 : 23 ≤ K ∧ K ≤ 25
        · rw [if_pos c4]; omega
        · rw [if_neg c4]
          by_cases c5 : 26 ≤ K ∧ K ≤ 29
          · rw [if_pos c5]; omega
          · rw [if_neg c5]; omega
theorem sFl_d {σ : sT} {s : Int} (hd : zDra σ) (s0 : 0 ≤ s) (s1 : s < 3) (p x y : Int) : inR (sFl σ s p x y) := by
  unfold sFl
  split
  · rename_i hc
    have hb := hd.2.1
    have := sm_bd (n := 8) (f := fun t => if x ≤ t ∧ t ≤ y then σ (115 + 48 * s + 8 * p + t) else 0) (fun t t0 t1 => by
      have := hd.2.2 s p t s0 s1 hc.1 (by omega) t0 (by omega)
      show 0 ≤ (if _ then _ else (0 : Int)) ∧ (if _ then _ else (0 : Int)) ≤ 1000
      split <;> omega)
    unfold inR
    omega
  · decide
theorem p_reads (z : Int) (hm : yM S m) {I : mN} {σ : sT} {f : Nat} {res : Option Int} {j : Int} {Q : mQ} (n0 : 0 ≤ N) (n9 : N ≤ 900) (t0 : 0 ≤ t) (h : zTk9 I m tx N t) (hI : I (m + 42) = σ) (hd : zDra σ) (hx : rX tx N t 0 (sFl σ 0) f 3 8 0 0 = some (res, j))
    (kk : ∀ I' : mN, zFq I I' m → zTk9 I' m tx N (t + j) → (∀ u : Int, res = some u → I' m 62 = j ∧ (0 ≤ j ∧ j ≤ 60) ∧ ∀ i : Int, 0 ≤ i → i < j → I' (m + 41) i = zTT tx N t i) → Q (.inl (some (mI (if res = none then 0 else 1)))) I' (mSx S m (m + 42))) : mRun (D + 8) 328 [mR m] I (mSx S m z) Q := by
  have hmz := yM_x (z := z) hm
  have hma := yM_x (z := m + 42) hm
  have hV : ∀ i : Int, zK tx N (t + i) = 2 → 0 ≤ zV tx N (t + i) ∧ zV tx N (t + i) ≤ 9999 := fun i q => (zK_b (tx := tx) n0 n9 (k := t + i)).2.2.2 q
  generalize hI1 : mUp I m 62 0 = I1
  have hbg : ∀ Q : mQ, mRun (D + 7) 297 [mR m, mR (m + 42), mI 0, mI 0] I1 (mSx S m z) Q = Q (.inl none) (aBg (mUp (mUp (mUp (mUp I1 m 46 0) m 47 0) m 48 0) (m + 33) 0 0) m 0 0) (mSx S m (m + 42)) := fun Q => by rw [r_bgDec (D + 5) hmz, mSx_x]
  have hkf : kFk I1 (aBg (mUp (mUp (mUp (mUp I1 m 46 0) m 47 0) m 48 0) (m + 33) 0 0) m 0 0) m := by
    refine ⟨fun a a1 a2 => ?_, fun k hk => ?_⟩
    · rw [aBg_k.1 a a1 a2, up_fa (by omega), up_fa a1, up_fa a1, up_fa a1]
    · rw [aBg_k.2 k (by omega), up_na (by omega), up_nk (by omega), up_nk (by omega), up_nk (by omega)]
  have hc46 : (aBg (mUp (mUp (mUp (mUp I1 m 46 0) m 47 0) m 48 0) (m + 33) 0 0) m 0 0) m 46 = 0 := by unfold aBg; simp (disch := first | omega | exact Nat.le_of_ble_eq_true rfl) only [ua_eq, ua_ne, up_eq, up_fa, up_nk, tk_in, tk_out]
  have hc47 : (aBg (mUp (mUp (mUp (mUp I1 m 46 0) m 47 0) m 48 0) (m + 33) 0 0) m 0 0) m 47 = 0 := by unfold aBg; simp (disch := first | omega | exact Nat.le_of_ble_eq_true rfl) only [ua_eq, ua_ne, up_eq, up_fa, up_nk, tk_in, tk_out]
  have hc48 : (aBg (mUp (mUp (mUp (mUp I1 m 46 0) m 47 0) m 48 0) (m + 33) 0 0) m 0 0) m 48 = 0 := by unfold aBg; simp (disch := first | omega | exact Nat.le_of_ble_eq_true rfl) only [ua_eq, ua_ne, up_eq, up_fa, up_nk, tk_in, tk_out]
  have hc49 : (aBg (mUp (mUp (mUp (mUp I1 m 46 0) m 47 0) m 48 0) (m + 33) 0 0) m 0 0) m 49 = 0 := by unfold aBg; simp (disch := first | omega | exact Nat.le_of_ble_eq_true rfl) only [ua_eq, ua_ne, up_eq, up_fa, up_nk, tk_in, tk_out]
  have hc33 : (aBg (mUp (mUp (mUp (mUp I1 m 46 0) m 47 0) m 48 0) (m + 33) 0 0) m 0 0) (m + 33) 0 = 0 := by unfold aBg; simp (disch := first | omega | exact Nat.le_of_ble_eq_true rfl) only [ua_eq, ua_ne, up_eq, up_fa, up_nk, tk_in, tk_out]
  have hc36 : (aBg (mUp (mUp (mUp (mUp I1 m 46 0) m 47 0) m 48 0) (m + 33) 0 0) m 0 0) (m + 36) 0 = -1 := by unfold aBg; simp (disch := first | omega | exact Nat.le_of_ble_eq_true rfl) only [ua_eq, ua_ne, up_eq, up_fa, up_nk, tk_in, tk_out]
  have hc34 : (aBg (mUp (mUp (mUp (mUp I1 m 46 0) m 47 0) m 48 0) (m + 33) 0 0) m 0 0) (m + 34) 0 = 0 := by unfold aBg; simp (disch := first | omega | exact Nat.le_of_ble_eq_true rfl) only [ua_eq, ua_ne, up_eq, up_fa, up_nk, tk_in, tk_out]
  have hc39 : (aBg (mUp (mUp (mUp (mUp I1 m 46 0) m 47 0) m 48 0) (m + 33) 0 0) m 0 0) (m + 39) 0 = 0 := by unfold aBg; simp (disch := first | omega | exact Nat.le_of_ble_eq_true rfl) only [ua_eq, ua_ne, up_eq, up_fa, up_nk, tk_in, tk_out]
  generalize aBg (mUp (mUp (mUp (mUp I1 m 46 0) m 47 0) m 48 0) (m + 33) 0 0) m 0 0 = I0 at hbg hkf hc46 hc47 hc48 hc49 hc33 hc36 hc34 hc39
  have hI0 : I0 (m + 42) = σ := by rw [hkf.1 (m + 42) (by omega) (by omega), ← hI1, up_fa (by omega)]; exact hI
  obtain ⟨n, J, a1, a2, a3, a4⟩ := sim_all (S := mSx S m (m + 42)) (sA := m + 42) (s := 0) (wk := 0) (σ := σ) hma (by omega) (by omega) (up_eq rfl rfl) (ym_k54 hma) (ym_l54 hma) hd.2.1 (fun s p j q0 q1 q2 q3 q4 q5 => by
    have := hd.2.2 s p j q0 q1 q2 q3 q4 q5
    omega) (Int.le_refl 0) (by decide) (Int.le_refl 0) (by decide) (K := fun i => zK tx N (t + i)) (V := fun i => zV tx N (t + i)) hV (sFl_d hd (Int.le_refl 0) (by decide)) f 3 8 0 0 I0 0 res j hx (by decide) (by decide) (by decide) ⟨hc46, hc47, hI0⟩ (aPre_3.mpr ⟨hc48, hc49, hc36, hc34, hc39⟩)
  have f0 : zFq I I0 m := by
    refine ⟨fun a b0 b1 b2 => by rw [hkf.1 a b0 (by omega), ← hI1, up_fa b0], fun k k0 k1 k2 => by rw [hkf.2 k (by omega), ← hI1, up_nk k2]⟩
  have ht0 : zTk9 I0 m tx N t := by
    obtain ⟨⟨h1, h2⟩, h3⟩ := h
    have e : ∀ k : Int, 52 ≤ k → k ≠ 62 → I0 m k = I m k := fun k k0 k1 => by rw [hkf.2 k (by omega), ← hI1, up_nk k1]
    refine ⟨⟨by rw [e 55 (by decide) (by decide)]; exact h1, fun i i0 i1 => by rw [hkf.1 (m + 40) (by omega) (by omega), ← hI1, up_fa (by omega)]; exact h2 i i0 i1⟩, ?_⟩
    unfold zTkS at h3 ⊢
    rw [e 57 (by decide) (by decide), e 56 (by decide) (by decide), e 58 (by decide) (by decide), e 59 (by decide) (by decide)]
    exact h3
  have w62 : I0 m 62 = 0 := by rw [hkf.2 62 (by decide), ← hI1, up_eq rfl rfl]
  have hmk : S.2.1 m = 12 := ym_k hm
  have ht0' : zTk9 I0 m tx N (t + 0) := by rw [Int.add_zero]; exact ht0
  have g2 : ∀ Q : mQ, mRun (D + 7) 327 [mR m] I0 (mSx S m (m + 42)) Q = Q (.inl (some (mI (zTT tx N t 0)))) I0 (mSx S m (m + 42)) := fun Q => r_tokD (D + 5) hma n0 n9 ht0'
  simp (disch := first | omega | exact Nat.le_of_ble_eq_true rfl | (simp (disch := omega) only [ym_k hmz, ym_54 hmz, ym_k54 hmz, ym_l54 hmz, ym_k hma, ym_54 hma, ym_k54 hma, ym_l54 hma] <;> omega)) only [w_iconst, w_bipush, w_sipush, w_ldc_s, w_ldcw_s, w_ldc_i, w_ldcw_i, w_lconst, w_fconst, w_dconst, w_iload, w_iload_n, w_aload, w_aload_n, w_dload, w_istore, w_istore_n, w_astore_r, w_astore_s, w_astore_n_r, w_astore_n_s, w_dstore, w_iinc, w_iadd, w_isub, w_imul, w_iand, w_iushr, v_idiv, v_irem, w_ineg, w_i2l, w_i2c, w_i2f, w_i2d, v_f2d, w_lcmp, w_dcmp, v_fdiv, v_ddiv, w_dup_i, w_dup_r, w_dup2, w_dup_x2, w_pop_i, w_pop_r, w_goto, w_switch, w_ret_i, v_ret_z, v_ret_c, w_ret_a, w_ret_s, w_ret_f, w_ret_d, w_ret_v, v_iaload, v_baload, v_caload, v_laload, v_aaload, v_iastore, v_bastore, v_castore, v_lastore, v_aastore, v_alen, v_newa, v_anewa, w_new, w_throw, w_dead, v_getf_i, v_getf_z, v_getf_r, v_putf_i, v_putf_z, v_putf_r, w_call0, w_call1, w_callv1, w_calli1, w_callt1, w_call2, w_callv2, w_calli2, w_callt2, w_call3, w_callv3, w_calli3, w_call4, w_callv4, w_calli4, w_call5, w_callv5, w_calli5, w_call6, w_callv6, w_calli6, w_call7, w_callv7, w_calli7, w_call8, w_callv8, w_calli8, c_if0_eq_t, c_if0_eq_f, c_if2_eq_t, c_if2_eq_f, c_if0_ne_t, c_if0_ne_f, c_if2_ne_t, c_if2_ne_f, c_if0_lt_t, c_if0_lt_f, c_if2_lt_t, c_if2_lt_f, c_if0_ge_t, c_if0_ge_f, c_if2_ge_t, c_if2_ge_f, c_if0_gt_t, c_if0_gt_f, c_if2_gt_t, c_if2_gt_f, c_if0_le_t, c_if0_le_f, c_if2_le_t, c_if2_le_f, w_nil, uI_s, uA_r, uA_s, uD_d, mPut_0, mCl_own, mCv_go, mCl_min, mCl_cpy, mCv_obj, mAct_len, mAct_chrc, mAft_v, mAft_n, mAft_x, mGet_0, mSet_0, mGet_1, mSet_1, mGet_2, mSet_2, mGet_3, mSet_3, mGet_4, mSet_4, mGet_5, mSet_5, mGet_6, mSet_6, mGet_7, mSet_7, mGet_8, mSet_8, mGet_9, mSet_9, mGet_10, mSet_10, mGet_11, mSet_11, mGet_12, mSet_12, mGet_13, mSet_13, e_Mo_readsDecree, a_Mo_readsDecree_0, bk_Mo_readsDecree_0, ym_k hmz, ym_54 hmz, ym_k54 hmz, ym_l54 hmz, ym_k hma, ym_54 hma, ym_k54 hma, ym_l54 hma, hI1, hbg, g2]
  refine l_rdd D hma (up_eq rfl rfl) n0 n9 t0 n I0 J I0 0 a1 ⟨fun _ _ _ => rfl, fun _ _ _ => rfl⟩ ⟨rfl, rfl, rfl⟩ (Int.le_refl 0) ht0' w62 (fun j j0 j1 => by omega) (fun A' b1 b2 b3 b4 b5 b6 b7 => ?_)
  rw [a2] at b3 b4 b5 b7 ⊢
  have j60 : 0 ≤ j ∧ j ≤ 60 := by
    by_cases c : 0 < n
    · have := b7 c; omega
    · omega
  have fA := zFq_t f0 b6
  have eG := aEq_g b1
  match hres : res with
  | some u =>
    obtain ⟨⟨o1, o2, o3, ⟨o4, o5, o6⟩, on, o7⟩, o8⟩ := aOk_3.mp (a3 u rfl)
    have e33 : ∀ a : Int, m + 33 ≤ a → a ≤ m + 39 → A' a = J a := b1.1
    have p7 : aPp (A' (m + 33)) (A' (m + 38)) (A' (m + 37)) on (A' m 48) (aSum A' m (A' m 48)) 0 u := by
      rw [← eG, aMg_c (by omega), aMg_c (by omega), aMg_c (by omega), aMg_f (by omega), aSum_g]; exact o7
    have p1 : A' m 49 = 3 := (b1.2 49 (by decide) (by decide)).trans o1
    have p2 : A' m 48 ≤ 8 := by rw [b1.2 48 (by decide) (by decide)]; exact o2
    have p4 : A' (m + 33) 0 = 0 := by rw [e33 (m + 33) (by omega) (by omega), o4, hc33]
    have fin : ∀ L : mN, zFq A' L m → zTk9 L m tx N (t + j) → L m 62 = j → L (m + 41) = A' (m + 41) → Q (.inl (some (mI 1))) L (mSx S m (m + 42)) := fun L fL tL wL w41 => by
      have h9 := kk L (zFq_t fA fL) tL (fun _ _ => ⟨wL, j60, fun i i0 i1 => by rw [w41]; exact b5 i i0 i1⟩)
      rw [if_neg (by exact fun q => by cases q)] at h9
      exact h9
    have hk : ∀ L : mN, aKp A' L m → Q (.inl (some (mI 1))) L (mSx S m (m + 42)) := fun L kL => fin L (zFq_a kL) (zTk9_k b3 kL) (by rw [kL.2 62 (by decide)]; exact b4) (kL.1 _ (by omega) (by omega))
    rw [a_Mo_readsDecree_20]
    by_cases c : zTT tx N t j = -1
    · have he : ∀ Q : mQ, mRun (D + 7) 311 [mR m] A' (mSx S m (m + 42)) Q = Q (.inl (some (mI 1))) (aCl A' m 0 u) (mSx S m (m + 42)) := fun Q => by
        rw [en_3 (D + 4) hma p1 p7 (Int.le_refl 0) p2 (by rw [p4]; decide), if_pos rfl]
      simp (disch := first | omega | exact Nat.le_of_ble_eq_true rfl | (simp (disch := omega) only [ym_k hma, ym_54 hma, ym_k54 hma, ym_l54 hma] <;> omega)) only [w_iconst, w_bipush, w_sipush, w_ldc_s, w_ldcw_s, w_ldc_i, w_ldcw_i, w_lconst, w_fconst, w_dconst, w_iload, w_iload_n, w_aload, w_aload_n, w_dload, w_istore, w_istore_n, w_astore_r, w_astore_s, w_astore_n_r, w_astore_n_s, w_dstore, w_iinc, w_iadd, w_isub, w_imul, w_iand, w_iushr, v_idiv, v_irem, w_ineg, w_i2l, w_i2c, w_i2f, w_i2d, v_f2d, w_lcmp, w_dcmp, v_fdiv, v_ddiv, w_dup_i, w_dup_r, w_dup2, w_dup_x2, w_pop_i, w_pop_r, w_goto, w_switch, w_ret_i, v_ret_z, v_ret_c, w_ret_a, w_ret_s, w_ret_f, w_ret_d, w_ret_v, v_iaload, v_baload, v_caload, v_laload, v_aaload, v_iastore, v_bastore, v_castore, v_lastore, v_aastore, v_alen, v_newa, v_anewa, w_new, w_throw, w_dead, v_getf_i, v_getf_z, v_getf_r, v_putf_i, v_putf_z, v_putf_r, w_call0, w_call1, w_callv1, w_calli1, w_callt1, w_call2, w_callv2, w_calli2, w_callt2, w_call3, w_callv3, w_calli3, w_call4, w_callv4, w_calli4, w_call5, w_callv5, w_calli5, w_call6, w_callv6, w_calli6, w_call7, w_callv7, w_calli7, w_call8, w_callv8, w_calli8, c_if0_eq_t, c_if0_eq_f, c_if2_eq_t, c_if2_eq_f, c_if0_ne_t, c_if0_ne_f, c_if2_ne_t, c_if2_ne_f, c_if0_lt_t, c_if0_lt_f, c_if2_lt_t, c_if2_lt_f, c_if0_ge_t, c_if0_ge_f, c_if2_ge_t, c_if2_ge_f, c_if0_gt_t, c_if0_gt_f, c_if2_gt_t, c_if2_gt_f, c_if0_le_t, c_if0_le_f, c_if2_le_t, c_if2_le_f, w_nil, uI_s, uA_r, uA_s, uD_d, mPut_0, mCl_own, mCv_go, mCl_min, mCl_cpy, mCv_obj, mAct_len, mAct_chrc, mAft_v, mAft_n, mAft_x, mGet_0, mSet_0, mGet_1, mSet_1, mGet_2, mSet_2, mGet_3, mSet_3, mGet_4, mSet_4, mGet_5, mSet_5, mGet_6, mSet_6, mGet_7, mSet_7, mGet_8, mSet_8, mGet_9, mSet_9, mGet_10, mSet_10, mGet_11, mSet_11, mGet_12, mSet_12, mGet_13, mSet_13, bk_Mo_readsDecree_20, a_Mo_readsDecree_76, bk_Mo_readsDecree_76, ym_k hma, ym_54 hma, ym_k54 hma, ym_l54 hma, c, he]
      exact hk _ aCl_k'
    · have ht9 := (zTd_b (hV j)).resolve_right (by have := o8; omega)
      obtain ⟨L, g1, g3, g4, g5, g6, g7, g8⟩ := cl_no hma (t := zTT tx N t j) p1 ht9 p7 (Int.le_refl 0) p2 (by rw [p4]; decide) (by rw [p4]; decide) (by rw [p4]; decide) ⟨fun q => by rw [p4] at q; omega, fun q => by rw [p4] at q; omega, fun q => by rw [p4] at q; omega, fun q => by rw [p4] at q; omega, fun q => by rw [p4] at q; omega⟩
      have kL : aKp A' L m := ⟨fun a q1 q2 => g7 a q1 (by omega) (by omega), g8⟩
      have he : ∀ Q : mQ, mRun (D + 7) 311 [mR m] L (mSx S m (m + 42)) Q = Q (.inl (some (mI 1))) (aCl L m 0 u) (mSx S m (m + 42)) := fun Q => by
        rw [en_4 (D + 4) hma g4 g3 g5 (Int.le_refl 0) (by decide) (by rw [g6, p4]; decide), if_pos rfl]
      simp (disch := first | omega | exact Nat.le_of_ble_eq_true rfl | (simp (disch := omega) only [ym_k hma, ym_54 hma, ym_k54 hma, ym_l54 hma] <;> omega)) only [w_iconst, w_bipush, w_sipush, w_ldc_s, w_ldcw_s, w_ldc_i, w_ldcw_i, w_lconst, w_fconst, w_dconst, w_iload, w_iload_n, w_aload, w_aload_n, w_dload, w_istore, w_istore_n, w_astore_r, w_astore_s, w_astore_n_r, w_astore_n_s, w_dstore, w_iinc, w_iadd, w_isub, w_imul, w_iand, w_iushr, v_idiv, v_irem, w_ineg, w_i2l, w_i2c, w_i2f, w_i2d, v_f2d, w_lcmp, w_dcmp, v_fdiv, v_ddiv, w_dup_i, w_dup_r, w_dup2, w_dup_x2, w_pop_i, w_pop_r, w_goto, w_switch, w_ret_i, v_ret_z, v_ret_c, w_ret_a, w_ret_s, w_ret_f, w_ret_d, w_ret_v, v_iaload, v_baload, v_caload, v_laload, v_aaload, v_iastore, v_bastore, v_castore, v_lastore, v_aastore, v_alen, v_newa, v_anewa, w_new, w_throw, w_dead, v_getf_i, v_getf_z, v_getf_r, v_putf_i, v_putf_z, v_putf_r, w_call0, w_call1, w_callv1, w_calli1, w_callt1, w_call2, w_callv2, w_calli2, w_callt2, w_call3, w_callv3, w_calli3, w_call4, w_callv4, w_calli4, w_call5, w_callv5, w_calli5, w_call6, w_callv6, w_calli6, w_call7, w_callv7, w_calli7, w_call8, w_callv8, w_calli8, c_if0_eq_t, c_if0_eq_f, c_if2_eq_t, c_if2_eq_f, c_if0_ne_t, c_if0_ne_f, c_if2_ne_t, c_if2_ne_f, c_if0_lt_t, c_if0_lt_f, c_if2_lt_t, c_if2_lt_f, c_if0_ge_t, c_if0_ge_f, c_if2_ge_t, c_if2_ge_f, c_if0_gt_t, c_if0_gt_f, c_if2_gt_t, c_if2_gt_f, c_if0_le_t, c_if0_le_f, c_if2_le_t, c_if2_le_f, w_nil, uI_s, uA_r, uA_s, uD_d, mPut_0, mCl_own, mCv_go, mCl_min, mCl_cpy, mCv_obj, mAct_len, mAct_chrc, mAft_v, mAft_n, mAft_x, mGet_0, mSet_0, mGet_1, mSet_1, mGet_2, mSet_2, mGet_3, mSet_3, mGet_4, mSet_4, mGet_5, mSet_5, mGet_6, mSet_6, mGet_7, mSet_7, mGet_8, mSet_8, mGet_9, mSet_9, mGet_10, mSet_10, mGet_11, mSet_11, mGet_12, mSet_12, mGet_13, mSet_13, bk_Mo_readsDecree_20, a_Mo_readsDecree_76, bk_Mo_readsDecree_76, ym_k hma, ym_54 hma, ym_k54 hma, ym_l54 hma, g1 D, he]
      exact hk _ (aKp_t kL aCl_k')
  | none =>
    have hk : ∀ L : mN, aKp A' L m → Q (.inl (some (mI 0))) L (mSx S m (m + 42)) := fun L kL => by
      have h9 := kk L (zFq_t fA (zFq_a kL)) (zTk9_k b3 kL) (fun _ q => by cases q)
      rw [if_pos rfl] at h9
      exact h9
    have hX := a4 rfl A' b2
    rw [eG] at hX
    obtain ⟨x1, x2⟩ := hX
    rw [a_Mo_readsDecree_20]
    by_cases c : zTT tx N t j = -1
    · obtain ⟨L, e1, e2⟩ := x1 c
      simp (disch := first | omega | exact Nat.le_of_ble_eq_true rfl | (simp (disch := omega) only [ym_k hma, ym_54 hma, ym_k54 hma, ym_l54 hma] <;> omega)) only [w_iconst, w_bipush, w_sipush, w_ldc_s, w_ldcw_s, w_ldc_i, w_ldcw_i, w_lconst, w_fconst, w_dconst, w_iload, w_iload_n, w_aload, w_aload_n, w_dload, w_istore, w_istore_n, w_astore_r, w_astore_s, w_astore_n_r, w_astore_n_s, w_dstore, w_iinc, w_iadd, w_isub, w_imul, w_iand, w_iushr, v_idiv, v_irem, w_ineg, w_i2l, w_i2c, w_i2f, w_i2d, v_f2d, w_lcmp, w_dcmp, v_fdiv, v_ddiv, w_dup_i, w_dup_r, w_dup2, w_dup_x2, w_pop_i, w_pop_r, w_goto, w_switch, w_ret_i, v_ret_z, v_ret_c, w_ret_a, w_ret_s, w_ret_f, w_ret_d, w_ret_v, v_iaload, v_baload, v_caload, v_laload, v_aaload, v_iastore, v_bastore, v_castore, v_lastore, v_aastore, v_alen, v_newa, v_anewa, w_new, w_throw, w_dead, v_getf_i, v_getf_z, v_getf_r, v_putf_i, v_putf_z, v_putf_r, w_call0, w_call1, w_callv1, w_calli1, w_callt1, w_call2, w_callv2, w_calli2, w_callt2, w_call3, w_callv3, w_calli3, w_call4, w_callv4, w_calli4, w_call5, w_callv5, w_calli5, w_call6, w_callv6, w_calli6, w_call7, w_callv7, w_calli7, w_call8, w_callv8, w_calli8, c_if0_eq_t, c_if0_eq_f, c_if2_eq_t, c_if2_eq_f, c_if0_ne_t, c_if0_ne_f, c_if2_ne_t, c_if2_ne_f, c_if0_lt_t, c_if0_lt_f, c_if2_lt_t, c_if2_lt_f, c_if0_ge_t, c_if0_ge_f, c_if2_ge_t, c_if2_ge_f, c_if0_gt_t, c_if0_gt_f, c_if2_gt_t, c_if2_gt_f, c_if0_le_t, c_if0_le_f, c_if2_le_t, c_if2_le_f, w_nil, uI_s, uA_r, uA_s, uD_d, mPut_0, mCl_own, mCv_go, mCl_min, mCl_cpy, mCv_obj, mAct_len, mAct_chrc, mAft_v, mAft_n, mAft_x, mGet_0, mSet_0, mGet_1, mSet_1, mGet_2, mSet_2, mGet_3, mSet_3, mGet_4, mSet_4, mGet_5, mSet_5, mGet_6, mSet_6, mGet_7, mSet_7, mGet_8, mSet_8, mGet_9, mSet_9, mGet_10, mSet_10, mGet_11, mSet_11, mGet_12, mSet_12, mGet_13, mSet_13, bk_Mo_readsDecree_20, a_Mo_readsDecree_76, bk_Mo_readsDecree_76, ym_k hma, ym_54 hma, ym_k54 hma, ym_l54 hma, c, e1 (D + 4)]
      exact hk L e2
    · rcases x2 c with ⟨j6, L, e1, e2⟩ | ⟨L, e1, e2, L2, e3, e4⟩
      · have e62 : L m 62 = 60 := by rw [e2.2 62 (by decide), b4]; omega
        simp (disch := first | omega | exact Nat.le_of_ble_eq_true rfl | (simp (disch := omega) only [ym_k hma, ym_54 hma, ym_k54 hma, ym_l54 hma] <;> omega)) only [w_iconst, w_bipush, w_sipush, w_ldc_s, w_ldcw_s, w_ldc_i, w_ldcw_i, w_lconst, w_fconst, w_dconst, w_iload, w_iload_n, w_aload, w_aload_n, w_dload, w_istore, w_istore_n, w_astore_r, w_astore_s, w_astore_n_r, w_astore_n_s, w_dstore, w_iinc, w_iadd, w_isub, w_imul, w_iand, w_iushr, v_idiv, v_irem, w_ineg, w_i2l, w_i2c, w_i2f, w_i2d, v_f2d, w_lcmp, w_dcmp, v_fdiv, v_ddiv, w_dup_i, w_dup_r, w_dup2, w_dup_x2, w_pop_i, w_pop_r, w_goto, w_switch, w_ret_i, v_ret_z, v_ret_c, w_ret_a, w_ret_s, w_ret_f, w_ret_d, w_ret_v, v_iaload, v_baload, v_caload, v_laload, v_aaload, v_iastore, v_bastore, v_castore, v_lastore, v_aastore, v_alen, v_newa, v_anewa, w_new, w_throw, w_dead, v_getf_i, v_getf_z, v_getf_r, v_putf_i, v_putf_z, v_putf_r, w_call0, w_call1, w_callv1, w_calli1, w_callt1, w_call2, w_callv2, w_calli2, w_callt2, w_call3, w_callv3, w_calli3, w_call4, w_callv4, w_calli4, w_call5, w_callv5, w_calli5, w_call6, w_callv6, w_calli6, w_call7, w_callv7, w_calli7, w_call8, w_callv8, w_calli8, c_if0_eq_t, c_if0_eq_f, c_if2_eq_t, c_if2_eq_f, c_if0_ne_t, c_if0_ne_f, c_if2_ne_t, c_if2_ne_f, c_if0_lt_t, c_if0_lt_f, c_if2_lt_t, c_if2_lt_f, c_if0_ge_t, c_if0_ge_f, c_if2_ge_t, c_if2_ge_f, c_if0_gt_t, c_if0_gt_f, c_if2_gt_t, c_if2_gt_f, c_if0_le_t, c_if0_le_f, c_if2_le_t, c_if2_le_f, w_nil, uI_s, uA_r, uA_s, uD_d, mPut_0, mCl_own, mCv_go, mCl_min, mCl_cpy, mCv_obj, mAct_len, mAct_chrc, mAft_v, mAft_n, mAft_x, mGet_0, mSet_0, mGet_1, mSet_1, mGet_2, mSet_2, mGet_3, mSet_3, mGet_4, mSet_4, mGet_5, mSet_5, mGet_6, mSet_6, mGet_7, mSet_7, mGet_8, mSet_8, mGet_9, mSet_9, mGet_10, mSet_10, mGet_11, mSet_11, mGet_12, mSet_12, mGet_13, mSet_13, bk_Mo_readsDecree_20, ym_k hma, ym_54 hma, ym_k54 hma, ym_l54 hma, e1 D, e62]
        exact hk L e2
      · simp (disch := first | omega | exact Nat.le_of_ble_eq_true rfl | (simp (disch := omega) only [ym_k hma, ym_54 hma, ym_k54 hma, ym_l54 hma] <;> omega)) only [w_iconst, w_bipush, w_sipush, w_ldc_s, w_ldcw_s, w_ldc_i, w_ldcw_i, w_lconst, w_fconst, w_dconst, w_iload, w_iload_n, w_aload, w_aload_n, w_dload, w_istore, w_istore_n, w_astore_r, w_astore_s, w_astore_n_r, w_astore_n_s, w_dstore, w_iinc, w_iadd, w_isub, w_imul, w_iand, w_iushr, v_idiv, v_irem, w_ineg, w_i2l, w_i2c, w_i2f, w_i2d, v_f2d, w_lcmp, w_dcmp, v_fdiv, v_ddiv, w_dup_i, w_dup_r, w_dup2, w_dup_x2, w_pop_i, w_pop_r, w_goto, w_switch, w_ret_i, v_ret_z, v_ret_c, w_ret_a, w_ret_s, w_ret_f, w_ret_d, w_ret_v, v_iaload, v_baload, v_caload, v_laload, v_aaload, v_iastore, v_bastore, v_castore, v_lastore, v_aastore, v_alen, v_newa, v_anewa, w_new, w_throw, w_dead, v_getf_i, v_getf_z, v_getf_r, v_putf_i, v_putf_z, v_putf_r, w_call0, w_call1, w_callv1, w_calli1, w_callt1, w_call2, w_callv2, w_calli2, w_callt2, w_call3, w_callv3, w_calli3, w_call4, w_callv4, w_calli4, w_call5, w_callv5, w_calli5, w_call6, w_callv6, w_calli6, w_call7, w_callv7, w_calli7, w_call8, w_callv8, w_calli8, c_if0_eq_t, c_if0_eq_f, c_if2_eq_t, c_if2_eq_f, c_if0_ne_t, c_if0_ne_f, c_if2_ne_t, c_if2_ne_f, c_if0_lt_t, c_if0_lt_f, c_if2_lt_t, c_if2_lt_f, c_if0_ge_t, c_if0_ge_f, c_if2_ge_t, c_if2_ge_f, c_if0_gt_t, c_if0_gt_f, c_if2_gt_t, c_if2_gt_f, c_if0_le_t, c_if0_le_f, c_if2_le_t, c_if2_le_f, w_nil, uI_s, uA_r, uA_s, uD_d, mPut_0, mCl_own, mCv_go, mCl_min, mCl_cpy, mCv_obj, mAct_len, mAct_chrc, mAft_v, mAft_n, mAft_x, mGet_0, mSet_0, mGet_1, mSet_1, mGet_2, mSet_2, mGet_3, mSet_3, mGet_4, mSet_4, mGet_5, mSet_5, mGet_6, mSet_6, mGet_7, mSet_7, mGet_8, mSet_8, mGet_9, mSet_9, mGet_10, mSet_10, mGet_11, mSet_11, mGet_12, mSet_12, mGet_13, mSet_13, bk_Mo_readsDecree_20, a_Mo_readsDecree_76, bk_Mo_readsDecree_76, ym_k hma, ym_54 hma, ym_k54 hma, ym_l54 hma, e1 D, e3 (D + 4)]
        exact hk L2 (aKp_t e2 e4)
end ZQ2
