/-! A week passes: by the model. -/
theorem it3 {c c' : Prop} [Decidable c] [Decidable c'] {a b b' : Int} (h1 : c → c') (h2 : c' → c) (hb : ¬ c → b = b') : (if c then a else b) = (if c' then a else b') := by
  by_cases h : c
  · rw [if_pos h, if_pos (h1 h)]
  · rw [if_neg h, if_neg (fun q => h (h2 q))]; exact hb h
theorem md76 {c i : Int} (h : c ≠ 262 + 76 * i) (q : 262 ≤ c ∧ c < 262 + 76 * (i + 1) ∧ (c - 262) % 76 = 0) : 262 ≤ c ∧ c < 262 + 76 * i ∧ (c - 262) % 76 = 0 := by omega
theorem md8 {b c i t : Int} (h : c ≠ b + 8 * i + t) (q : b ≤ c ∧ c < b + 8 * (i + 1) ∧ (c - b) % 8 = t) : b ≤ c ∧ c < b + 8 * i ∧ (c - b) % 8 = t := by omega
section XP
variable {σ : sT}
theorem pGv_0 : pGv σ 0 = σ := funext (fun c => by
  unfold pGv
  rw [if_neg (by omega), if_neg (by omega), if_neg (by omega)])
theorem pGv_s {i : Int} (i0 : 0 ≤ i) (i1 : i < 10) (t0 : 0 ≤ σ 0) (t1 : σ 0 < 8) : zU (zU (zU (pGv σ i) (1067 + 8 * i + σ 0) (sAm σ 0 i (σ 0))) (1147 + 8 * i + σ 0) (sAk σ 0 i (σ 0))) (262 + 76 * i) (σ (262 + 76 * i) - σ (261 + 76 * i) * sAm σ 0 i (σ 0)) = pGv σ (i + 1) := funext (fun c => by
  by_cases c3 : c = 262 + 76 * i
  · rw [zU_eq c3]
    unfold pGv
    rw [if_neg (by omega), if_neg (by omega), if_pos (by omega), c3, show (262 + 76 * i - 262) / 76 = i by omega, show 262 + 76 * i - 1 = 261 + 76 * i by omega]
  · rw [zU_ne c3]
    by_cases c2 : c = 1147 + 8 * i + σ 0
    · rw [zU_eq c2]
      unfold pGv
      rw [if_neg (by omega), if_pos (by omega), c2, show (1147 + 8 * i + σ 0 - 1147) / 8 = i by omega]
    · rw [zU_ne c2]
      by_cases c1 : c = 1067 + 8 * i + σ 0
      · rw [zU_eq c1]
        unfold pGv
        rw [if_pos (by omega), c1, show (1067 + 8 * i + σ 0 - 1067) / 8 = i by omega]
      · rw [zU_ne c1]
        unfold pGv
        exact it3 (fun q => ⟨q.1, by omega, q.2.2⟩) (fun q => md8 c1 q) (fun _ => it3 (fun q => ⟨q.1, by omega, q.2.2⟩) (fun q => md8 c2 q) (fun _ => it3 (fun q => ⟨q.1, by omega, q.2.2⟩) (fun q => md76 c3 q) (fun _ => rfl))))
theorem pGv_lo {i c : Int} (i1 : i ≤ 10) (h : c < 262) : pGv σ i c = σ c := by
  unfold pGv
  rw [if_neg (by omega), if_neg (by omega), if_neg (by omega)]
theorem pGv_r {i c : Int} (h : 261 + 76 * i ≤ c ∧ c < 1067) : pGv σ i c = σ c := by
  unfold pGv
  rw [if_neg (by omega), if_neg (by omega), if_neg (by omega)]
theorem pGv_r2 {i c : Int} (i1 : i ≤ 10) (h0 : 1019 ≤ c) (h1 : c < 1067) : pGv σ i c = σ c := by
  unfold pGv
  rw [if_neg (by omega), if_neg (by omega), if_neg (by omega)]
theorem pSd_0 {B : sT} : pSd σ 0 B = B := funext (fun c => by
  unfold pSd
  rw [if_neg (by omega)]
  split
  · show B c + 0 = B c
    omega
  · rfl)
theorem pSd_lo {k : Nat} {B : sT} {c : Int} (h : c < 1019) : pSd σ k B c = B c := by
  unfold pSd
  rw [if_neg (by omega), if_neg (by omega)]
theorem pSd_s1 {k : Nat} {B : sT} (k9 : k < 9) (t0 : 0 ≤ σ 0) (t1 : σ 0 < 8) (to0 : 0 ≤ σ (17 + 11 * (k : Int)) ∧ σ (17 + 11 * (k : Int)) < 6) (h : 0 < σ (18 + 11 * (k : Int))) (h2 : σ 0 + σ (18 + 11 * (k : Int)) < 8) :
    zU (zU (pSd σ k B) (1227 + 8 * (k : Int) + σ 0) (sSe σ k (σ 0))) (1019 + 8 * σ (17 + 11 * (k : Int)) + (σ 0 + σ (18 + 11 * (k : Int)))) (pSd σ k B (1019 + 8 * σ (17 + 11 * (k : Int)) + (σ 0 + σ (18 + 11 * (k : Int)))) + sSe σ k (σ 0)) = pSd σ (k + 1) B := funext (fun c => by
  by_cases c3 : c = 1019 + 8 * σ (17 + 11 * (k : Int)) + (σ 0 + σ (18 + 11 * (k : Int)))
  · rw [zU_eq c3, ← c3]
    unfold pSd
    rw [if_neg (by omega), if_pos (by omega), if_neg (by omega), if_pos (by omega)]
    have e : sm (k + 1) (pAr σ c) = sm k (pAr σ c) + pAr σ c (k : Int) := rfl
    have e2 : pAr σ c (k : Int) = sSe σ k (σ 0) := by
      unfold pAr
      rw [if_pos (by omega)]
    rw [e, e2]; omega
  · rw [zU_ne c3]
    by_cases c1 : c = 1227 + 8 * (k : Int) + σ 0
    · rw [zU_eq c1]
      unfold pSd
      rw [if_pos (by omega), c1, show (1227 + 8 * (k : Int) + σ 0 - 1227) / 8 = k by omega]
    · rw [zU_ne c1]
      unfold pSd
      refine it3 (fun q => by omega) (fun q => by omega) (fun d1 => ?_)
      · by_cases d2 : 1019 ≤ c ∧ c < 1067
        · rw [if_pos d2, if_pos d2]
          have e : sm (k + 1) (pAr σ c) = sm k (pAr σ c) + pAr σ c (k : Int) := rfl
          have e2 : pAr σ c (k : Int) = 0 := by
            unfold pAr
            rw [if_neg (by omega)]
          rw [e, e2]; omega
        · rw [if_neg d2, if_neg d2])
theorem pSd_s0 {k : Nat} {B : sT} (k9 : k < 9) (t0 : 0 ≤ σ 0) (t1 : σ 0 < 8) (h : ¬ (0 < σ (18 + 11 * (k : Int)) ∧ σ 0 + σ (18 + 11 * (k : Int)) < 8)) :
    zU (pSd σ k B) (1227 + 8 * (k : Int) + σ 0) (sSe σ k (σ 0)) = pSd σ (k + 1) B := funext (fun c => by
  by_cases c1 : c = 1227 + 8 * (k : Int) + σ 0
  · rw [zU_eq c1]
    unfold pSd
    rw [if_pos (by omega), c1, show (1227 + 8 * (k : Int) + σ 0 - 1227) / 8 = k by omega]
  · rw [zU_ne c1]
    unfold pSd
    refine it3 (fun q => by omega) (fun q => by omega) (fun d1 => ?_)
    · by_cases d2 : 1019 ≤ c ∧ c < 1067
      · rw [if_pos d2, if_pos d2]
        have e : sm (k + 1) (pAr σ c) = sm k (pAr σ c) + pAr σ c (k : Int) := rfl
        have e2 : pAr σ c (k : Int) = 0 := by
          unfold pAr
          rw [if_neg (by omega)]
        rw [e, e2]; omega
      · rw [if_neg d2, if_neg d2])
theorem pSt_0 {B : sT} : pSt σ 0 B = B := funext (fun c => by
  unfold pSt
  rw [if_neg (by omega), if_neg (by omega), if_neg (by omega)])
theorem pSt_lo {k : Int} {B : sT} {c : Int} (k6 : k ≤ 6) (h : c < 5 ∨ (5 + 2 * k ≤ c ∧ c < 1299)) : pSt σ k B c = B c := by
  unfold pSt
  rw [if_neg (by omega), if_neg (by omega), if_neg (by omega)]
theorem pSt_s {p : Int} {B : sT} (p0 : 0 ≤ p) (p6 : p < 6) (t0 : 0 ≤ σ 0) (t1 : σ 0 < 8) : zU (zU (zU (pSt σ p B) (1299 + 8 * p + σ 0) (σ (5 + 2 * p))) (1347 + 8 * p + σ 0) (sRa σ p (σ 0))) (5 + 2 * p) (sSt σ p (σ 0 + 1)) = pSt σ (p + 1) B := funext (fun c => by
  by_cases c3 : c = 5 + 2 * p
  · rw [zU_eq c3]
    unfold pSt
    rw [if_neg (by omega), if_neg (by omega), if_pos (by omega), c3, show (5 + 2 * p - 5) / 2 = p by omega]
  · rw [zU_ne c3]
    by_cases c2 : c = 1347 + 8 * p + σ 0
    · rw [zU_eq c2]
      unfold pSt
      rw [if_neg (by omega), if_pos (by omega), c2, show (1347 + 8 * p + σ 0 - 1347) / 8 = p by omega]
    · rw [zU_ne c2]
      by_cases c1 : c = 1299 + 8 * p + σ 0
      · rw [zU_eq c1]
        unfold pSt
        rw [if_pos (by omega), c1, show (1299 + 8 * p + σ 0 - 1299) / 8 = p by omega]
      · rw [zU_ne c1]
        unfold pSt
        exact it3 (fun q => by omega) (fun q => by omega) (fun _ => it3 (fun q => by omega) (fun q => by omega) (fun _ => it3 (fun q => by omega) (fun q => by omega) (fun _ => rfl))))
end XP
section XM
variable {S : mH} {I : mN} {m z : Int} {G : gT} {Q : mQ} (D : Nat)
/-- what is worked out of the week is not the state's -/
theorem oR_w {a k v : Int} (h : oR S I m G) (a0 : m + 28 ≤ a) (a1 : a ≤ m + 32) : oR S (mUp I a k v) m G := by
  have e : ∀ q : Int, (q < m + 28 ∨ m + 32 < q) → mUp I a k v q = I q := fun q hq => up_fa (by omega)
  obtain ⟨h1, h2, h3⟩ := id h.2.1
  refine oR_g h h.1 ⟨by rw [e (m + 1) (by omega)]; exact h1, fun s s0 s1 => ?_, kWo_k h3 (by rw [e m (by omega)]) (e _ (by omega)) (e _ (by omega)) (e _ (by omega))⟩ (e _ (by omega)) (e _ (by omega)) (e _ (by omega)) (e _ (by omega)) (e _ (by omega)) (e _ (by omega)) (fun f hf' => by rw [e m (by omega)]) (fun c hc => ?_)
  · rw [e (m + 16) (by omega), e (m + 13 + s) (by omega)]; exact h2 s s0 s1
  · rw [e (m + 25) (by omega), e (m + 42) (by omega), e (m + 44) (by omega)]
    exact h.2.2.2.2.2.2.2.2 c hc
theorem l_fk1 (hg : gWf G) (h8 : (G.2.1 (G.1 1) (G.1 (10 + G.1 1))) 0 < 8) {I0 : mN} (k : ∀ (I' : mN) (z' : Int), oR (mSx S m z') I' m G → oFm I0 I' m → I' m 1 = I0 m 1 → (∀ j : Int, 0 ≤ j → j < (G.2.1 (G.1 1) (G.1 (10 + G.1 1))) 3 → I' (m + 28) j = sAm ((G.2.1 (G.1 1) (G.1 (10 + G.1 1)))) 0 j ((G.2.1 (G.1 1) (G.1 (10 + G.1 1))) 0) ∧ I' (m + 29) j = sAk ((G.2.1 (G.1 1) (G.1 (10 + G.1 1)))) 0 j ((G.2.1 (G.1 1) (G.1 (10 + G.1 1))) 0)) → mAt (mRun (D + 12)) 282 48 ([some (mR m), some (mI ((G.2.1 (G.1 1) (G.1 (10 + G.1 1))) 0)), some (mI ((G.2.1 (G.1 1) (G.1 (10 + G.1 1))) 3))], [], I', mSx S m z') Q) :
    ∀ (cc : Nat) (i : Int) (I : mN) (z : Int), i + cc = (G.2.1 (G.1 1) (G.1 (10 + G.1 1))) 3 → 0 ≤ i → oR (mSx S m z) I m G → oFm I0 I m → I m 1 = I0 m 1 → (∀ j : Int, 0 ≤ j → j < i → I (m + 28) j = sAm ((G.2.1 (G.1 1) (G.1 (10 + G.1 1)))) 0 j ((G.2.1 (G.1 1) (G.1 (10 + G.1 1))) 0) ∧ I (m + 29) j = sAk ((G.2.1 (G.1 1) (G.1 (10 + G.1 1)))) 0 j ((G.2.1 (G.1 1) (G.1 (10 + G.1 1))) 0)) → mAt (mRun (D + 12)) 282 2 ([some (mR m), some (mI ((G.2.1 (G.1 1) (G.1 (10 + G.1 1))) 0)), some (mI i)], [], I, mSx S m z) Q
  | 0, i, I, z, hc, i0, hR, hf, e1, hj => by
    obtain rfl : i = (G.2.1 (G.1 1) (G.1 (10 + G.1 1))) 3 := by omega
    have hmz := hR.1
    have hI3 : I (m + 1) 3 = (G.2.1 (G.1 1) (G.1 (10 + G.1 1))) 3 := by rw [hR.2.1.1]
    rw [a_Mo_findWeek_2]
    simp (disch := first | omega | exact Nat.le_of_ble_eq_true rfl | (simp (disch := omega) only [ym_k hmz, ym_0 hmz, ym_k0 hmz, ym_l0 hmz, hI3] <;> omega)) only [w_iconst, w_bipush, w_sipush, w_ldc_s, w_ldcw_s, w_ldc_i, w_ldcw_i, w_lconst, w_fconst, w_dconst, w_iload, w_iload_n, w_aload, w_aload_n, w_dload, w_istore, w_istore_n, w_astore_r, w_astore_s, w_astore_n_r, w_astore_n_s, w_dstore, w_iinc, w_iadd, w_isub, w_imul, w_iand, w_iushr, v_idiv, v_irem, w_ineg, w_i2l, w_i2c, w_i2f, w_i2d, v_f2d, w_lcmp, w_dcmp, v_fdiv, v_ddiv, w_dup_i, w_dup_r, w_dup2, w_dup_x2, w_pop_i, w_pop_r, w_goto, w_switch, w_ret_i, v_ret_z, v_ret_c, w_ret_a, w_ret_s, w_ret_f, w_ret_d, w_ret_v, v_iaload, v_baload, v_caload, v_laload, v_aaload, v_iastore, v_bastore, v_castore, v_lastore, v_aastore, v_alen, v_newa, v_anewa, w_new, w_throw, w_dead, v_getf_i, v_getf_z, v_getf_r, v_putf_i, v_putf_z, v_putf_r, w_call0, w_call1, w_callv1, w_calli1, w_callt1, w_call2, w_callv2, w_calli2, w_callt2, w_call3, w_callv3, w_calli3, w_call4, w_callv4, w_calli4, w_call5, w_callv5, w_calli5, w_call6, w_callv6, w_calli6, w_call7, w_callv7, w_calli7, w_call8, w_callv8, w_calli8, c_if0_eq_t, c_if0_eq_f, c_if2_eq_t, c_if2_eq_f, c_if0_ne_t, c_if0_ne_f, c_if2_ne_t, c_if2_ne_f, c_if0_lt_t, c_if0_lt_f, c_if2_lt_t, c_if2_lt_f, c_if0_ge_t, c_if0_ge_f, c_if2_ge_t, c_if2_ge_f, c_if0_gt_t, c_if0_gt_f, c_if2_gt_t, c_if2_gt_f, c_if0_le_t, c_if0_le_f, c_if2_le_t, c_if2_le_f, w_nil, uI_s, uA_r, uA_s, uD_d, mPut_0, mCl_own, mCv_go, mCl_min, mCl_cpy, mCv_obj, mAct_len, mAct_chrc, mAft_v, mAft_n, mAft_x, mGet_0, mSet_0, mGet_1, mSet_1, mGet_2, mSet_2, mGet_3, mSet_3, mGet_4, mSet_4, mGet_5, mSet_5, mGet_6, mSet_6, mGet_7, mSet_7, mGet_8, mSet_8, mGet_9, mSet_9, mGet_10, mSet_10, mGet_11, mSet_11, mGet_12, mSet_12, mGet_13, mSet_13, bk_Mo_findWeek_2, ym_k hmz, ym_0 hmz, ym_k0 hmz, ym_l0 hmz, hI3]
    exact k I z hR hf e1 hj
  | cc + 1, i, I, z, hc, i0, hR, hf, e1, hj => by
    have hmz := hR.1
    have hm := yM_u hmz
    have hw := (gO_w hg).1
    have hb9 := hw.1
    have hI3 : I (m + 1) 3 = (G.2.1 (G.1 1) (G.1 (10 + G.1 1))) 3 := by rw [hR.2.1.1]
    rw [a_Mo_findWeek_2]
    simp (disch := first | omega | exact Nat.le_of_ble_eq_true rfl | (simp (disch := omega) only [ym_k hmz, ym_0 hmz, ym_k0 hmz, ym_l0 hmz, ym_33 hmz, ym_k33 hmz, ym_l33 hmz, hI3] <;> omega)) only [w_iconst, w_bipush, w_sipush, w_ldc_s, w_ldcw_s, w_ldc_i, w_ldcw_i, w_lconst, w_fconst, w_dconst, w_iload, w_iload_n, w_aload, w_aload_n, w_dload, w_istore, w_istore_n, w_astore_r, w_astore_s, w_astore_n_r, w_astore_n_s, w_dstore, w_iinc, w_iadd, w_isub, w_imul, w_iand, w_iushr, v_idiv, v_irem, w_ineg, w_i2l, w_i2c, w_i2f, w_i2d, v_f2d, w_lcmp, w_dcmp, v_fdiv, v_ddiv, w_dup_i, w_dup_r, w_dup2, w_dup_x2, w_pop_i, w_pop_r, w_goto, w_switch, w_ret_i, v_ret_z, v_ret_c, w_ret_a, w_ret_s, w_ret_f, w_ret_d, w_ret_v, v_iaload, v_baload, v_caload, v_laload, v_aaload, v_iastore, v_bastore, v_castore, v_lastore, v_aastore, v_alen, v_newa, v_anewa, w_new, w_throw, w_dead, v_getf_i, v_getf_z, v_getf_r, v_putf_i, v_putf_z, v_putf_r, w_call0, w_call1, w_callv1, w_calli1, w_callt1, w_call2, w_callv2, w_calli2, w_callt2, w_call3, w_callv3, w_calli3, w_call4, w_callv4, w_calli4, w_call5, w_callv5, w_calli5, w_call6, w_callv6, w_calli6, w_call7, w_callv7, w_calli7, w_call8, w_callv8, w_calli8, c_if0_eq_t, c_if0_eq_f, c_if2_eq_t, c_if2_eq_f, c_if0_ne_t, c_if0_ne_f, c_if2_ne_t, c_if2_ne_f, c_if0_lt_t, c_if0_lt_f, c_if2_lt_t, c_if2_lt_f, c_if0_ge_t, c_if0_ge_f, c_if2_ge_t, c_if2_ge_f, c_if0_gt_t, c_if0_gt_f, c_if2_gt_t, c_if2_gt_f, c_if0_le_t, c_if0_le_f, c_if2_le_t, c_if2_le_f, w_nil, uI_s, uA_r, uA_s, uD_d, mPut_0, mCl_own, mCv_go, mCl_min, mCl_cpy, mCv_obj, mAct_len, mAct_chrc, mAft_v, mAft_n, mAft_x, mGet_0, mSet_0, mGet_1, mSet_1, mGet_2, mSet_2, mGet_3, mSet_3, mGet_4, mSet_4, mGet_5, mSet_5, mGet_6, mSet_6, mGet_7, mSet_7, mGet_8, mSet_8, mGet_9, mSet_9, mGet_10, mSet_10, mGet_11, mSet_11, mGet_12, mSet_12, mGet_13, mSet_13, bk_Mo_findWeek_2, ym_k hmz, ym_0 hmz, ym_k0 hmz, ym_l0 hmz, ym_33 hmz, ym_k33 hmz, ym_l33 hmz, hI3]
    refine p_amt (D + 5) hm hw (oAsk D hm hw (by decide) (by decide)) (by decide) (by decide) i0 (by omega) hb9.1.1 h8 hR.2.1 (fun I1 z1 f1 hC1 => ?_)
    have hR1 := oR_k (z' := z1) hR f1 hC1
    have hm1 := hR1.1
    have hR2 := oR_w (a := m + 28) (k := i) (v := sAm ((G.2.1 (G.1 1) (G.1 (10 + G.1 1)))) 0 i ((G.2.1 (G.1 1) (G.1 (10 + G.1 1))) 0)) hR1 (by omega) (by omega)
    simp (disch := first | omega | exact Nat.le_of_ble_eq_true rfl | (simp (disch := omega) only [ym_k hm1, ym_0 hm1, ym_k0 hm1, ym_l0 hm1, ym_33 hm1, ym_k33 hm1, ym_l33 hm1, ym_34 hm1, ym_k34 hm1, ym_l34 hm1] <;> omega)) only [w_iconst, w_bipush, w_sipush, w_ldc_s, w_ldcw_s, w_ldc_i, w_ldcw_i, w_lconst, w_fconst, w_dconst, w_iload, w_iload_n, w_aload, w_aload_n, w_dload, w_istore, w_istore_n, w_astore_r, w_astore_s, w_astore_n_r, w_astore_n_s, w_dstore, w_iinc, w_iadd, w_isub, w_imul, w_iand, w_iushr, v_idiv, v_irem, w_ineg, w_i2l, w_i2c, w_i2f, w_i2d, v_f2d, w_lcmp, w_dcmp, v_fdiv, v_ddiv, w_dup_i, w_dup_r, w_dup2, w_dup_x2, w_pop_i, w_pop_r, w_goto, w_switch, w_ret_i, v_ret_z, v_ret_c, w_ret_a, w_ret_s, w_ret_f, w_ret_d, w_ret_v, v_iaload, v_baload, v_caload, v_laload, v_aaload, v_iastore, v_bastore, v_castore, v_lastore, v_aastore, v_alen, v_newa, v_anewa, w_new, w_throw, w_dead, v_getf_i, v_getf_z, v_getf_r, v_putf_i, v_putf_z, v_putf_r, w_call0, w_call1, w_callv1, w_calli1, w_callt1, w_call2, w_callv2, w_calli2, w_callt2, w_call3, w_callv3, w_calli3, w_call4, w_callv4, w_calli4, w_call5, w_callv5, w_calli5, w_call6, w_callv6, w_calli6, w_call7, w_callv7, w_calli7, w_call8, w_callv8, w_calli8, c_if0_eq_t, c_if0_eq_f, c_if2_eq_t, c_if2_eq_f, c_if0_ne_t, c_if0_ne_f, c_if2_ne_t, c_if2_ne_f, c_if0_lt_t, c_if0_lt_f, c_if2_lt_t, c_if2_lt_f, c_if0_ge_t, c_if0_ge_f, c_if2_ge_t, c_if2_ge_f, c_if0_gt_t, c_if0_gt_f, c_if2_gt_t, c_if2_gt_f, c_if0_le_t, c_if0_le_f, c_if2_le_t, c_if2_le_f, w_nil, uI_s, uA_r, uA_s, uD_d, mPut_0, mCl_own, mCv_go, mCl_min, mCl_cpy, mCv_obj, mAct_len, mAct_chrc, mAft_v, mAft_n, mAft_x, mGet_0, mSet_0, mGet_1, mSet_1, mGet_2, mSet_2, mGet_3, mSet_3, mGet_4, mSet_4, mGet_5, mSet_5, mGet_6, mSet_6, mGet_7, mSet_7, mGet_8, mSet_8, mGet_9, mSet_9, mGet_10, mSet_10, mGet_11, mSet_11, mGet_12, mSet_12, mGet_13, mSet_13, ym_k hm1, ym_0 hm1, ym_k0 hm1, ym_l0 hm1, ym_33 hm1, ym_k33 hm1, ym_l33 hm1, ym_34 hm1, ym_k34 hm1, ym_l34 hm1]
    refine oAsk (D + 3) hm hw (by decide) (by decide) _ z1 i ((G.2.1 (G.1 1) (G.1 (10 + G.1 1))) 0) hR2.2.1.1 i0 (by omega) hb9.1.1 h8 _ (fun I3 z3 f3 => ?_)
    have hR3 := oR_a (z' := z3) hR2 f3
    have hm3 := hR3.1
    simp (disch := first | omega | exact Nat.le_of_ble_eq_true rfl | (simp (disch := omega) only [ym_k hm3, ym_0 hm3, ym_k0 hm3, ym_l0 hm3, ym_34 hm3, ym_k34 hm3, ym_l34 hm3] <;> omega)) only [w_iconst, w_bipush, w_sipush, w_ldc_s, w_ldcw_s, w_ldc_i, w_ldcw_i, w_lconst, w_fconst, w_dconst, w_iload, w_iload_n, w_aload, w_aload_n, w_dload, w_istore, w_istore_n, w_astore_r, w_astore_s, w_astore_n_r, w_astore_n_s, w_dstore, w_iinc, w_iadd, w_isub, w_imul, w_iand, w_iushr, v_idiv, v_irem, w_ineg, w_i2l, w_i2c, w_i2f, w_i2d, v_f2d, w_lcmp, w_dcmp, v_fdiv, v_ddiv, w_dup_i, w_dup_r, w_dup2, w_dup_x2, w_pop_i, w_pop_r, w_goto, w_switch, w_ret_i, v_ret_z, v_ret_c, w_ret_a, w_ret_s, w_ret_f, w_ret_d, w_ret_v, v_iaload, v_baload, v_caload, v_laload, v_aaload, v_iastore, v_bastore, v_castore, v_lastore, v_aastore, v_alen, v_newa, v_anewa, w_new, w_throw, w_dead, v_getf_i, v_getf_z, v_getf_r, v_putf_i, v_putf_z, v_putf_r, w_call0, w_call1, w_callv1, w_calli1, w_callt1, w_call2, w_callv2, w_calli2, w_callt2, w_call3, w_callv3, w_calli3, w_call4, w_callv4, w_calli4, w_call5, w_callv5, w_calli5, w_call6, w_callv6, w_calli6, w_call7, w_callv7, w_calli7, w_call8, w_callv8, w_calli8, c_if0_eq_t, c_if0_eq_f, c_if2_eq_t, c_if2_eq_f, c_if0_ne_t, c_if0_ne_f, c_if2_ne_t, c_if2_ne_f, c_if0_lt_t, c_if0_lt_f, c_if2_lt_t, c_if2_lt_f, c_if0_ge_t, c_if0_ge_f, c_if2_ge_t, c_if2_ge_f, c_if0_gt_t, c_if0_gt_f, c_if2_gt_t, c_if2_gt_f, c_if0_le_t, c_if0_le_f, c_if2_le_t, c_if2_le_f, w_nil, uI_s, uA_r, uA_s, uD_d, mPut_0, mCl_own, mCv_go, mCl_min, mCl_cpy, mCv_obj, mAct_len, mAct_chrc, mAft_v, mAft_n, mAft_x, mGet_0, mSet_0, mGet_1, mSet_1, mGet_2, mSet_2, mGet_3, mSet_3, mGet_4, mSet_4, mGet_5, mSet_5, mGet_6, mSet_6, mGet_7, mSet_7, mGet_8, mSet_8, mGet_9, mSet_9, mGet_10, mSet_10, mGet_11, mSet_11, mGet_12, mSet_12, mGet_13, mSet_13, ym_k hm3, ym_0 hm3, ym_k0 hm3, ym_l0 hm3, ym_34 hm3, ym_k34 hm3, ym_l34 hm3, wr]
    have e28 : ∀ q : Int, q = m + 28 ∨ q = m + 29 → I1 q = I q := fun q hq => f1.1 q (by omega) (by omega) (by omega)
    refine l_fk1 hg h8 k cc (i + 1) _ z3 (by omega) (by omega) (oR_w hR3 (by omega) (by omega)) (fun q hq => by rw [up_fa (by omega), f3.1 q (by omega) (by omega), up_fa (by omega), f1.1 q (by omega) (by omega) (by omega)]; exact hf q hq) (by rw [up_fa (by omega), f3.2 1 (by decide), up_fa (by omega), f1.2 1 (by decide) (by decide)]; exact e1) (fun j j0 j1 => ?_)
    have f328 : I3 (m + 28) = mUp I1 (m + 28) i (sAm ((G.2.1 (G.1 1) (G.1 (10 + G.1 1)))) 0 i ((G.2.1 (G.1 1) (G.1 (10 + G.1 1))) 0)) (m + 28) := f3.1 _ (by omega) (by omega)
    have f329 : I3 (m + 29) = I1 (m + 29) := by rw [f3.1 _ (by omega) (by omega), up_fa (by omega)]
    rw [up_fa (by omega)]
    by_cases c : j = i
    · rw [f328, up_eq rfl c, up_eq rfl c, c]; exact ⟨rfl, rfl⟩
    · rw [f328, up_nk c, up_nk c, f329, e28 _ (Or.inl rfl), e28 _ (Or.inr rfl)]
      exact hj j j0 (by omega)
theorem l_fk2 (hg : gWf G) (h8 : (G.2.1 (G.1 1) (G.1 (10 + G.1 1))) 0 < 8) {I0 : mN} (k : ∀ (I' : mN) (z' : Int), oR (mSx S m z') I' m G → oFm I0 I' m → I' m 1 = I0 m 1 → I' (m + 28) = I0 (m + 28) → I' (m + 29) = I0 (m + 29) → (∀ j : Int, 0 ≤ j → j < (G.2.1 (G.1 1) (G.1 (10 + G.1 1))) 2 → I' (m + 30) j = sSe ((G.2.1 (G.1 1) (G.1 (10 + G.1 1)))) j ((G.2.1 (G.1 1) (G.1 (10 + G.1 1))) 0)) → mAt (mRun (D + 12)) 282 78 ([some (mR m), some (mI ((G.2.1 (G.1 1) (G.1 (10 + G.1 1))) 0)), some (mI ((G.2.1 (G.1 1) (G.1 (10 + G.1 1))) 2))], [], I', mSx S m z') Q) :
    ∀ (cc : Nat) (i : Int) (I : mN) (z : Int), i + cc = (G.2.1 (G.1 1) (G.1 (10 + G.1 1))) 2 → 0 ≤ i → oR (mSx S m z) I m G → oFm I0 I m → I m 1 = I0 m 1 → I (m + 28) = I0 (m + 28) → I (m + 29) = I0 (m + 29) → (∀ j : Int, 0 ≤ j → j < i → I (m + 30) j = sSe ((G.2.1 (G.1 1) (G.1 (10 + G.1 1)))) j ((G.2.1 (G.1 1) (G.1 (10 + G.1 1))) 0)) → mAt (mRun (D + 12)) 282 50 ([some (mR m), some (mI ((G.2.1 (G.1 1) (G.1 (10 + G.1 1))) 0)), some (mI i)], [], I, mSx S m z) Q
  | 0, i, I, z, hc, i0, hR, hf, e1, e28, e29, hj => by
    obtain rfl : i = (G.2.1 (G.1 1) (G.1 (10 + G.1 1))) 2 := by omega
    have hmz := hR.1
    have hI3 : I (m + 1) 2 = (G.2.1 (G.1 1) (G.1 (10 + G.1 1))) 2 := by rw [hR.2.1.1]
    rw [a_Mo_findWeek_50]
    simp (disch := first | omega | exact Nat.le_of_ble_eq_true rfl | (simp (disch := omega) only [ym_k hmz, ym_0 hmz, ym_k0 hmz, ym_l0 hmz, hI3] <;> omega)) only [w_iconst, w_bipush, w_sipush, w_ldc_s, w_ldcw_s, w_ldc_i, w_ldcw_i, w_lconst, w_fconst, w_dconst, w_iload, w_iload_n, w_aload, w_aload_n, w_dload, w_istore, w_istore_n, w_astore_r, w_astore_s, w_astore_n_r, w_astore_n_s, w_dstore, w_iinc, w_iadd, w_isub, w_imul, w_iand, w_iushr, v_idiv, v_irem, w_ineg, w_i2l, w_i2c, w_i2f, w_i2d, v_f2d, w_lcmp, w_dcmp, v_fdiv, v_ddiv, w_dup_i, w_dup_r, w_dup2, w_dup_x2, w_pop_i, w_pop_r, w_goto, w_switch, w_ret_i, v_ret_z, v_ret_c, w_ret_a, w_ret_s, w_ret_f, w_ret_d, w_ret_v, v_iaload, v_baload, v_caload, v_laload, v_aaload, v_iastore, v_bastore, v_castore, v_lastore, v_aastore, v_alen, v_newa, v_anewa, w_new, w_throw, w_dead, v_getf_i, v_getf_z, v_getf_r, v_putf_i, v_putf_z, v_putf_r, w_call0, w_call1, w_callv1, w_calli1, w_callt1, w_call2, w_callv2, w_calli2, w_callt2, w_call3, w_callv3, w_calli3, w_call4, w_callv4, w_calli4, w_call5, w_callv5, w_calli5, w_call6, w_callv6, w_calli6, w_call7, w_callv7, w_calli7, w_call8, w_callv8, w_calli8, c_if0_eq_t, c_if0_eq_f, c_if2_eq_t, c_if2_eq_f, c_if0_ne_t, c_if0_ne_f, c_if2_ne_t, c_if2_ne_f, c_if0_lt_t, c_if0_lt_f, c_if2_lt_t, c_if2_lt_f, c_if0_ge_t, c_if0_ge_f, c_if2_ge_t, c_if2_ge_f, c_if0_gt_t, c_if0_gt_f, c_if2_gt_t, c_if2_gt_f, c_if0_le_t, c_if0_le_f, c_if2_le_t, c_if2_le_f, w_nil, uI_s, uA_r, uA_s, uD_d, mPut_0, mCl_own, mCv_go, mCl_min, mCl_cpy, mCv_obj, mAct_len, mAct_chrc, mAft_v, mAft_n, mAft_x, mGet_0, mSet_0, mGet_1, mSet_1, mGet_2, mSet_2, mGet_3, mSet_3, mGet_4, mSet_4, mGet_5, mSet_5, mGet_6, mSet_6, mGet_7, mSet_7, mGet_8, mSet_8, mGet_9, mSet_9, mGet_10, mSet_10, mGet_11, mSet_11, mGet_12, mSet_12, mGet_13, mSet_13, bk_Mo_findWeek_50, ym_k hmz, ym_0 hmz, ym_k0 hmz, ym_l0 hmz, hI3]
    exact k I z hR hf e1 e28 e29 hj
  | cc + 1, i, I, z, hc, i0, hR, hf, e1, e28, e29, hj => by
    have hmz := hR.1
    have hm := yM_u hmz
    have hw := (gO_w hg).1
    have hb9 := hw.1
    have hI3 : I (m + 1) 2 = (G.2.1 (G.1 1) (G.1 (10 + G.1 1))) 2 := by rw [hR.2.1.1]
    rw [a_Mo_findWeek_50]
    simp (disch := first | omega | exact Nat.le_of_ble_eq_true rfl | (simp (disch := omega) only [ym_k hmz, ym_0 hmz, ym_k0 hmz, ym_l0 hmz, ym_35 hmz, ym_k35 hmz, ym_l35 hmz, hI3] <;> omega)) only [w_iconst, w_bipush, w_sipush, w_ldc_s, w_ldcw_s, w_ldc_i, w_ldcw_i, w_lconst, w_fconst, w_dconst, w_iload, w_iload_n, w_aload, w_aload_n, w_dload, w_istore, w_istore_n, w_astore_r, w_astore_s, w_astore_n_r, w_astore_n_s, w_dstore, w_iinc, w_iadd, w_isub, w_imul, w_iand, w_iushr, v_idiv, v_irem, w_ineg, w_i2l, w_i2c, w_i2f, w_i2d, v_f2d, w_lcmp, w_dcmp, v_fdiv, v_ddiv, w_dup_i, w_dup_r, w_dup2, w_dup_x2, w_pop_i, w_pop_r, w_goto, w_switch, w_ret_i, v_ret_z, v_ret_c, w_ret_a, w_ret_s, w_ret_f, w_ret_d, w_ret_v, v_iaload, v_baload, v_caload, v_laload, v_aaload, v_iastore, v_bastore, v_castore, v_lastore, v_aastore, v_alen, v_newa, v_anewa, w_new, w_throw, w_dead, v_getf_i, v_getf_z, v_getf_r, v_putf_i, v_putf_z, v_putf_r, w_call0, w_call1, w_callv1, w_calli1, w_callt1, w_call2, w_callv2, w_calli2, w_callt2, w_call3, w_callv3, w_calli3, w_call4, w_callv4, w_calli4, w_call5, w_callv5, w_calli5, w_call6, w_callv6, w_calli6, w_call7, w_callv7, w_calli7, w_call8, w_callv8, w_calli8, c_if0_eq_t, c_if0_eq_f, c_if2_eq_t, c_if2_eq_f, c_if0_ne_t, c_if0_ne_f, c_if2_ne_t, c_if2_ne_f, c_if0_lt_t, c_if0_lt_f, c_if2_lt_t, c_if2_lt_f, c_if0_ge_t, c_if0_ge_f, c_if2_ge_t, c_if2_ge_f, c_if0_gt_t, c_if0_gt_f, c_if2_gt_t, c_if2_gt_f, c_if0_le_t, c_if0_le_f, c_if2_le_t, c_if2_le_f, w_nil, uI_s, uA_r, uA_s, uD_d, mPut_0, mCl_own, mCv_go, mCl_min, mCl_cpy, mCv_obj, mAct_len, mAct_chrc, mAft_v, mAft_n, mAft_x, mGet_0, mSet_0, mGet_1, mSet_1, mGet_2, mSet_2, mGet_3, mSet_3, mGet_4, mSet_4, mGet_5, mSet_5, mGet_6, mSet_6, mGet_7, mSet_7, mGet_8, mSet_8, mGet_9, mSet_9, mGet_10, mSet_10, mGet_11, mSet_11, mGet_12, mSet_12, mGet_13, mSet_13, bk_Mo_findWeek_50, ym_k hmz, ym_0 hmz, ym_k0 hmz, ym_l0 hmz, ym_35 hmz, ym_k35 hmz, ym_l35 hmz, hI3]
    refine p_sentBy (D + 5) hm hw (oAsk D hm hw (by decide) (by decide)) hR.2.1 i0 (by omega) hb9.1.1 h8 (fun I1 z1 f1 hC1 => ?_)
    have hR1 := oR_k (z' := z1) hR f1 hC1
    have hm1 := hR1.1
    simp (disch := first | omega | exact Nat.le_of_ble_eq_true rfl | (simp (disch := omega) only [ym_k hm1, ym_0 hm1, ym_k0 hm1, ym_l0 hm1, ym_35 hm1, ym_k35 hm1, ym_l35 hm1] <;> omega)) only [w_iconst, w_bipush, w_sipush, w_ldc_s, w_ldcw_s, w_ldc_i, w_ldcw_i, w_lconst, w_fconst, w_dconst, w_iload, w_iload_n, w_aload, w_aload_n, w_dload, w_istore, w_istore_n, w_astore_r, w_astore_s, w_astore_n_r, w_astore_n_s, w_dstore, w_iinc, w_iadd, w_isub, w_imul, w_iand, w_iushr, v_idiv, v_irem, w_ineg, w_i2l, w_i2c, w_i2f, w_i2d, v_f2d, w_lcmp, w_dcmp, v_fdiv, v_ddiv, w_dup_i, w_dup_r, w_dup2, w_dup_x2, w_pop_i, w_pop_r, w_goto, w_switch, w_ret_i, v_ret_z, v_ret_c, w_ret_a, w_ret_s, w_ret_f, w_ret_d, w_ret_v, v_iaload, v_baload, v_caload, v_laload, v_aaload, v_iastore, v_bastore, v_castore, v_lastore, v_aastore, v_alen, v_newa, v_anewa, w_new, w_throw, w_dead, v_getf_i, v_getf_z, v_getf_r, v_putf_i, v_putf_z, v_putf_r, w_call0, w_call1, w_callv1, w_calli1, w_callt1, w_call2, w_callv2, w_calli2, w_callt2, w_call3, w_callv3, w_calli3, w_call4, w_callv4, w_calli4, w_call5, w_callv5, w_calli5, w_call6, w_callv6, w_calli6, w_call7, w_callv7, w_calli7, w_call8, w_callv8, w_calli8, c_if0_eq_t, c_if0_eq_f, c_if2_eq_t, c_if2_eq_f, c_if0_ne_t, c_if0_ne_f, c_if2_ne_t, c_if2_ne_f, c_if0_lt_t, c_if0_lt_f, c_if2_lt_t, c_if2_lt_f, c_if0_ge_t, c_if0_ge_f, c_if2_ge_t, c_if2_ge_f, c_if0_gt_t, c_if0_gt_f, c_if2_gt_t, c_if2_gt_f, c_if0_le_t, c_if0_le_f, c_if2_le_t, c_if2_le_f, w_nil, uI_s, uA_r, uA_s, uD_d, mPut_0, mCl_own, mCv_go, mCl_min, mCl_cpy, mCv_obj, mAct_len, mAct_chrc, mAft_v, mAft_n, mAft_x, mGet_0, mSet_0, mGet_1, mSet_1, mGet_2, mSet_2, mGet_3, mSet_3, mGet_4, mSet_4, mGet_5, mSet_5, mGet_6, mSet_6, mGet_7, mSet_7, mGet_8, mSet_8, mGet_9, mSet_9, mGet_10, mSet_10, mGet_11, mSet_11, mGet_12, mSet_12, mGet_13, mSet_13, ym_k hm1, ym_0 hm1, ym_k0 hm1, ym_l0 hm1, ym_35 hm1, ym_k35 hm1, ym_l35 hm1, wr]
    have e28' : ∀ q : Int, q = m + 28 ∨ q = m + 29 ∨ q = m + 30 → I1 q = I q := fun q hq => f1.1 q (by omega) (by omega) (by omega)
    refine l_fk2 hg h8 k cc (i + 1) _ z1 (by omega) (by omega) (oR_w hR1 (by omega) (by omega)) (fun q hq => by rw [up_fa (by omega), f1.1 q (by omega) (by omega) (by omega)]; exact hf q hq) (by rw [up_fa (by omega), f1.2 1 (by decide) (by decide)]; exact e1) (by rw [up_fa (by omega), e28' _ (Or.inl rfl)]; exact e28) (by rw [up_fa (by omega), e28' _ (Or.inr (Or.inl rfl))]; exact e29) (fun j j0 j1 => ?_)
    by_cases c : j = i
    · rw [up_eq rfl c, c]
    · rw [up_nk c, e28' _ (Or.inr (Or.inr rfl))]
      exact hj j j0 (by omega)
theorem l_fk3 (hg : gWf G) (h8 : (G.2.1 (G.1 1) (G.1 (10 + G.1 1))) 0 < 8) {I0 : mN} (k : ∀ (I' : mN) (z' : Int), oR (mSx S m z') I' m G → oFm I0 I' m → I' m 1 = I0 m 1 → I' (m + 28) = I0 (m + 28) → I' (m + 29) = I0 (m + 29) → I' (m + 30) = I0 (m + 30) → (∀ j : Int, 0 ≤ j → j < (G.2.1 (G.1 1) (G.1 (10 + G.1 1))) 1 → I' (m + 31) j = sSt ((G.2.1 (G.1 1) (G.1 (10 + G.1 1)))) j ((G.2.1 (G.1 1) (G.1 (10 + G.1 1))) 0 + 1) ∧ I' (m + 32) j = sRa ((G.2.1 (G.1 1) (G.1 (10 + G.1 1)))) j ((G.2.1 (G.1 1) (G.1 (10 + G.1 1))) 0)) → Q (.inl none) I' (mSx S m z')) :
    ∀ (cc : Nat) (i : Int) (I : mN) (z : Int), i + cc = (G.2.1 (G.1 1) (G.1 (10 + G.1 1))) 1 → 0 ≤ i → oR (mSx S m z) I m G → oFm I0 I m → I m 1 = I0 m 1 → I (m + 28) = I0 (m + 28) → I (m + 29) = I0 (m + 29) → I (m + 30) = I0 (m + 30) → (∀ j : Int, 0 ≤ j → j < i → I (m + 31) j = sSt ((G.2.1 (G.1 1) (G.1 (10 + G.1 1)))) j ((G.2.1 (G.1 1) (G.1 (10 + G.1 1))) 0 + 1) ∧ I (m + 32) j = sRa ((G.2.1 (G.1 1) (G.1 (10 + G.1 1)))) j ((G.2.1 (G.1 1) (G.1 (10 + G.1 1))) 0)) → mAt (mRun (D + 12)) 282 80 ([some (mR m), some (mI ((G.2.1 (G.1 1) (G.1 (10 + G.1 1))) 0)), some (mI i)], [], I, mSx S m z) Q
  | 0, i, I, z, hc, i0, hR, hf, e1, e28, e29, e30, hj => by
    obtain rfl : i = (G.2.1 (G.1 1) (G.1 (10 + G.1 1))) 1 := by omega
    have hmz := hR.1
    have hI3 : I (m + 1) 1 = (G.2.1 (G.1 1) (G.1 (10 + G.1 1))) 1 := by rw [hR.2.1.1]
    rw [a_Mo_findWeek_80]
    simp (disch := first | omega | exact Nat.le_of_ble_eq_true rfl | (simp (disch := omega) only [ym_k hmz, ym_0 hmz, ym_k0 hmz, ym_l0 hmz, hI3] <;> omega)) only [w_iconst, w_bipush, w_sipush, w_ldc_s, w_ldcw_s, w_ldc_i, w_ldcw_i, w_lconst, w_fconst, w_dconst, w_iload, w_iload_n, w_aload, w_aload_n, w_dload, w_istore, w_istore_n, w_astore_r, w_astore_s, w_astore_n_r, w_astore_n_s, w_dstore, w_iinc, w_iadd, w_isub, w_imul, w_iand, w_iushr, v_idiv, v_irem, w_ineg, w_i2l, w_i2c, w_i2f, w_i2d, v_f2d, w_lcmp, w_dcmp, v_fdiv, v_ddiv, w_dup_i, w_dup_r, w_dup2, w_dup_x2, w_pop_i, w_pop_r, w_goto, w_switch, w_ret_i, v_ret_z, v_ret_c, w_ret_a, w_ret_s, w_ret_f, w_ret_d, w_ret_v, v_iaload, v_baload, v_caload, v_laload, v_aaload, v_iastore, v_bastore, v_castore, v_lastore, v_aastore, v_alen, v_newa, v_anewa, w_new, w_throw, w_dead, v_getf_i, v_getf_z, v_getf_r, v_putf_i, v_putf_z, v_putf_r, w_call0, w_call1, w_callv1, w_calli1, w_callt1, w_call2, w_callv2, w_calli2, w_callt2, w_call3, w_callv3, w_calli3, w_call4, w_callv4, w_calli4, w_call5, w_callv5, w_calli5, w_call6, w_callv6, w_calli6, w_call7, w_callv7, w_calli7, w_call8, w_callv8, w_calli8, c_if0_eq_t, c_if0_eq_f, c_if2_eq_t, c_if2_eq_f, c_if0_ne_t, c_if0_ne_f, c_if2_ne_t, c_if2_ne_f, c_if0_lt_t, c_if0_lt_f, c_if2_lt_t, c_if2_lt_f, c_if0_ge_t, c_if0_ge_f, c_if2_ge_t, c_if2_ge_f, c_if0_gt_t, c_if0_gt_f, c_if2_gt_t, c_if2_gt_f, c_if0_le_t, c_if0_le_f, c_if2_le_t, c_if2_le_f, w_nil, uI_s, uA_r, uA_s, uD_d, mPut_0, mCl_own, mCv_go, mCl_min, mCl_cpy, mCv_obj, mAct_len, mAct_chrc, mAft_v, mAft_n, mAft_x, mGet_0, mSet_0, mGet_1, mSet_1, mGet_2, mSet_2, mGet_3, mSet_3, mGet_4, mSet_4, mGet_5, mSet_5, mGet_6, mSet_6, mGet_7, mSet_7, mGet_8, mSet_8, mGet_9, mSet_9, mGet_10, mSet_10, mGet_11, mSet_11, mGet_12, mSet_12, mGet_13, mSet_13, bk_Mo_findWeek_80, a_Mo_findWeek_122, bk_Mo_findWeek_122, ym_k hmz, ym_0 hmz, ym_k0 hmz, ym_l0 hmz, hI3]
    exact k I z hR hf e1 e28 e29 e30 hj
  | cc + 1, i, I, z, hc, i0, hR, hf, e1, e28, e29, e30, hj => by
    have hmz := hR.1
    have hm := yM_u hmz
    have hw := (gO_w hg).1
    have hb9 := hw.1
    have hI3 : I (m + 1) 1 = (G.2.1 (G.1 1) (G.1 (10 + G.1 1))) 1 := by rw [hR.2.1.1]
    rw [a_Mo_findWeek_80]
    simp (disch := first | omega | exact Nat.le_of_ble_eq_true rfl | (simp (disch := omega) only [ym_k hmz, ym_0 hmz, ym_k0 hmz, ym_l0 hmz, ym_36 hmz, ym_k36 hmz, ym_l36 hmz, hI3] <;> omega)) only [w_iconst, w_bipush, w_sipush, w_ldc_s, w_ldcw_s, w_ldc_i, w_ldcw_i, w_lconst, w_fconst, w_dconst, w_iload, w_iload_n, w_aload, w_aload_n, w_dload, w_istore, w_istore_n, w_astore_r, w_astore_s, w_astore_n_r, w_astore_n_s, w_dstore, w_iinc, w_iadd, w_isub, w_imul, w_iand, w_iushr, v_idiv, v_irem, w_ineg, w_i2l, w_i2c, w_i2f, w_i2d, v_f2d, w_lcmp, w_dcmp, v_fdiv, v_ddiv, w_dup_i, w_dup_r, w_dup2, w_dup_x2, w_pop_i, w_pop_r, w_goto, w_switch, w_ret_i, v_ret_z, v_ret_c, w_ret_a, w_ret_s, w_ret_f, w_ret_d, w_ret_v, v_iaload, v_baload, v_caload, v_laload, v_aaload, v_iastore, v_bastore, v_castore, v_lastore, v_aastore, v_alen, v_newa, v_anewa, w_new, w_throw, w_dead, v_getf_i, v_getf_z, v_getf_r, v_putf_i, v_putf_z, v_putf_r, w_call0, w_call1, w_callv1, w_calli1, w_callt1, w_call2, w_callv2, w_calli2, w_callt2, w_call3, w_callv3, w_calli3, w_call4, w_callv4, w_calli4, w_call5, w_callv5, w_calli5, w_call6, w_callv6, w_calli6, w_call7, w_callv7, w_calli7, w_call8, w_callv8, w_calli8, c_if0_eq_t, c_if0_eq_f, c_if2_eq_t, c_if2_eq_f, c_if0_ne_t, c_if0_ne_f, c_if2_ne_t, c_if2_ne_f, c_if0_lt_t, c_if0_lt_f, c_if2_lt_t, c_if2_lt_f, c_if0_ge_t, c_if0_ge_f, c_if2_ge_t, c_if2_ge_f, c_if0_gt_t, c_if0_gt_f, c_if2_gt_t, c_if2_gt_f, c_if0_le_t, c_if0_le_f, c_if2_le_t, c_if2_le_f, w_nil, uI_s, uA_r, uA_s, uD_d, mPut_0, mCl_own, mCv_go, mCl_min, mCl_cpy, mCv_obj, mAct_len, mAct_chrc, mAft_v, mAft_n, mAft_x, mGet_0, mSet_0, mGet_1, mSet_1, mGet_2, mSet_2, mGet_3, mSet_3, mGet_4, mSet_4, mGet_5, mSet_5, mGet_6, mSet_6, mGet_7, mSet_7, mGet_8, mSet_8, mGet_9, mSet_9, mGet_10, mSet_10, mGet_11, mSet_11, mGet_12, mSet_12, mGet_13, mSet_13, bk_Mo_findWeek_80, ym_k hmz, ym_0 hmz, ym_k0 hmz, ym_l0 hmz, ym_36 hmz, ym_k36 hmz, ym_l36 hmz, hI3, wr]
    refine p_storedBy (D + 5) hm hw (oAsk D hm hw (by decide) (by decide)) hR.2.1 i0 (by omega) (by omega) (by omega) (fun I1 z1 f1 hC1 => ?_)
    have hR1 := oR_k (z' := z1) hR f1 hC1
    have hm1 := hR1.1
    have hR2 := oR_w (a := m + 31) (k := i) (v := sSt ((G.2.1 (G.1 1) (G.1 (10 + G.1 1)))) i ((G.2.1 (G.1 1) (G.1 (10 + G.1 1))) 0 + 1)) hR1 (by omega) (by omega)
    simp (disch := first | omega | exact Nat.le_of_ble_eq_true rfl | (simp (disch := omega) only [ym_k hm1, ym_0 hm1, ym_k0 hm1, ym_l0 hm1, ym_36 hm1, ym_k36 hm1, ym_l36 hm1, ym_37 hm1, ym_k37 hm1, ym_l37 hm1] <;> omega)) only [w_iconst, w_bipush, w_sipush, w_ldc_s, w_ldcw_s, w_ldc_i, w_ldcw_i, w_lconst, w_fconst, w_dconst, w_iload, w_iload_n, w_aload, w_aload_n, w_dload, w_istore, w_istore_n, w_astore_r, w_astore_s, w_astore_n_r, w_astore_n_s, w_dstore, w_iinc, w_iadd, w_isub, w_imul, w_iand, w_iushr, v_idiv, v_irem, w_ineg, w_i2l, w_i2c, w_i2f, w_i2d, v_f2d, w_lcmp, w_dcmp, v_fdiv, v_ddiv, w_dup_i, w_dup_r, w_dup2, w_dup_x2, w_pop_i, w_pop_r, w_goto, w_switch, w_ret_i, v_ret_z, v_ret_c, w_ret_a, w_ret_s, w_ret_f, w_ret_d, w_ret_v, v_iaload, v_baload, v_caload, v_laload, v_aaload, v_iastore, v_bastore, v_castore, v_lastore, v_aastore, v_alen, v_newa, v_anewa, w_new, w_throw, w_dead, v_getf_i, v_getf_z, v_getf_r, v_putf_i, v_putf_z, v_putf_r, w_call0, w_call1, w_callv1, w_calli1, w_callt1, w_call2, w_callv2, w_calli2, w_callt2, w_call3, w_callv3, w_calli3, w_call4, w_callv4, w_calli4, w_call5, w_callv5, w_calli5, w_call6, w_callv6, w_calli6, w_call7, w_callv7, w_calli7, w_call8, w_callv8, w_calli8, c_if0_eq_t, c_if0_eq_f, c_if2_eq_t, c_if2_eq_f, c_if0_ne_t, c_if0_ne_f, c_if2_ne_t, c_if2_ne_f, c_if0_lt_t, c_if0_lt_f, c_if2_lt_t, c_if2_lt_f, c_if0_ge_t, c_if0_ge_f, c_if2_ge_t, c_if2_ge_f, c_if0_gt_t, c_if0_gt_f, c_if2_gt_t, c_if2_gt_f, c_if0_le_t, c_if0_le_f, c_if2_le_t, c_if2_le_f, w_nil, uI_s, uA_r, uA_s, uD_d, mPut_0, mCl_own, mCv_go, mCl_min, mCl_cpy, mCv_obj, mAct_len, mAct_chrc, mAft_v, mAft_n, mAft_x, mGet_0, mSet_0, mGet_1, mSet_1, mGet_2, mSet_2, mGet_3, mSet_3, mGet_4, mSet_4, mGet_5, mSet_5, mGet_6, mSet_6, mGet_7, mSet_7, mGet_8, mSet_8, mGet_9, mSet_9, mGet_10, mSet_10, mGet_11, mSet_11, mGet_12, mSet_12, mGet_13, mSet_13, ym_k hm1, ym_0 hm1, ym_k0 hm1, ym_l0 hm1, ym_36 hm1, ym_k36 hm1, ym_l36 hm1, ym_37 hm1, ym_k37 hm1, ym_l37 hm1, wr]
    refine p_ranBy (D + 5) hm hw (oAsk D hm hw (by decide) (by decide)) hR2.2.1 i0 (by omega) hb9.1.1 h8 (fun I3 z3 f3 hC3 => ?_)
    have hR3 := oR_k (z' := z3) hR2 f3 hC3
    have hm3 := hR3.1
    simp (disch := first | omega | exact Nat.le_of_ble_eq_true rfl | (simp (disch := omega) only [ym_k hm3, ym_0 hm3, ym_k0 hm3, ym_l0 hm3, ym_37 hm3, ym_k37 hm3, ym_l37 hm3] <;> omega)) only [w_iconst, w_bipush, w_sipush, w_ldc_s, w_ldcw_s, w_ldc_i, w_ldcw_i, w_lconst, w_fconst, w_dconst, w_iload, w_iload_n, w_aload, w_aload_n, w_dload, w_istore, w_istore_n, w_astore_r, w_astore_s, w_astore_n_r, w_astore_n_s, w_dstore, w_iinc, w_iadd, w_isub, w_imul, w_iand, w_iushr, v_idiv, v_irem, w_ineg, w_i2l, w_i2c, w_i2f, w_i2d, v_f2d, w_lcmp, w_dcmp, v_fdiv, v_ddiv, w_dup_i, w_dup_r, w_dup2, w_dup_x2, w_pop_i, w_pop_r, w_goto, w_switch, w_ret_i, v_ret_z, v_ret_c, w_ret_a, w_ret_s, w_ret_f, w_ret_d, w_ret_v, v_iaload, v_baload, v_caload, v_laload, v_aaload, v_iastore, v_bastore, v_castore, v_lastore, v_aastore, v_alen, v_newa, v_anewa, w_new, w_throw, w_dead, v_getf_i, v_getf_z, v_getf_r, v_putf_i, v_putf_z, v_putf_r, w_call0, w_call1, w_callv1, w_calli1, w_callt1, w_call2, w_callv2, w_calli2, w_callt2, w_call3, w_callv3, w_calli3, w_call4, w_callv4, w_calli4, w_call5, w_callv5, w_calli5, w_call6, w_callv6, w_calli6, w_call7, w_callv7, w_calli7, w_call8, w_callv8, w_calli8, c_if0_eq_t, c_if0_eq_f, c_if2_eq_t, c_if2_eq_f, c_if0_ne_t, c_if0_ne_f, c_if2_ne_t, c_if2_ne_f, c_if0_lt_t, c_if0_lt_f, c_if2_lt_t, c_if2_lt_f, c_if0_ge_t, c_if0_ge_f, c_if2_ge_t, c_if2_ge_f, c_if0_gt_t, c_if0_gt_f, c_if2_gt_t, c_if2_gt_f, c_if0_le_t, c_if0_le_f, c_if2_le_t, c_if2_le_f, w_nil, uI_s, uA_r, uA_s, uD_d, mPut_0, mCl_own, mCv_go, mCl_min, mCl_cpy, mCv_obj, mAct_len, mAct_chrc, mAft_v, mAft_n, mAft_x, mGet_0, mSet_0, mGet_1, mSet_1, mGet_2, mSet_2, mGet_3, mSet_3, mGet_4, mSet_4, mGet_5, mSet_5, mGet_6, mSet_6, mGet_7, mSet_7, mGet_8, mSet_8, mGet_9, mSet_9, mGet_10, mSet_10, mGet_11, mSet_11, mGet_12, mSet_12, mGet_13, mSet_13, ym_k hm3, ym_0 hm3, ym_k0 hm3, ym_l0 hm3, ym_37 hm3, ym_k37 hm3, ym_l37 hm3, wr]
    have g1 : ∀ q : Int, m + 28 ≤ q → q ≤ m + 32 → I1 q = I q := fun q q0 q1 => f1.1 q (by omega) (by omega) (by omega)
    have g3 : ∀ q : Int, m + 28 ≤ q → q ≤ m + 32 → I3 q = mUp I1 (m + 31) i (sSt ((G.2.1 (G.1 1) (G.1 (10 + G.1 1)))) i ((G.2.1 (G.1 1) (G.1 (10 + G.1 1))) 0 + 1)) q := fun q q0 q1 => f3.1 q (by omega) (by omega) (by omega)
    refine l_fk3 hg h8 k cc (i + 1) _ z3 (by omega) (by omega) (oR_w hR3 (by omega) (by omega)) (fun q hq => by rw [up_fa (by omega), f3.1 q (by omega) (by omega) (by omega), up_fa (by omega), f1.1 q (by omega) (by omega) (by omega)]; exact hf q hq) (by rw [up_fa (by omega), f3.2 1 (by decide) (by decide), up_fa (by omega), f1.2 1 (by decide) (by decide)]; exact e1) (by rw [up_fa (by omega), g3 _ (by omega) (by omega), up_fa (by omega), g1 _ (by omega) (by omega)]; exact e28) (by rw [up_fa (by omega), g3 _ (by omega) (by omega), up_fa (by omega), g1 _ (by omega) (by omega)]; exact e29) (by rw [up_fa (by omega), g3 _ (by omega) (by omega), up_fa (by omega), g1 _ (by omega) (by omega)]; exact e30) (fun j j0 j1 => ?_)
    rw [up_fa (show m + 31 ≠ m + 32 by omega), g3 (m + 31) (by omega) (by omega)]
    by_cases c : j = i
    · rw [up_eq rfl c, up_eq rfl c, c]; exact ⟨rfl, rfl⟩
    · rw [up_nk c, up_nk c, g3 (m + 32) (by omega) (by omega), up_fa (by omega), g1 _ (by omega) (by omega), g1 _ (by omega) (by omega)]
      exact hj j j0 (by omega)
def oWk (I : mN) (m : Int) (σ : sT) : Prop := (∀ j : Int, 0 ≤ j → j < σ 3 → I (m + 28) j = sAm σ 0 j (σ 0) ∧ I (m + 29) j = sAk σ 0 j (σ 0)) ∧ (∀ j : Int, 0 ≤ j → j < σ 2 → I (m + 30) j = sSe σ j (σ 0)) ∧ ∀ j : Int, 0 ≤ j → j < σ 1 → I (m + 31) j = sSt σ j (σ 0 + 1) ∧ I (m + 32) j = sRa σ j (σ 0)
theorem p_findWk (hg : gWf G) (h8 : (G.2.1 (G.1 1) (G.1 (10 + G.1 1))) 0 < 8) (h : oR (mSx S m z) I m G) (kk : ∀ (I' : mN) (z' : Int), oR (mSx S m z') I' m G → oFm I I' m → I' m 1 = I m 1 → oWk I' m ((G.2.1 (G.1 1) (G.1 (10 + G.1 1)))) → Q (.inl none) I' (mSx S m z')) : mRun (D + 13) 282 [mR m, mI ((G.2.1 (G.1 1) (G.1 (10 + G.1 1))) 0)] I (mSx S m z) Q := by
  have hb9 := (gO_w hg).1.1
  simp (disch := first | omega | exact Nat.le_of_ble_eq_true rfl) only [w_iconst, w_bipush, w_sipush, w_ldc_s, w_ldcw_s, w_ldc_i, w_ldcw_i, w_lconst, w_fconst, w_dconst, w_iload, w_iload_n, w_aload, w_aload_n, w_dload, w_istore, w_istore_n, w_astore_r, w_astore_s, w_astore_n_r, w_astore_n_s, w_dstore, w_iinc, w_iadd, w_isub, w_imul, w_iand, w_iushr, v_idiv, v_irem, w_ineg, w_i2l, w_i2c, w_i2f, w_i2d, v_f2d, w_lcmp, w_dcmp, v_fdiv, v_ddiv, w_dup_i, w_dup_r, w_dup2, w_dup_x2, w_pop_i, w_pop_r, w_goto, w_switch, w_ret_i, v_ret_z, v_ret_c, w_ret_a, w_ret_s, w_ret_f, w_ret_d, w_ret_v, v_iaload, v_baload, v_caload, v_laload, v_aaload, v_iastore, v_bastore, v_castore, v_lastore, v_aastore, v_alen, v_newa, v_anewa, w_new, w_throw, w_dead, v_getf_i, v_getf_z, v_getf_r, v_putf_i, v_putf_z, v_putf_r, w_call0, w_call1, w_callv1, w_calli1, w_callt1, w_call2, w_callv2, w_calli2, w_callt2, w_call3, w_callv3, w_calli3, w_call4, w_callv4, w_calli4, w_call5, w_callv5, w_calli5, w_call6, w_callv6, w_calli6, w_call7, w_callv7, w_calli7, w_call8, w_callv8, w_calli8, c_if0_eq_t, c_if0_eq_f, c_if2_eq_t, c_if2_eq_f, c_if0_ne_t, c_if0_ne_f, c_if2_ne_t, c_if2_ne_f, c_if0_lt_t, c_if0_lt_f, c_if2_lt_t, c_if2_lt_f, c_if0_ge_t, c_if0_ge_f, c_if2_ge_t, c_if2_ge_f, c_if0_gt_t, c_if0_gt_f, c_if2_gt_t, c_if2_gt_f, c_if0_le_t, c_if0_le_f, c_if2_le_t, c_if2_le_f, w_nil, uI_s, uA_r, uA_s, uD_d, mPut_0, mCl_own, mCv_go, mCl_min, mCl_cpy, mCv_obj, mAct_len, mAct_chrc, mAft_v, mAft_n, mAft_x, mGet_0, mSet_0, mGet_1, mSet_1, mGet_2, mSet_2, mGet_3, mSet_3, mGet_4, mSet_4, mGet_5, mSet_5, mGet_6, mSet_6, mGet_7, mSet_7, mGet_8, mSet_8, mGet_9, mSet_9, mGet_10, mSet_10, mGet_11, mSet_11, mGet_12, mSet_12, mGet_13, mSet_13, e_Mo_findWeek, a_Mo_findWeek_0, bk_Mo_findWeek_0]
  refine l_fk1 (I0 := I) D hg h8 (fun I1 z1 hR1 f1 e1 j1 => ?_) ((G.2.1 (G.1 1) (G.1 (10 + G.1 1))) 3).toNat 0 I z (by omega) (Int.le_refl 0) h (oFm_r I m) rfl (fun j j0 j1 => by omega)
  rw [a_Mo_findWeek_48]
  simp (disch := first | omega | exact Nat.le_of_ble_eq_true rfl) only [w_iconst, w_bipush, w_sipush, w_ldc_s, w_ldcw_s, w_ldc_i, w_ldcw_i, w_lconst, w_fconst, w_dconst, w_iload, w_iload_n, w_aload, w_aload_n, w_dload, w_istore, w_istore_n, w_astore_r, w_astore_s, w_astore_n_r, w_astore_n_s, w_dstore, w_iinc, w_iadd, w_isub, w_imul, w_iand, w_iushr, v_idiv, v_irem, w_ineg, w_i2l, w_i2c, w_i2f, w_i2d, v_f2d, w_lcmp, w_dcmp, v_fdiv, v_ddiv, w_dup_i, w_dup_r, w_dup2, w_dup_x2, w_pop_i, w_pop_r, w_goto, w_switch, w_ret_i, v_ret_z, v_ret_c, w_ret_a, w_ret_s, w_ret_f, w_ret_d, w_ret_v, v_iaload, v_baload, v_caload, v_laload, v_aaload, v_iastore, v_bastore, v_castore, v_lastore, v_aastore, v_alen, v_newa, v_anewa, w_new, w_throw, w_dead, v_getf_i, v_getf_z, v_getf_r, v_putf_i, v_putf_z, v_putf_r, w_call0, w_call1, w_callv1, w_calli1, w_callt1, w_call2, w_callv2, w_calli2, w_callt2, w_call3, w_callv3, w_calli3, w_call4, w_callv4, w_calli4, w_call5, w_callv5, w_calli5, w_call6, w_callv6, w_calli6, w_call7, w_callv7, w_calli7, w_call8, w_callv8, w_calli8, c_if0_eq_t, c_if0_eq_f, c_if2_eq_t, c_if2_eq_f, c_if0_ne_t, c_if0_ne_f, c_if2_ne_t, c_if2_ne_f, c_if0_lt_t, c_if0_lt_f, c_if2_lt_t, c_if2_lt_f, c_if0_ge_t, c_if0_ge_f, c_if2_ge_t, c_if2_ge_f, c_if0_gt_t, c_if0_gt_f, c_if2_gt_t, c_if2_gt_f, c_if0_le_t, c_if0_le_f, c_if2_le_t, c_if2_le_f, w_nil, uI_s, uA_r, uA_s, uD_d, mPut_0, mCl_own, mCv_go, mCl_min, mCl_cpy, mCv_obj, mAct_len, mAct_chrc, mAft_v, mAft_n, mAft_x, mGet_0, mSet_0, mGet_1, mSet_1, mGet_2, mSet_2, mGet_3, mSet_3, mGet_4, mSet_4, mGet_5, mSet_5, mGet_6, mSet_6, mGet_7, mSet_7, mGet_8, mSet_8, mGet_9, mSet_9, mGet_10, mSet_10, mGet_11, mSet_11, mGet_12, mSet_12, mGet_13, mSet_13, bk_Mo_findWeek_48]
  refine l_fk2 (I0 := I1) D hg h8 (fun I2 z2 hR2 f2 e2 e28 e29 j2 => ?_) ((G.2.1 (G.1 1) (G.1 (10 + G.1 1))) 2).toNat 0 I1 z1 (by omega) (Int.le_refl 0) hR1 (oFm_r I1 m) rfl rfl rfl (fun j j0 j1 => by omega)
  rw [a_Mo_findWeek_78]
  simp (disch := first | omega | exact Nat.le_of_ble_eq_true rfl) only [w_iconst, w_bipush, w_sipush, w_ldc_s, w_ldcw_s, w_ldc_i, w_ldcw_i, w_lconst, w_fconst, w_dconst, w_iload, w_iload_n, w_aload, w_aload_n, w_dload, w_istore, w_istore_n, w_astore_r, w_astore_s, w_astore_n_r, w_astore_n_s, w_dstore, w_iinc, w_iadd, w_isub, w_imul, w_iand, w_iushr, v_idiv, v_irem, w_ineg, w_i2l, w_i2c, w_i2f, w_i2d, v_f2d, w_lcmp, w_dcmp, v_fdiv, v_ddiv, w_dup_i, w_dup_r, w_dup2, w_dup_x2, w_pop_i, w_pop_r, w_goto, w_switch, w_ret_i, v_ret_z, v_ret_c, w_ret_a, w_ret_s, w_ret_f, w_ret_d, w_ret_v, v_iaload, v_baload, v_caload, v_laload, v_aaload, v_iastore, v_bastore, v_castore, v_lastore, v_aastore, v_alen, v_newa, v_anewa, w_new, w_throw, w_dead, v_getf_i, v_getf_z, v_getf_r, v_putf_i, v_putf_z, v_putf_r, w_call0, w_call1, w_callv1, w_calli1, w_callt1, w_call2, w_callv2, w_calli2, w_callt2, w_call3, w_callv3, w_calli3, w_call4, w_callv4, w_calli4, w_call5, w_callv5, w_calli5, w_call6, w_callv6, w_calli6, w_call7, w_callv7, w_calli7, w_call8, w_callv8, w_calli8, c_if0_eq_t, c_if0_eq_f, c_if2_eq_t, c_if2_eq_f, c_if0_ne_t, c_if0_ne_f, c_if2_ne_t, c_if2_ne_f, c_if0_lt_t, c_if0_lt_f, c_if2_lt_t, c_if2_lt_f, c_if0_ge_t, c_if0_ge_f, c_if2_ge_t, c_if2_ge_f, c_if0_gt_t, c_if0_gt_f, c_if2_gt_t, c_if2_gt_f, c_if0_le_t, c_if0_le_f, c_if2_le_t, c_if2_le_f, w_nil, uI_s, uA_r, uA_s, uD_d, mPut_0, mCl_own, mCv_go, mCl_min, mCl_cpy, mCv_obj, mAct_len, mAct_chrc, mAft_v, mAft_n, mAft_x, mGet_0, mSet_0, mGet_1, mSet_1, mGet_2, mSet_2, mGet_3, mSet_3, mGet_4, mSet_4, mGet_5, mSet_5, mGet_6, mSet_6, mGet_7, mSet_7, mGet_8, mSet_8, mGet_9, mSet_9, mGet_10, mSet_10, mGet_11, mSet_11, mGet_12, mSet_12, mGet_13, mSet_13, bk_Mo_findWeek_78]
  refine l_fk3 (I0 := I2) D hg h8 (fun I3 z3 hR3 f3 e3 e38 e39 e30 j3 => ?_) ((G.2.1 (G.1 1) (G.1 (10 + G.1 1))) 1).toNat 0 I2 z2 (by omega) (Int.le_refl 0) hR2 (oFm_r I2 m) rfl rfl rfl rfl (fun j j0 j1 => by omega)
  exact kk I3 z3 hR3 (oFm_t f1 (oFm_t f2 f3)) (e3.trans (e2.trans e1)) ⟨fun j j0 jj => by rw [e38, e39, e28, e29]; exact j1 j j0 jj, fun j j0 jj => by rw [e30]; exact j2 j j0 jj, j3⟩
end XM
