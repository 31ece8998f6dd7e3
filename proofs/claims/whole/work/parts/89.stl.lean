/-! All that is left, week by week, place by place. -/
def zLp (I1 : mN) (n b i j : Int) : Int := zL (fun w => yBs I1 n b i w) (I1 (b + (5 + 4 * i)) 0) (I1 b 0) (j - I1 b 0).toNat
def nDn (I1 : mN) (b w p i j : Int) : Prop := (0 ≤ i ∧ i < I1 b 1) ∧ (I1 b 0 ≤ j ∧ j < 8) ∧ (j < w ∨ (j = w ∧ i < p))
def nSf (I I1 : mN) (b : Int) : Prop := ∀ a : Int, (∀ i : Int, 0 ≤ i → i < 6 → a ≠ b + (5 + 4 * i) + 1 ∧ a ≠ b + (5 + 4 * i) + 2) → I a = I1 a
def nSo (I : mN) (n : Int) (I1 : mN) (b w p : Int) : Prop := nSf I I1 b ∧
  (∀ i j : Int, nDn I1 b w p i j → I (b + (5 + 4 * i) + 1) (j + 1) = zMn (zLp I1 n b i j) (I1 (b + (5 + 4 * i)) 0) ∧ I (b + (5 + 4 * i) + 2) j = zLp I1 n b i j - zMn (zLp I1 n b i j) (I1 (b + (5 + 4 * i)) 0)) ∧
  (∀ i : Int, 0 ≤ i → i < 6 → ∀ j : Int, ¬ nDn I1 b w p i (j - 1) → I (b + (5 + 4 * i) + 1) j = I1 (b + (5 + 4 * i) + 1) j) ∧ ∀ i : Int, 0 ≤ i → i < 6 → ∀ j : Int, ¬ nDn I1 b w p i j → I (b + (5 + 4 * i) + 2) j = I1 (b + (5 + 4 * i) + 2) j
section SL
variable {n e b : Int} {S : mH} {Q : mQ} (D : Nat) {I1 : mN}
theorem ySb_k {I : mN} (hd : b + 106 ≤ n ∨ n + 15 ≤ b) (h : ySb I1 n b) (hf : nSf I I1 b) : ySb I n b := by
  obtain ⟨h1, h2, h3, h4, h5⟩ := h
  have e0 : I b = I1 b := hf b (fun i _ _ => by omega)
  refine ⟨by rw [e0]; exact h1, by rw [hf (n + 7) (fun i _ _ => by omega)]; exact h2, fun p p0 p1 => ?_, fun r r0 r1 => ?_, fun r r0 r1 => ?_⟩
  · rw [hf (b + (5 + 4 * p)) (fun i _ _ => by omega)]; exact h3 p p0 p1
  · rw [hf (b + (29 + 3 * r)) (fun i _ _ => by omega), hf (b + (29 + 3 * r) + 2) (fun i _ _ => by omega)]; exact h4 r r0 r1
  · rw [hf (b + (56 + 5 * r) + 3) (fun i _ _ => by omega)]; exact h5 r r0 r1
theorem yIn_k {I : mN} (hf : nSf I I1 b) {p w : Int} : sm (I1 b 2).toNat (yIn I b (I1 b 0) p w) = sm (I1 b 2).toNat (yIn I1 b (I1 b 0) p w) := sm_congr (fun r r0 r1 => by
  unfold yIn
  rw [hf (b + (29 + 3 * r)) (fun i _ _ => by omega), hf (b + (29 + 3 * r) + 2) (fun i _ _ => by omega)])
theorem yOu_k {I : mN} (hf : nSf I I1 b) {p w : Int} : sm (I1 b 2).toNat (yOu I b p w) = sm (I1 b 2).toNat (yOu I1 b p w) := sm_congr (fun r r0 r1 => by
  unfold yOu
  rw [hf (b + (29 + 3 * r)) (fun i _ _ => by omega), hf (b + (29 + 3 * r) + 2) (fun i _ _ => by omega)])
theorem yAo_k {I : mN} (hf : nSf I I1 b) {p w : Int} : sm (I1 b 3).toNat (yAo I b p w) = sm (I1 b 3).toNat (yAo I1 b p w) := sm_congr (fun r r0 r1 => by
  unfold yAo
  rw [hf (b + (56 + 5 * r)) (fun i _ _ => by omega), hf (b + (56 + 5 * r) + 3) (fun i _ _ => by omega)])
theorem zLp_bd (h : ySb I1 n b) {i j : Int} (i0 : 0 ≤ i) (i1 : i < 6) (j0 : I1 b 0 ≤ j) (j1 : j < 8) : -450000 ≤ zLp I1 n b i j ∧ zLp I1 n b i j ≤ 51000 := by
  have h1 := h.1.1
  have h2 := h.2.2.1 i i0 i1
  have h9 := zL_bd (bs := fun w => yBs I1 n b i w) (cap := I1 (b + (5 + 4 * i)) 0) (td := I1 b 0) (fun w w0 w1 => yBs_bd h i0 i1 w0 w1) h2.1 h2.2 (j - I1 b 0).toNat (by omega)
  unfold zLp
  omega
theorem l_so1 (hn : yNe S n e) (hB : yB S b) (hd : b + 106 ≤ n ∨ n + 15 ≤ b) (hsb : ySb I1 n b) (htd : I1 n 1 = I1 b 0) (hs0 : ∀ p : Int, 0 ≤ p → p < 6 → 0 ≤ I1 (b + (5 + 4 * p) + 1) (I1 b 0) ∧ I1 (b + (5 + 4 * p) + 1) (I1 b 0) ≤ 1000) {w : Int} (w0 : I1 b 0 ≤ w) (w1 : w < 8) :
    ∀ (c : Nat) {p : Int} {I : mN}, 0 ≤ p → p + c = I1 b 1 → nSo I n I1 b w p → (∀ I' : mN, nSo I' n I1 b w (I1 b 1) → mAt (mRun (D + 1)) 40 126 ([some (mR n), some (mR b), some (mI w), some (mI (I1 b 1))], [], I', S) Q) →
    mAt (mRun (D + 1)) 40 88 ([some (mR n), some (mR b), some (mI w), some (mI p)], [], I, S) Q
  | 0, p, I, p0, p1, hF, k => by
    obtain rfl : p = I1 b 1 := by omega
    have e0 : I b = I1 b := hF.1 b (fun i _ _ => by omega)
    simp (disch := first | omega | exact Nat.le_of_ble_eq_true rfl | (simp (disch := omega) only [yb_k hB] <;> omega)) only [w_iconst, w_bipush, w_sipush, w_ldc_s, w_ldcw_s, w_ldc_i, w_ldcw_i, w_lconst, w_fconst, w_dconst, w_iload, w_iload_n, w_aload, w_aload_n, w_dload, w_istore, w_istore_n, w_astore_r, w_astore_s, w_astore_n_r, w_astore_n_s, w_dstore, w_iinc, w_iadd, w_isub, w_imul, w_iand, w_iushr, v_idiv, v_irem, w_ineg, w_i2l, w_i2c, w_i2f, w_i2d, v_f2d, w_lcmp, w_dcmp, v_fdiv, v_ddiv, w_dup_i, w_dup_r, w_dup2, w_dup_x2, w_pop_i, w_pop_r, w_goto, w_switch, w_ret_i, v_ret_z, v_ret_c, w_ret_a, w_ret_s, w_ret_f, w_ret_d, w_ret_v, v_iaload, v_baload, v_caload, v_laload, v_aaload, v_iastore, v_bastore, v_castore, v_lastore, v_aastore, v_alen, v_newa, v_anewa, w_new, w_throw, w_dead, v_getf_i, v_getf_z, v_getf_r, v_putf_i, v_putf_z, v_putf_r, w_call0, w_call1, w_callv1, w_calli1, w_callt1, w_call2, w_callv2, w_calli2, w_callt2, w_call3, w_callv3, w_calli3, w_call4, w_callv4, w_calli4, w_call5, w_callv5, w_calli5, w_call6, w_callv6, w_calli6, w_call7, w_callv7, w_calli7, w_call8, w_callv8, w_calli8, c_if0_eq_t, c_if0_eq_f, c_if2_eq_t, c_if2_eq_f, c_if0_ne_t, c_if0_ne_f, c_if2_ne_t, c_if2_ne_f, c_if0_lt_t, c_if0_lt_f, c_if2_lt_t, c_if2_lt_f, c_if0_ge_t, c_if0_ge_f, c_if2_ge_t, c_if2_ge_f, c_if0_gt_t, c_if0_gt_f, c_if2_gt_t, c_if2_gt_f, c_if0_le_t, c_if0_le_f, c_if2_le_t, c_if2_le_f, w_nil, uI_s, uA_r, uA_s, uD_d, mPut_0, mCl_own, mCv_go, mCl_min, mCl_cpy, mCv_obj, mAct_len, mAct_chrc, mAft_v, mAft_n, mAft_x, mGet_0, mSet_0, mGet_1, mSet_1, mGet_2, mSet_2, mGet_3, mSet_3, mGet_4, mSet_4, mGet_5, mSet_5, mGet_6, mSet_6, mGet_7, mSet_7, mGet_8, mSet_8, mGet_9, mSet_9, mGet_10, mSet_10, mGet_11, mSet_11, mGet_12, mSet_12, mGet_13, mSet_13, a_Ne_findWay_88, bk_Ne_findWay_88, yb_k hB, e0]
    exact k I hF
  | c + 1, p, I, p0, p1, hF, k => by
    obtain ⟨hf, g1, g2, g3⟩ := id hF
    have e0 : I b = I1 b := hf b (fun i _ _ => by omega)
    have en : I n = I1 n := hf n (fun i _ _ => by omega)
    have hb := hsb.1
    have hp6 : p < 6 := by omega
    have hsI := ySb_k hd hsb hf
    have hq : I (b + (5 + 4 * p)) = I1 (b + (5 + 4 * p)) := hf _ (fun i _ _ => by omega)
    have hcap := hsb.2.2.1 p p0 hp6
    -- what was stored here
    have hst : I1 b 0 < w → I (b + (5 + 4 * p) + 1) w = zMn (zLp I1 n b p (w - 1)) (I1 (b + (5 + 4 * p)) 0) := fun hlt => by
      have h9 := (g1 p (w - 1) ⟨⟨p0, by omega⟩, ⟨by omega, by omega⟩, Or.inl (by omega)⟩).1
      rw [show w - 1 + 1 = w by omega] at h9
      exact h9
    have hsb2 : -500000 ≤ I (b + (5 + 4 * p) + 1) w ∧ I (b + (5 + 4 * p) + 1) w ≤ 1000 := by
      by_cases hlt : I1 b 0 < w
      · rw [hst hlt]
        have h9 := zLp_bd hsb (i := p) (j := w - 1) p0 hp6 (by omega) (by omega)
        unfold zMn
        split <;> omega
      · have hw : w = I1 b 0 := by omega
        rw [g2 p p0 hp6 w (fun h9 => by have := h9.2.1.1; omega), hw]
        have := hs0 p p0 hp6
        omega
    have hW : ∀ Q : mQ, mRun (D + 1) 43 [mR n, mR b, mI p, mI w] I S Q = Q (.inl (some (mI (I1 (n + 7) (p * 8 + w) + (if I1 b 0 < w then I (b + (5 + 4 * p) + 1) w else 0) + sm (I1 b 2).toNat (yIn I1 b (I1 b 0) p w))))) I S := fun Q => by
      rw [r_water D hn hB hsI (by rw [en, e0]; exact htd) p0 hp6 (by rw [e0]; exact w0) w1 hsb2.1 hsb2.2, e0, yIn_k hf, hf (n + 7) (fun i _ _ => by omega)]
    have hT : ∀ Q : mQ, mRun (D + 1) 44 [mR b, mI p, mI w] I S Q = Q (.inl (some (mI (sm (I1 b 3).toNat (yAo I1 b p w) + sm (I1 b 2).toNat (yOu I1 b p w))))) I S := fun Q => by
      rw [r_taken D hB hsI (by omega) w1, e0, yAo_k hf, yOu_k hf]
    have hL : I1 (n + 7) (p * 8 + w) + (if I1 b 0 < w then I (b + (5 + 4 * p) + 1) w else 0) + sm (I1 b 2).toNat (yIn I1 b (I1 b 0) p w) - (sm (I1 b 3).toNat (yAo I1 b p w) + sm (I1 b 2).toNat (yOu I1 b p w)) = zLp I1 n b p w := by
      by_cases hlt : I1 b 0 < w
      · rw [if_pos hlt, hst hlt]
        have e1 : (w - I1 b 0).toNat = (w - 1 - I1 b 0).toNat + 1 := by omega
        have e2 : zLp I1 n b p w = yBs I1 n b p w + zMn (zLp I1 n b p (w - 1)) (I1 (b + (5 + 4 * p)) 0) := by
          unfold zLp
          rw [e1]
          show yBs I1 n b p (I1 b 0 + (((w - 1 - I1 b 0).toNat : Int) + 1)) + _ = _
          rw [show I1 b 0 + (((w - 1 - I1 b 0).toNat : Int) + 1) = w by omega]
        rw [e2]
        unfold yBs
        omega
      · have hw : w = I1 b 0 := by omega
        rw [if_neg hlt]
        have e2 : zLp I1 n b p w = yBs I1 n b p w := by
          unfold zLp
          rw [hw, show (I1 b 0 - I1 b 0).toNat = 0 by omega]
          rfl
        rw [e2]
        unfold yBs
        omega
    have hLb := zLp_bd hsb (i := p) (j := w) p0 hp6 w0 w1
    have hSt : ∀ Q : mQ, mRun (D + 1) 42 [mR (b + (5 + 4 * p)), mI w, mI (zLp I1 n b p w)] I S Q = Q (.inl none) (mUp (mUp I (b + (5 + 4 * p) + 1) (w + 1) (zMn (zLp I1 n b p w) (I1 (b + (5 + 4 * p)) 0))) (b + (5 + 4 * p) + 2) w (zLp I1 n b p w - zMn (zLp I1 n b p w) (I1 (b + (5 + 4 * p)) 0))) S := fun Q => by
      rw [r_store D (yb_pP hB p0 hp6) (by omega) w1 (by omega) (by omega) (by rw [hq]; exact hcap.1) (by rw [hq]; exact hcap.2), hq]
    rw [a_Ne_findWay_88]
    simp (disch := first | omega | exact Nat.le_of_ble_eq_true rfl | (simp (disch := omega) only [yn_k hn, yb_k hB, yb_4 hB, yb_5 hB, yb_6 hB, yb_7 hB, yb_k1 hB, yb_l1 hB, yb_k2 hB, yb_l2 hB, yb_k3 hB, yb_l3 hB, yb_k4 hB, yb_l4 hB, yb_p hB, yb_pk hB, yb_p1 hB, yb_pk1 hB, yb_pl1 hB, yb_p2 hB, yb_pk2 hB, yb_pl2 hB, yb_p3 hB, yb_pk3 hB, yb_pl3 hB, yb_r hB, yb_rk hB, yb_r3 hB, yb_rk3 hB, yb_rl3 hB, yb_r4 hB, yb_rk4 hB, yb_rl4 hB, yb_g hB, yb_gk hB, yb_g7 hB, yb_gk7 hB, yb_gl7 hB, yb_g8 hB, yb_gk8 hB, yb_gl8 hB, yb_g9 hB, yb_gk9 hB, yb_gl9 hB, yb_g10 hB, yb_gk10 hB, yb_gl10 hB] <;> omega)) only [w_iconst, w_bipush, w_sipush, w_ldc_s, w_ldcw_s, w_ldc_i, w_ldcw_i, w_lconst, w_fconst, w_dconst, w_iload, w_iload_n, w_aload, w_aload_n, w_dload, w_istore, w_istore_n, w_astore_r, w_astore_s, w_astore_n_r, w_astore_n_s, w_dstore, w_iinc, w_iadd, w_isub, w_imul, w_iand, w_iushr, v_idiv, v_irem, w_ineg, w_i2l, w_i2c, w_i2f, w_i2d, v_f2d, w_lcmp, w_dcmp, v_fdiv, v_ddiv, w_dup_i, w_dup_r, w_dup2, w_dup_x2, w_pop_i, w_pop_r, w_goto, w_switch, w_ret_i, v_ret_z, v_ret_c, w_ret_a, w_ret_s, w_ret_f, w_ret_d, w_ret_v, v_iaload, v_baload, v_caload, v_laload, v_aaload, v_iastore, v_bastore, v_castore, v_lastore, v_aastore, v_alen, v_newa, v_anewa, w_new, w_throw, w_dead, v_getf_i, v_getf_z, v_getf_r, v_putf_i, v_putf_z, v_putf_r, w_call0, w_call1, w_callv1, w_calli1, w_callt1, w_call2, w_callv2, w_calli2, w_callt2, w_call3, w_callv3, w_calli3, w_call4, w_callv4, w_calli4, w_call5, w_callv5, w_calli5, w_call6, w_callv6, w_calli6, w_call7, w_callv7, w_calli7, w_call8, w_callv8, w_calli8, c_if0_eq_t, c_if0_eq_f, c_if2_eq_t, c_if2_eq_f, c_if0_ne_t, c_if0_ne_f, c_if2_ne_t, c_if2_ne_f, c_if0_lt_t, c_if0_lt_f, c_if2_lt_t, c_if2_lt_f, c_if0_ge_t, c_if0_ge_f, c_if2_ge_t, c_if2_ge_f, c_if0_gt_t, c_if0_gt_f, c_if2_gt_t, c_if2_gt_f, c_if0_le_t, c_if0_le_f, c_if2_le_t, c_if2_le_f, w_nil, uI_s, uA_r, uA_s, uD_d, mPut_0, mCl_own, mCv_go, mCl_min, mCl_cpy, mCv_obj, mAct_len, mAct_chrc, mAft_v, mAft_n, mAft_x, mGet_0, mSet_0, mGet_1, mSet_1, mGet_2, mSet_2, mGet_3, mSet_3, mGet_4, mSet_4, mGet_5, mSet_5, mGet_6, mSet_6, mGet_7, mSet_7, mGet_8, mSet_8, mGet_9, mSet_9, mGet_10, mSet_10, mGet_11, mSet_11, mGet_12, mSet_12, mGet_13, mSet_13, bk_Ne_findWay_88, yn_k hn, yb_k hB, yb_4 hB, yb_5 hB, yb_6 hB, yb_7 hB, yb_k1 hB, yb_l1 hB, yb_k2 hB, yb_l2 hB, yb_k3 hB, yb_l3 hB, yb_k4 hB, yb_l4 hB, yb_p hB, yb_pk hB, yb_p1 hB, yb_pk1 hB, yb_pl1 hB, yb_p2 hB, yb_pk2 hB, yb_pl2 hB, yb_p3 hB, yb_pk3 hB, yb_pl3 hB, yb_r hB, yb_rk hB, yb_r3 hB, yb_rk3 hB, yb_rl3 hB, yb_r4 hB, yb_rk4 hB, yb_rl4 hB, yb_g hB, yb_gk hB, yb_g7 hB, yb_gk7 hB, yb_gl7 hB, yb_g8 hB, yb_gk8 hB, yb_gl8 hB, yb_g9 hB, yb_gk9 hB, yb_gl9 hB, yb_g10 hB, yb_gk10 hB, yb_gl10 hB, e0, hW, hT, hL, wr, hSt]
    have jne : ∀ a : Int, a ≠ b + (5 + 4 * p) + 1 → a ≠ b + (5 + 4 * p) + 2 → (mUp (mUp I (b + (5 + 4 * p) + 1) (w + 1) (zMn (zLp I1 n b p w) (I1 (b + (5 + 4 * p)) 0))) (b + (5 + 4 * p) + 2) w (zLp I1 n b p w - zMn (zLp I1 n b p w) (I1 (b + (5 + 4 * p)) 0))) a = I a := fun a h1 h2 => by rw [up_fa h2, up_fa h1]
    have hdn : ∀ i j : Int, nDn I1 b w (p + 1) i j → (i = p ∧ j = w) ∨ nDn I1 b w p i j := fun i j h9 => by
      unfold nDn at h9 ⊢; omega
    have hdn2 : ∀ i j : Int, ¬ nDn I1 b w (p + 1) i j → ¬ nDn I1 b w p i j ∧ ¬ (i = p ∧ j = w) := fun i j h9 => by
      unfold nDn at h9 ⊢; omega
    have hnot : ¬ nDn I1 b w p p w := by unfold nDn; omega
    refine l_so1 hn hB hd hsb htd hs0 w0 w1 c (by omega) (by omega) ⟨fun a ha => ?_, fun i j hij => ?_, fun i i0 i1 j hij => ?_, fun i i0 i1 j hij => ?_⟩ k
    · rw [jne a (ha p p0 hp6).1 (ha p p0 hp6).2]; exact hf a ha
    · rcases hdn i j hij with ⟨rfl, rfl⟩ | h9
      · exact ⟨by rw [up_na (by omega), up_eq rfl rfl], by rw [up_eq rfl rfl]⟩
      · obtain ⟨k1, k2⟩ := g1 i j h9
        have hi := h9.1
        by_cases hip : i = p
        · subst hip
          have hjw : j ≠ w := fun h8 => by rw [h8] at h9; exact hnot h9
          exact ⟨by rw [up_na (by omega), up_nk (by omega)]; exact k1, by rw [up_nk hjw, up_na (by omega)]; exact k2⟩
        · rw [jne _ (by omega) (by omega), jne _ (by omega) (by omega)]; exact ⟨k1, k2⟩
    · obtain ⟨h8, h7⟩ := hdn2 i (j - 1) hij
      by_cases hip : i = p
      · subst hip
        rw [up_na (by omega), up_nk (by omega)]; exact g2 i i0 i1 j h8
      · rw [jne _ (by omega) (by omega)]; exact g2 i i0 i1 j h8
    · obtain ⟨h8, h7⟩ := hdn2 i j hij
      by_cases hip : i = p
      · subst hip
        rw [up_nk (by omega), up_na (by omega)]; exact g3 i i0 i1 j h8
      · rw [jne _ (by omega) (by omega)]; exact g3 i i0 i1 j h8
theorem nSo_row {I : mN} {w : Int} (h : nSo I n I1 b w (I1 b 1)) : nSo I n I1 b (w + 1) 0 := by
  have he : ∀ i j : Int, nDn I1 b (w + 1) 0 i j ↔ nDn I1 b w (I1 b 1) i j := fun i j => by unfold nDn; omega
  obtain ⟨h1, h2, h3, h4⟩ := h
  exact ⟨h1, fun i j hij => h2 i j ((he i j).mp hij), fun i i0 i1 j hij => h3 i i0 i1 j (fun h9 => hij ((he i (j - 1)).mpr h9)), fun i i0 i1 j hij => h4 i i0 i1 j (fun h9 => hij ((he i j).mpr h9))⟩
theorem l_so0 (hn : yNe S n e) (hB : yB S b) (hd : b + 106 ≤ n ∨ n + 15 ≤ b) (hsb : ySb I1 n b) (htd : I1 n 1 = I1 b 0) (hs0 : ∀ p : Int, 0 ≤ p → p < 6 → 0 ≤ I1 (b + (5 + 4 * p) + 1) (I1 b 0) ∧ I1 (b + (5 + 4 * p) + 1) (I1 b 0) ≤ 1000) :
    ∀ (c : Nat) {w : Int} {I : mN} {x3 : Option mV}, I1 b 0 ≤ w → w + c = 8 → nSo I n I1 b w 0 → (∀ (I' : mN) (x3 : Option mV), nSo I' n I1 b 8 0 → mAt (mRun (D + 1)) 40 132 ([some (mR n), some (mR b), some (mI 8), x3], [], I', S) Q) →
    mAt (mRun (D + 1)) 40 80 ([some (mR n), some (mR b), some (mI w), x3], [], I, S) Q
  | 0, w, I, x3, w0, w1, hF, k => by
    obtain rfl : w = 8 := by omega
    simp (disch := first | omega | exact Nat.le_of_ble_eq_true rfl) only [w_iconst, w_bipush, w_sipush, w_ldc_s, w_ldcw_s, w_ldc_i, w_ldcw_i, w_lconst, w_fconst, w_dconst, w_iload, w_iload_n, w_aload, w_aload_n, w_dload, w_istore, w_istore_n, w_astore_r, w_astore_s, w_astore_n_r, w_astore_n_s, w_dstore, w_iinc, w_iadd, w_isub, w_imul, w_iand, w_iushr, v_idiv, v_irem, w_ineg, w_i2l, w_i2c, w_i2f, w_i2d, v_f2d, w_lcmp, w_dcmp, v_fdiv, v_ddiv, w_dup_i, w_dup_r, w_dup2, w_dup_x2, w_pop_i, w_pop_r, w_goto, w_switch, w_ret_i, v_ret_z, v_ret_c, w_ret_a, w_ret_s, w_ret_f, w_ret_d, w_ret_v, v_iaload, v_baload, v_caload, v_laload, v_aaload, v_iastore, v_bastore, v_castore, v_lastore, v_aastore, v_alen, v_newa, v_anewa, w_new, w_throw, w_dead, v_getf_i, v_getf_z, v_getf_r, v_putf_i, v_putf_z, v_putf_r, w_call0, w_call1, w_callv1, w_calli1, w_callt1, w_call2, w_callv2, w_calli2, w_callt2, w_call3, w_callv3, w_calli3, w_call4, w_callv4, w_calli4, w_call5, w_callv5, w_calli5, w_call6, w_callv6, w_calli6, w_call7, w_callv7, w_calli7, w_call8, w_callv8, w_calli8, c_if0_eq_t, c_if0_eq_f, c_if2_eq_t, c_if2_eq_f, c_if0_ne_t, c_if0_ne_f, c_if2_ne_t, c_if2_ne_f, c_if0_lt_t, c_if0_lt_f, c_if2_lt_t, c_if2_lt_f, c_if0_ge_t, c_if0_ge_f, c_if2_ge_t, c_if2_ge_f, c_if0_gt_t, c_if0_gt_f, c_if2_gt_t, c_if2_gt_f, c_if0_le_t, c_if0_le_f, c_if2_le_t, c_if2_le_f, w_nil, uI_s, uA_r, uA_s, uD_d, mPut_0, mCl_own, mCv_go, mCl_min, mCl_cpy, mCv_obj, mAct_len, mAct_chrc, mAft_v, mAft_n, mAft_x, mGet_0, mSet_0, mGet_1, mSet_1, mGet_2, mSet_2, mGet_3, mSet_3, mGet_4, mSet_4, mGet_5, mSet_5, mGet_6, mSet_6, mGet_7, mSet_7, mGet_8, mSet_8, mGet_9, mSet_9, mGet_10, mSet_10, mGet_11, mSet_11, mGet_12, mSet_12, mGet_13, mSet_13, a_Ne_findWay_80, bk_Ne_findWay_80]
    exact k I _ hF
  | c + 1, w, I, x3, w0, w1, hF, k => by
    have hw0 := hsb.1.1.1
    rw [a_Ne_findWay_80]
    simp (disch := first | omega | exact Nat.le_of_ble_eq_true rfl) only [w_iconst, w_bipush, w_sipush, w_ldc_s, w_ldcw_s, w_ldc_i, w_ldcw_i, w_lconst, w_fconst, w_dconst, w_iload, w_iload_n, w_aload, w_aload_n, w_dload, w_istore, w_istore_n, w_astore_r, w_astore_s, w_astore_n_r, w_astore_n_s, w_dstore, w_iinc, w_iadd, w_isub, w_imul, w_iand, w_iushr, v_idiv, v_irem, w_ineg, w_i2l, w_i2c, w_i2f, w_i2d, v_f2d, w_lcmp, w_dcmp, v_fdiv, v_ddiv, w_dup_i, w_dup_r, w_dup2, w_dup_x2, w_pop_i, w_pop_r, w_goto, w_switch, w_ret_i, v_ret_z, v_ret_c, w_ret_a, w_ret_s, w_ret_f, w_ret_d, w_ret_v, v_iaload, v_baload, v_caload, v_laload, v_aaload, v_iastore, v_bastore, v_castore, v_lastore, v_aastore, v_alen, v_newa, v_anewa, w_new, w_throw, w_dead, v_getf_i, v_getf_z, v_getf_r, v_putf_i, v_putf_z, v_putf_r, w_call0, w_call1, w_callv1, w_calli1, w_callt1, w_call2, w_callv2, w_calli2, w_callt2, w_call3, w_callv3, w_calli3, w_call4, w_callv4, w_calli4, w_call5, w_callv5, w_calli5, w_call6, w_callv6, w_calli6, w_call7, w_callv7, w_calli7, w_call8, w_callv8, w_calli8, c_if0_eq_t, c_if0_eq_f, c_if2_eq_t, c_if2_eq_f, c_if0_ne_t, c_if0_ne_f, c_if2_ne_t, c_if2_ne_f, c_if0_lt_t, c_if0_lt_f, c_if2_lt_t, c_if2_lt_f, c_if0_ge_t, c_if0_ge_f, c_if2_ge_t, c_if2_ge_f, c_if0_gt_t, c_if0_gt_f, c_if2_gt_t, c_if2_gt_f, c_if0_le_t, c_if0_le_f, c_if2_le_t, c_if2_le_f, w_nil, uI_s, uA_r, uA_s, uD_d, mPut_0, mCl_own, mCv_go, mCl_min, mCl_cpy, mCv_obj, mAct_len, mAct_chrc, mAft_v, mAft_n, mAft_x, mGet_0, mSet_0, mGet_1, mSet_1, mGet_2, mSet_2, mGet_3, mSet_3, mGet_4, mSet_4, mGet_5, mSet_5, mGet_6, mSet_6, mGet_7, mSet_7, mGet_8, mSet_8, mGet_9, mSet_9, mGet_10, mSet_10, mGet_11, mSet_11, mGet_12, mSet_12, mGet_13, mSet_13, bk_Ne_findWay_80]
    refine l_so1 D hn hB hd hsb htd hs0 w0 (by omega) (I1 b 1).toNat (Int.le_refl 0) (by have := hsb.1.2.1; omega) hF (fun I' hF' => ?_)
    simp (disch := first | omega | exact Nat.le_of_ble_eq_true rfl) only [w_iconst, w_bipush, w_sipush, w_ldc_s, w_ldcw_s, w_ldc_i, w_ldcw_i, w_lconst, w_fconst, w_dconst, w_iload, w_iload_n, w_aload, w_aload_n, w_dload, w_istore, w_istore_n, w_astore_r, w_astore_s, w_astore_n_r, w_astore_n_s, w_dstore, w_iinc, w_iadd, w_isub, w_imul, w_iand, w_iushr, v_idiv, v_irem, w_ineg, w_i2l, w_i2c, w_i2f, w_i2d, v_f2d, w_lcmp, w_dcmp, v_fdiv, v_ddiv, w_dup_i, w_dup_r, w_dup2, w_dup_x2, w_pop_i, w_pop_r, w_goto, w_switch, w_ret_i, v_ret_z, v_ret_c, w_ret_a, w_ret_s, w_ret_f, w_ret_d, w_ret_v, v_iaload, v_baload, v_caload, v_laload, v_aaload, v_iastore, v_bastore, v_castore, v_lastore, v_aastore, v_alen, v_newa, v_anewa, w_new, w_throw, w_dead, v_getf_i, v_getf_z, v_getf_r, v_putf_i, v_putf_z, v_putf_r, w_call0, w_call1, w_callv1, w_calli1, w_callt1, w_call2, w_callv2, w_calli2, w_callt2, w_call3, w_callv3, w_calli3, w_call4, w_callv4, w_calli4, w_call5, w_callv5, w_calli5, w_call6, w_callv6, w_calli6, w_call7, w_callv7, w_calli7, w_call8, w_callv8, w_calli8, c_if0_eq_t, c_if0_eq_f, c_if2_eq_t, c_if2_eq_f, c_if0_ne_t, c_if0_ne_f, c_if2_ne_t, c_if2_ne_f, c_if0_lt_t, c_if0_lt_f, c_if2_lt_t, c_if2_lt_f, c_if0_ge_t, c_if0_ge_f, c_if2_ge_t, c_if2_ge_f, c_if0_gt_t, c_if0_gt_f, c_if2_gt_t, c_if2_gt_f, c_if0_le_t, c_if0_le_f, c_if2_le_t, c_if2_le_f, w_nil, uI_s, uA_r, uA_s, uD_d, mPut_0, mCl_own, mCv_go, mCl_min, mCl_cpy, mCv_obj, mAct_len, mAct_chrc, mAft_v, mAft_n, mAft_x, mGet_0, mSet_0, mGet_1, mSet_1, mGet_2, mSet_2, mGet_3, mSet_3, mGet_4, mSet_4, mGet_5, mSet_5, mGet_6, mSet_6, mGet_7, mSet_7, mGet_8, mSet_8, mGet_9, mSet_9, mGet_10, mSet_10, mGet_11, mSet_11, mGet_12, mSet_12, mGet_13, mSet_13, a_Ne_findWay_126, bk_Ne_findWay_126, wr]
    exact l_so0 hn hB hd hsb htd hs0 c (by omega) (by omega) (nSo_row hF') k
end SL
