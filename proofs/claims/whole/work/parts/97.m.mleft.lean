/-! What is left at the model's places. -/
noncomputable def sTi (σ : sT) (p w : Int) : Int → Int := fun r => if σ (17 + 11 * r) = p ∧ σ 0 ≤ w - σ (18 + 11 * r) then sSe σ r (w - σ (18 + 11 * r)) else 0
noncomputable def sTo' (σ : sT) (p w : Int) : Int → Int := fun r => if σ (16 + 11 * r) = p then sSe σ r w else 0
noncomputable def sTa (σ : sT) (p w : Int) : Int → Int := fun r => if σ (259 + 76 * r) = p then sAm σ 0 r w else 0
theorem sBs_e (σ : sT) (p w : Int) : sBs σ p w = sSu σ 0 (p * 8 + w) + sm (σ 2).toNat (sTi σ p w) - (sm (σ 3).toNat (sTa σ p w) + sm (σ 2).toNat (sTo' σ p w)) := rfl
section LB
variable {σ : sT} {p w : Int}
theorem sTi_bd (hw : sWf σ) (w0 : 0 ≤ w) (w1 : w < 8) {r : Int} (r0 : 0 ≤ r) (r1 : r < 9) : 0 ≤ sTi σ p w r ∧ sTi σ p w r ≤ 1000 := by
  unfold sTi
  have ht := (hw.2.2.1 r r0 r1).1
  have h0 := hw.1.1.1
  split
  · rename_i hc
    exact sSe_bd hw r0 r1 (by omega) (by omega)
  · omega
theorem sTo_bd (hw : sWf σ) (w0 : 0 ≤ w) (w1 : w < 8) {r : Int} (r0 : 0 ≤ r) (r1 : r < 9) : 0 ≤ sTo' σ p w r ∧ sTo' σ p w r ≤ 1000 := by
  unfold sTo'
  split
  · exact sSe_bd hw r0 r1 w0 w1
  · omega
theorem sTa_bd (hw : sWf σ) (w0 : 0 ≤ w) (w1 : w < 8) {r : Int} : 0 ≤ sTa σ p w r ∧ sTa σ p w r ≤ 1000 := by
  unfold sTa
  split
  · exact sAm_bd hw (by decide) (by decide) w0 w1
  · omega
theorem sBs_bd (hw : sWf σ) (p0 : 0 ≤ p) (p1 : p < 6) (w0 : 0 ≤ w) (w1 : w < 8) : -50000 ≤ sBs σ p w ∧ sBs σ p w ≤ 50000 := by
  rw [sBs_e]
  have hb := hw.1
  have h1 := sSu_bd (s := 0) hw (by decide) (by decide) (v := p * 8 + w) (by omega) (by omega)
  have h2 := sm_bd (n := (σ 2).toNat) (f := sTi σ p w) (fun r r0 r1 => sTi_bd hw w0 w1 r0 (by omega))
  have h3 := sm_bd (n := (σ 3).toNat) (f := sTa σ p w) (fun r r0 r1 => sTa_bd hw w0 w1)
  have h4 := sm_bd (n := (σ 2).toNat) (f := sTo' σ p w) (fun r r0 r1 => sTo_bd hw w0 w1 r0 (by omega))
  omega
theorem sLp_bd (hw : sWf σ) (p0 : 0 ≤ p) (p1 : p < 6) (w0 : σ 0 ≤ w) (w1 : w < 8) : -450000 ≤ sLp σ p w ∧ sLp σ p w ≤ 51000 := by
  have hb := hw.1.1
  have hc := (hw.2.1 p p0 p1).1
  have h := zL_bd (bs := sBs σ p) (cap := σ (4 + 2 * p)) (td := σ 0) (fun w q0 q1 => sBs_bd hw p0 p1 (by omega) q1) hc.1 (by omega) (w - σ 0).toNat (by omega)
  unfold sLp
  omega
theorem sLp_0 : sLp σ p (σ 0) = sBs σ p (σ 0) := by
  unfold sLp
  rw [show (σ 0 - σ 0).toNat = 0 by omega]
  rfl
theorem sLp_s (w0 : σ 0 ≤ w) : sLp σ p (w + 1) = sBs σ p (w + 1) + zMn (sLp σ p w) (σ (4 + 2 * p)) := by
  unfold sLp
  rw [show (w + 1 - σ 0).toNat = (w - σ 0).toNat + 1 by omega]
  show sBs σ p (σ 0 + (((w - σ 0).toNat : Nat) + 1)) + _ = _
  rw [show σ 0 + ((((w - σ 0).toNat : Nat) : Int) + 1) = w + 1 by omega]
/-- supply of places that are not there -/
theorem sSu_e (hw : sWf σ) (p0 : 0 ≤ p) (p1 : p < 6) (w0 : σ 0 ≤ w) (w1 : w < 8) : sSu σ 0 (p * 8 + w) = σ (115 + 8 * p + w) + σ (1019 + 8 * p + w) + (if w = σ 0 then σ (5 + 2 * p) else 0) := by
  unfold sSu
  have hb := hw.1.1
  rw [show (p * 8 + w) / 8 = p by omega, show (p * 8 + w) % 8 = w by omega]
  by_cases c : σ 1 ≤ p
  · rw [if_pos (Or.inl c)]
    obtain ⟨g1, g2, g3⟩ := hw.2.2.2.2.2.2.1 p c p1
    have g4 := (g3 w (by omega) w1).2.2 0 (by decide) (by decide)
    rw [show 115 + 48 * 0 + 8 * p + w = 115 + 8 * p + w by omega] at g4
    have g5 := hw.2.2.2.2.2.1 p w p0 p1 w0 w1
    have g6 : sm (σ 2).toNat (fun r => if σ (17 + 11 * r) = p ∧ 0 ≤ w - σ (18 + 11 * r) ∧ w - σ (18 + 11 * r) < σ 0 then σ (1227 + 8 * r + (w - σ (18 + 11 * r))) else 0) = 0 := sm_zero (fun r r0 r1 => if_neg (fun h9 => by
      have := (hw.2.2.2.1 r r0 (by omega)).2.1
      omega))
    rw [g4, g5, g6, g2]
    split <;> rfl
  · rw [if_neg (by omega), show 115 + 48 * 0 + (p * 8 + w) = 115 + 8 * p + w by omega, show 1019 + (p * 8 + w) = 1019 + 8 * p + w by omega]
    omega
end LB
section ML
variable {m : Int} {S : mH} {Q : mQ} (D : Nat) {σ : sT} {p w : Int}
def kRd (I : mN) (m : Int) (σ : sT) : Prop := I (m + 1) = σ ∧ (∀ r w : Int, 0 ≤ r → r < 9 → 0 ≤ w → w < 8 → I (m + 17) (8 * r + w) = sSe σ r w) ∧ ∀ r w : Int, 0 ≤ r → r < 10 → 0 ≤ w → w < 8 → I (m + 13) (8 * r + w) = sAm σ 0 r w
theorem l_le1 {I : mN} (hm : yM S m) (hw : sWf σ) (hR : kRd I m σ) (p0 : 0 ≤ p) (p1 : p < 6) (w0 : σ 0 ≤ w) (w1 : w < 8) {z0 : Int} (z1 : -100000 ≤ z0) (z2 : z0 ≤ 100000) :
    ∀ (cc i : Nat) {z : Int} {x5 : Option mV}, (i : Int) + cc = σ 2 → z = z0 + (sm i (sTi σ p w) - sm i (sTo' σ p w)) →
    (∀ x5 : Option mV, mAt (mRun (D + 1)) 226 150 ([some (mR m), some (mI p), some (mI w), some (mI (z0 + (sm (σ 2).toNat (sTi σ p w) - sm (σ 2).toNat (sTo' σ p w)))), some (mI (σ 2)), x5], [], I, S) Q) →
    mAt (mRun (D + 1)) 226 41 ([some (mR m), some (mI p), some (mI w), some (mI z), some (mI (i : Int)), x5], [], I, S) Q
  | 0, i, z, _, hi, hz, k => by
    have e2 : I (m + 1) 2 = σ 2 := by rw [hR.1]
    have hi2 : (σ 2).toNat = i := by omega
    have hi3 : (i : Int) = σ 2 := by omega
    rw [hi2, ← hz] at k
    simp (disch := first | omega | exact Nat.le_of_ble_eq_true rfl | (simp (disch := omega) only [ym_k hm, ym_0 hm, ym_k0 hm, ym_l0 hm, e2] <;> omega)) only [w_iconst, w_bipush, w_sipush, w_ldc_s, w_ldcw_s, w_ldc_i, w_ldcw_i, w_lconst, w_fconst, w_dconst, w_iload, w_iload_n, w_aload, w_aload_n, w_dload, w_istore, w_istore_n, w_astore_r, w_astore_s, w_astore_n_r, w_astore_n_s, w_dstore, w_iinc, w_iadd, w_isub, w_imul, w_iand, w_iushr, v_idiv, v_irem, w_ineg, w_i2l, w_i2c, w_i2f, w_i2d, v_f2d, w_lcmp, w_dcmp, v_fdiv, v_ddiv, w_dup_i, w_dup_r, w_dup2, w_dup_x2, w_pop_i, w_pop_r, w_goto, w_switch, w_ret_i, v_ret_z, v_ret_c, w_ret_a, w_ret_s, w_ret_f, w_ret_d, w_ret_v, v_iaload, v_baload, v_caload, v_laload, v_aaload, v_iastore, v_bastore, v_castore, v_lastore, v_aastore, v_alen, v_newa, v_anewa, w_new, w_throw, w_dead, v_getf_i, v_getf_z, v_getf_r, v_putf_i, v_putf_z, v_putf_r, w_call0, w_call1, w_callv1, w_calli1, w_callt1, w_call2, w_callv2, w_calli2, w_callt2, w_call3, w_callv3, w_calli3, w_call4, w_callv4, w_calli4, w_call5, w_callv5, w_calli5, w_call6, w_callv6, w_calli6, w_call7, w_callv7, w_calli7, w_call8, w_callv8, w_calli8, c_if0_eq_t, c_if0_eq_f, c_if2_eq_t, c_if2_eq_f, c_if0_ne_t, c_if0_ne_f, c_if2_ne_t, c_if2_ne_f, c_if0_lt_t, c_if0_lt_f, c_if2_lt_t, c_if2_lt_f, c_if0_ge_t, c_if0_ge_f, c_if2_ge_t, c_if2_ge_f, c_if0_gt_t, c_if0_gt_f, c_if2_gt_t, c_if2_gt_f, c_if0_le_t, c_if0_le_f, c_if2_le_t, c_if2_le_f, w_nil, uI_s, uA_r, uA_s, uD_d, mPut_0, mCl_own, mCv_go, mCl_min, mCl_cpy, mCv_obj, mAct_len, mAct_chrc, mAft_v, mAft_n, mAft_x, mGet_0, mSet_0, mGet_1, mSet_1, mGet_2, mSet_2, mGet_3, mSet_3, mGet_4, mSet_4, mGet_5, mSet_5, mGet_6, mSet_6, mGet_7, mSet_7, mGet_8, mSet_8, mGet_9, mSet_9, mGet_10, mSet_10, mGet_11, mSet_11, mGet_12, mSet_12, mGet_13, mSet_13, a_Mo_nLeft_41, bk_Mo_nLeft_41, ym_k hm, ym_0 hm, ym_k0 hm, ym_l0 hm, e2, hi3]
    exact k _
  | cc + 1, i, z, _, hi, hz, k => by
    obtain ⟨hI, h17, h13⟩ := id hR
    have hb := hw.1
    have ht := (hw.2.2.1 (i : Int) (by omega) (by omega)).1
    have e2 : I (m + 1) 2 = σ 2 := by rw [hI]
    have e0 : I (m + 1) 0 = σ 0 := by rw [hI]
    have hcast : (i : Int) + 1 = ((i + 1 : Nat) : Int) := by omega
    have hs1 : sm (i + 1) (sTi σ p w) = sm i (sTi σ p w) + sTi σ p w (i : Int) := rfl
    have hs2 : sm (i + 1) (sTo' σ p w) = sm i (sTo' σ p w) + sTo' σ p w (i : Int) := rfl
    have b1 := sm_bd (n := i) (f := sTi σ p w) (fun r r0 r1 => sTi_bd hw (by omega) w1 r0 (by omega))
    have b2 := sm_bd (n := i) (f := sTo' σ p w) (fun r r0 r1 => sTo_bd hw (by omega) w1 r0 (by omega))
    have b3 := sTi_bd (p := p) hw (w := w) (by omega) w1 (r := (i : Int)) (by omega) (by omega)
    have b4 := sTo_bd (p := p) hw (w := w) (by omega) w1 (r := (i : Int)) (by omega) (by omega)
    have g : ∀ (c j : Int) (Q : mQ), 16 + 11 * (i : Int) + c = j → 0 ≤ c → c < 11 → mRun (D + 1) 205 [mR (m + 1), mI (i : Int), mI c] I S Q = Q (.inl (some (mI (σ j)))) I S := fun c j Q hj c0 c1 => by
      rw [r_ofReach D (ym_k0 hm) (ym_l0 hm) hj (by omega) (by omega) (by omega) (by omega), hI]
    have g0 := g 0 (16 + 11 * (i : Int))
    have g1 := g 1 (17 + 11 * (i : Int))
    have g2 := g 2 (18 + 11 * (i : Int))
    have hsw := h17 (i : Int) w (by omega) (by omega) (by omega) w1
    have hi : (i : Int) < σ 2 := by omega
    -- the second part
    have fin : ∀ z' : Int, z' = z + sTi σ p w (i : Int) → mAt (mRun (D + 1)) 226 109 ([some (mR m), some (mI p), some (mI w), some (mI z), some (mI (i : Int)), some (mI (w - σ (18 + 11 * (i : Int))))], [mI (sTi σ p w (i : Int)), mI z], I, S) Q := fun z' hz' => by
      by_cases c : σ (16 + 11 * (i : Int)) = p
      · have hv : sTo' σ p w (i : Int) = sSe σ (i : Int) w := if_pos c
        simp (disch := first | omega | exact Nat.le_of_ble_eq_true rfl | (simp (disch := omega) only [ym_k hm, ym_0 hm, ym_k0 hm, ym_l0 hm, ym_18 hm, ym_k18 hm, ym_l18 hm] <;> omega)) only [w_iconst, w_bipush, w_sipush, w_ldc_s, w_ldcw_s, w_ldc_i, w_ldcw_i, w_lconst, w_fconst, w_dconst, w_iload, w_iload_n, w_aload, w_aload_n, w_dload, w_istore, w_istore_n, w_astore_r, w_astore_s, w_astore_n_r, w_astore_n_s, w_dstore, w_iinc, w_iadd, w_isub, w_imul, w_iand, w_iushr, v_idiv, v_irem, w_ineg, w_i2l, w_i2c, w_i2f, w_i2d, v_f2d, w_lcmp, w_dcmp, v_fdiv, v_ddiv, w_dup_i, w_dup_r, w_dup2, w_dup_x2, w_pop_i, w_pop_r, w_goto, w_switch, w_ret_i, v_ret_z, v_ret_c, w_ret_a, w_ret_s, w_ret_f, w_ret_d, w_ret_v, v_iaload, v_baload, v_caload, v_laload, v_aaload, v_iastore, v_bastore, v_castore, v_lastore, v_aastore, v_alen, v_newa, v_anewa, w_new, w_throw, w_dead, v_getf_i, v_getf_z, v_getf_r, v_putf_i, v_putf_z, v_putf_r, w_call0, w_call1, w_callv1, w_calli1, w_callt1, w_call2, w_callv2, w_calli2, w_callt2, w_call3, w_callv3, w_calli3, w_call4, w_callv4, w_calli4, w_call5, w_callv5, w_calli5, w_call6, w_callv6, w_calli6, w_call7, w_callv7, w_calli7, w_call8, w_callv8, w_calli8, c_if0_eq_t, c_if0_eq_f, c_if2_eq_t, c_if2_eq_f, c_if0_ne_t, c_if0_ne_f, c_if2_ne_t, c_if2_ne_f, c_if0_lt_t, c_if0_lt_f, c_if2_lt_t, c_if2_lt_f, c_if0_ge_t, c_if0_ge_f, c_if2_ge_t, c_if2_ge_f, c_if0_gt_t, c_if0_gt_f, c_if2_gt_t, c_if2_gt_f, c_if0_le_t, c_if0_le_f, c_if2_le_t, c_if2_le_f, w_nil, uI_s, uA_r, uA_s, uD_d, mPut_0, mCl_own, mCv_go, mCl_min, mCl_cpy, mCv_obj, mAct_len, mAct_chrc, mAft_v, mAft_n, mAft_x, mGet_0, mSet_0, mGet_1, mSet_1, mGet_2, mSet_2, mGet_3, mSet_3, mGet_4, mSet_4, mGet_5, mSet_5, mGet_6, mSet_6, mGet_7, mSet_7, mGet_8, mSet_8, mGet_9, mSet_9, mGet_10, mSet_10, mGet_11, mSet_11, mGet_12, mSet_12, mGet_13, mSet_13, a_Mo_nLeft_109, bk_Mo_nLeft_109, a_Mo_nLeft_142, bk_Mo_nLeft_142, ym_k hm, ym_0 hm, ym_k0 hm, ym_l0 hm, ym_18 hm, ym_k18 hm, ym_l18 hm, g0, hsw, wr]
        rw [hcast]
        exact l_le1 hm hw hR p0 p1 w0 w1 z1 z2 cc (i + 1) (by omega) (by omega) k
      · have hv : sTo' σ p w (i : Int) = 0 := if_neg c
        simp (disch := first | omega | exact Nat.le_of_ble_eq_true rfl | (simp (disch := omega) only [ym_k hm, ym_0 hm, ym_k0 hm, ym_l0 hm, ym_18 hm, ym_k18 hm, ym_l18 hm] <;> omega)) only [w_iconst, w_bipush, w_sipush, w_ldc_s, w_ldcw_s, w_ldc_i, w_ldcw_i, w_lconst, w_fconst, w_dconst, w_iload, w_iload_n, w_aload, w_aload_n, w_dload, w_istore, w_istore_n, w_astore_r, w_astore_s, w_astore_n_r, w_astore_n_s, w_dstore, w_iinc, w_iadd, w_isub, w_imul, w_iand, w_iushr, v_idiv, v_irem, w_ineg, w_i2l, w_i2c, w_i2f, w_i2d, v_f2d, w_lcmp, w_dcmp, v_fdiv, v_ddiv, w_dup_i, w_dup_r, w_dup2, w_dup_x2, w_pop_i, w_pop_r, w_goto, w_switch, w_ret_i, v_ret_z, v_ret_c, w_ret_a, w_ret_s, w_ret_f, w_ret_d, w_ret_v, v_iaload, v_baload, v_caload, v_laload, v_aaload, v_iastore, v_bastore, v_castore, v_lastore, v_aastore, v_alen, v_newa, v_anewa, w_new, w_throw, w_dead, v_getf_i, v_getf_z, v_getf_r, v_putf_i, v_putf_z, v_putf_r, w_call0, w_call1, w_callv1, w_calli1, w_callt1, w_call2, w_callv2, w_calli2, w_callt2, w_call3, w_callv3, w_calli3, w_call4, w_callv4, w_calli4, w_call5, w_callv5, w_calli5, w_call6, w_callv6, w_calli6, w_call7, w_callv7, w_calli7, w_call8, w_callv8, w_calli8, c_if0_eq_t, c_if0_eq_f, c_if2_eq_t, c_if2_eq_f, c_if0_ne_t, c_if0_ne_f, c_if2_ne_t, c_if2_ne_f, c_if0_lt_t, c_if0_lt_f, c_if2_lt_t, c_if2_lt_f, c_if0_ge_t, c_if0_ge_f, c_if2_ge_t, c_if2_ge_f, c_if0_gt_t, c_if0_gt_f, c_if2_gt_t, c_if2_gt_f, c_if0_le_t, c_if0_le_f, c_if2_le_t, c_if2_le_f, w_nil, uI_s, uA_r, uA_s, uD_d, mPut_0, mCl_own, mCv_go, mCl_min, mCl_cpy, mCv_obj, mAct_len, mAct_chrc, mAft_v, mAft_n, mAft_x, mGet_0, mSet_0, mGet_1, mSet_1, mGet_2, mSet_2, mGet_3, mSet_3, mGet_4, mSet_4, mGet_5, mSet_5, mGet_6, mSet_6, mGet_7, mSet_7, mGet_8, mSet_8, mGet_9, mSet_9, mGet_10, mSet_10, mGet_11, mSet_11, mGet_12, mSet_12, mGet_13, mSet_13, a_Mo_nLeft_109, bk_Mo_nLeft_109, a_Mo_nLeft_141, bk_Mo_nLeft_141, a_Mo_nLeft_142, bk_Mo_nLeft_142, ym_k hm, ym_0 hm, ym_k0 hm, ym_l0 hm, ym_18 hm, ym_k18 hm, ym_l18 hm, g0, hsw, wr]
        rw [hcast]
        exact l_le1 hm hw hR p0 p1 w0 w1 z1 z2 cc (i + 1) (by omega) (by omega) k
    rw [a_Mo_nLeft_41]
    by_cases c : σ (17 + 11 * (i : Int)) = p
    · by_cases c2 : σ 0 ≤ w - σ (18 + 11 * (i : Int))
      · have hv : sTi σ p w (i : Int) = sSe σ (i : Int) (w - σ (18 + 11 * (i : Int))) := if_pos ⟨c, c2⟩
        have hst := h17 (i : Int) (w - σ (18 + 11 * (i : Int))) (by omega) (by omega) (by omega) (by omega)
        have f := fin _ rfl
        rw [hv] at f
        simp (disch := first | omega | exact Nat.le_of_ble_eq_true rfl | (simp (disch := omega) only [ym_k hm, ym_0 hm, ym_k0 hm, ym_l0 hm, ym_18 hm, ym_k18 hm, ym_l18 hm, e2, e0] <;> omega)) only [w_iconst, w_bipush, w_sipush, w_ldc_s, w_ldcw_s, w_ldc_i, w_ldcw_i, w_lconst, w_fconst, w_dconst, w_iload, w_iload_n, w_aload, w_aload_n, w_dload, w_istore, w_istore_n, w_astore_r, w_astore_s, w_astore_n_r, w_astore_n_s, w_dstore, w_iinc, w_iadd, w_isub, w_imul, w_iand, w_iushr, v_idiv, v_irem, w_ineg, w_i2l, w_i2c, w_i2f, w_i2d, v_f2d, w_lcmp, w_dcmp, v_fdiv, v_ddiv, w_dup_i, w_dup_r, w_dup2, w_dup_x2, w_pop_i, w_pop_r, w_goto, w_switch, w_ret_i, v_ret_z, v_ret_c, w_ret_a, w_ret_s, w_ret_f, w_ret_d, w_ret_v, v_iaload, v_baload, v_caload, v_laload, v_aaload, v_iastore, v_bastore, v_castore, v_lastore, v_aastore, v_alen, v_newa, v_anewa, w_new, w_throw, w_dead, v_getf_i, v_getf_z, v_getf_r, v_putf_i, v_putf_z, v_putf_r, w_call0, w_call1, w_callv1, w_calli1, w_callt1, w_call2, w_callv2, w_calli2, w_callt2, w_call3, w_callv3, w_calli3, w_call4, w_callv4, w_calli4, w_call5, w_callv5, w_calli5, w_call6, w_callv6, w_calli6, w_call7, w_callv7, w_calli7, w_call8, w_callv8, w_calli8, c_if0_eq_t, c_if0_eq_f, c_if2_eq_t, c_if2_eq_f, c_if0_ne_t, c_if0_ne_f, c_if2_ne_t, c_if2_ne_f, c_if0_lt_t, c_if0_lt_f, c_if2_lt_t, c_if2_lt_f, c_if0_ge_t, c_if0_ge_f, c_if2_ge_t, c_if2_ge_f, c_if0_gt_t, c_if0_gt_f, c_if2_gt_t, c_if2_gt_f, c_if0_le_t, c_if0_le_f, c_if2_le_t, c_if2_le_f, w_nil, uI_s, uA_r, uA_s, uD_d, mPut_0, mCl_own, mCv_go, mCl_min, mCl_cpy, mCv_obj, mAct_len, mAct_chrc, mAft_v, mAft_n, mAft_x, mGet_0, mSet_0, mGet_1, mSet_1, mGet_2, mSet_2, mGet_3, mSet_3, mGet_4, mSet_4, mGet_5, mSet_5, mGet_6, mSet_6, mGet_7, mSet_7, mGet_8, mSet_8, mGet_9, mSet_9, mGet_10, mSet_10, mGet_11, mSet_11, mGet_12, mSet_12, mGet_13, mSet_13, bk_Mo_nLeft_41, ym_k hm, ym_0 hm, ym_k0 hm, ym_l0 hm, ym_18 hm, ym_k18 hm, ym_l18 hm, e2, e0, g1, g2, hst, wr]
        exact f
      · have hv : sTi σ p w (i : Int) = 0 := if_neg (fun h9 => c2 h9.2)
        have f := fin _ rfl
        rw [hv] at f
        simp (disch := first | omega | exact Nat.le_of_ble_eq_true rfl | (simp (disch := omega) only [ym_k hm, ym_0 hm, ym_k0 hm, ym_l0 hm, ym_18 hm, ym_k18 hm, ym_l18 hm, e2, e0] <;> omega)) only [w_iconst, w_bipush, w_sipush, w_ldc_s, w_ldcw_s, w_ldc_i, w_ldcw_i, w_lconst, w_fconst, w_dconst, w_iload, w_iload_n, w_aload, w_aload_n, w_dload, w_istore, w_istore_n, w_astore_r, w_astore_s, w_astore_n_r, w_astore_n_s, w_dstore, w_iinc, w_iadd, w_isub, w_imul, w_iand, w_iushr, v_idiv, v_irem, w_ineg, w_i2l, w_i2c, w_i2f, w_i2d, v_f2d, w_lcmp, w_dcmp, v_fdiv, v_ddiv, w_dup_i, w_dup_r, w_dup2, w_dup_x2, w_pop_i, w_pop_r, w_goto, w_switch, w_ret_i, v_ret_z, v_ret_c, w_ret_a, w_ret_s, w_ret_f, w_ret_d, w_ret_v, v_iaload, v_baload, v_caload, v_laload, v_aaload, v_iastore, v_bastore, v_castore, v_lastore, v_aastore, v_alen, v_newa, v_anewa, w_new, w_throw, w_dead, v_getf_i, v_getf_z, v_getf_r, v_putf_i, v_putf_z, v_putf_r, w_call0, w_call1, w_callv1, w_calli1, w_callt1, w_call2, w_callv2, w_calli2, w_callt2, w_call3, w_callv3, w_calli3, w_call4, w_callv4, w_calli4, w_call5, w_callv5, w_calli5, w_call6, w_callv6, w_calli6, w_call7, w_callv7, w_calli7, w_call8, w_callv8, w_calli8, c_if0_eq_t, c_if0_eq_f, c_if2_eq_t, c_if2_eq_f, c_if0_ne_t, c_if0_ne_f, c_if2_ne_t, c_if2_ne_f, c_if0_lt_t, c_if0_lt_f, c_if2_lt_t, c_if2_lt_f, c_if0_ge_t, c_if0_ge_f, c_if2_ge_t, c_if2_ge_f, c_if0_gt_t, c_if0_gt_f, c_if2_gt_t, c_if2_gt_f, c_if0_le_t, c_if0_le_f, c_if2_le_t, c_if2_le_f, w_nil, uI_s, uA_r, uA_s, uD_d, mPut_0, mCl_own, mCv_go, mCl_min, mCl_cpy, mCv_obj, mAct_len, mAct_chrc, mAft_v, mAft_n, mAft_x, mGet_0, mSet_0, mGet_1, mSet_1, mGet_2, mSet_2, mGet_3, mSet_3, mGet_4, mSet_4, mGet_5, mSet_5, mGet_6, mSet_6, mGet_7, mSet_7, mGet_8, mSet_8, mGet_9, mSet_9, mGet_10, mSet_10, mGet_11, mSet_11, mGet_12, mSet_12, mGet_13, mSet_13, bk_Mo_nLeft_41, a_Mo_nLeft_108, bk_Mo_nLeft_108, ym_k hm, ym_0 hm, ym_k0 hm, ym_l0 hm, ym_18 hm, ym_k18 hm, ym_l18 hm, e2, e0, g1, g2, wr]
        exact f
    · have hv : sTi σ p w (i : Int) = 0 := if_neg (fun h9 => c h9.1)
      have f := fin _ rfl
      rw [hv] at f
      simp (disch := first | omega | exact Nat.le_of_ble_eq_true rfl | (simp (disch := omega) only [ym_k hm, ym_0 hm, ym_k0 hm, ym_l0 hm, ym_18 hm, ym_k18 hm, ym_l18 hm, e2, e0] <;> omega)) only [w_iconst, w_bipush, w_sipush, w_ldc_s, w_ldcw_s, w_ldc_i, w_ldcw_i, w_lconst, w_fconst, w_dconst, w_iload, w_iload_n, w_aload, w_aload_n, w_dload, w_istore, w_istore_n, w_astore_r, w_astore_s, w_astore_n_r, w_astore_n_s, w_dstore, w_iinc, w_iadd, w_isub, w_imul, w_iand, w_iushr, v_idiv, v_irem, w_ineg, w_i2l, w_i2c, w_i2f, w_i2d, v_f2d, w_lcmp, w_dcmp, v_fdiv, v_ddiv, w_dup_i, w_dup_r, w_dup2, w_dup_x2, w_pop_i, w_pop_r, w_goto, w_switch, w_ret_i, v_ret_z, v_ret_c, w_ret_a, w_ret_s, w_ret_f, w_ret_d, w_ret_v, v_iaload, v_baload, v_caload, v_laload, v_aaload, v_iastore, v_bastore, v_castore, v_lastore, v_aastore, v_alen, v_newa, v_anewa, w_new, w_throw, w_dead, v_getf_i, v_getf_z, v_getf_r, v_putf_i, v_putf_z, v_putf_r, w_call0, w_call1, w_callv1, w_calli1, w_callt1, w_call2, w_callv2, w_calli2, w_callt2, w_call3, w_callv3, w_calli3, w_call4, w_callv4, w_calli4, w_call5, w_callv5, w_calli5, w_call6, w_callv6, w_calli6, w_call7, w_callv7, w_calli7, w_call8, w_callv8, w_calli8, c_if0_eq_t, c_if0_eq_f, c_if2_eq_t, c_if2_eq_f, c_if0_ne_t, c_if0_ne_f, c_if2_ne_t, c_if2_ne_f, c_if0_lt_t, c_if0_lt_f, c_if2_lt_t, c_if2_lt_f, c_if0_ge_t, c_if0_ge_f, c_if2_ge_t, c_if2_ge_f, c_if0_gt_t, c_if0_gt_f, c_if2_gt_t, c_if2_gt_f, c_if0_le_t, c_if0_le_f, c_if2_le_t, c_if2_le_f, w_nil, uI_s, uA_r, uA_s, uD_d, mPut_0, mCl_own, mCv_go, mCl_min, mCl_cpy, mCv_obj, mAct_len, mAct_chrc, mAft_v, mAft_n, mAft_x, mGet_0, mSet_0, mGet_1, mSet_1, mGet_2, mSet_2, mGet_3, mSet_3, mGet_4, mSet_4, mGet_5, mSet_5, mGet_6, mSet_6, mGet_7, mSet_7, mGet_8, mSet_8, mGet_9, mSet_9, mGet_10, mSet_10, mGet_11, mSet_11, mGet_12, mSet_12, mGet_13, mSet_13, bk_Mo_nLeft_41, a_Mo_nLeft_108, bk_Mo_nLeft_108, ym_k hm, ym_0 hm, ym_k0 hm, ym_l0 hm, ym_18 hm, ym_k18 hm, ym_l18 hm, e2, e0, g1, g2, wr]
      exact f
theorem l_le2 {I : mN} (hm : yM S m) (hw : sWf σ) (hR : kRd I m σ) (p0 : 0 ≤ p) (p1 : p < 6) (w0 : 0 ≤ w) (w1 : w < 8) {z0 : Int} (z1 : -200000 ≤ z0) (z2 : z0 ≤ 200000) (k : Q (.inl (some (mI (z0 - sm (σ 3).toNat (sTa σ p w))))) I S) :
    ∀ (cc i : Nat) {z : Int} {x5 : Option mV}, (i : Int) + cc = σ 3 → z = z0 - sm i (sTa σ p w) →
    mAt (mRun (D + 1)) 226 153 ([some (mR m), some (mI p), some (mI w), some (mI z), some (mI (i : Int)), x5], [], I, S) Q
  | 0, i, z, _, hi, hz => by
    have e3 : I (m + 1) 3 = σ 3 := by rw [hR.1]
    have hi2 : (σ 3).toNat = i := by omega
    have hi3 : (i : Int) = σ 3 := by omega
    rw [hi2, ← hz] at k
    simp (disch := first | omega | exact Nat.le_of_ble_eq_true rfl | (simp (disch := omega) only [ym_k hm, ym_0 hm, ym_k0 hm, ym_l0 hm, e3] <;> omega)) only [w_iconst, w_bipush, w_sipush, w_ldc_s, w_ldcw_s, w_ldc_i, w_ldcw_i, w_lconst, w_fconst, w_dconst, w_iload, w_iload_n, w_aload, w_aload_n, w_dload, w_istore, w_istore_n, w_astore_r, w_astore_s, w_astore_n_r, w_astore_n_s, w_dstore, w_iinc, w_iadd, w_isub, w_imul, w_iand, w_iushr, v_idiv, v_irem, w_ineg, w_i2l, w_i2c, w_i2f, w_i2d, v_f2d, w_lcmp, w_dcmp, v_fdiv, v_ddiv, w_dup_i, w_dup_r, w_dup2, w_dup_x2, w_pop_i, w_pop_r, w_goto, w_switch, w_ret_i, v_ret_z, v_ret_c, w_ret_a, w_ret_s, w_ret_f, w_ret_d, w_ret_v, v_iaload, v_baload, v_caload, v_laload, v_aaload, v_iastore, v_bastore, v_castore, v_lastore, v_aastore, v_alen, v_newa, v_anewa, w_new, w_throw, w_dead, v_getf_i, v_getf_z, v_getf_r, v_putf_i, v_putf_z, v_putf_r, w_call0, w_call1, w_callv1, w_calli1, w_callt1, w_call2, w_callv2, w_calli2, w_callt2, w_call3, w_callv3, w_calli3, w_call4, w_callv4, w_calli4, w_call5, w_callv5, w_calli5, w_call6, w_callv6, w_calli6, w_call7, w_callv7, w_calli7, w_call8, w_callv8, w_calli8, c_if0_eq_t, c_if0_eq_f, c_if2_eq_t, c_if2_eq_f, c_if0_ne_t, c_if0_ne_f, c_if2_ne_t, c_if2_ne_f, c_if0_lt_t, c_if0_lt_f, c_if2_lt_t, c_if2_lt_f, c_if0_ge_t, c_if0_ge_f, c_if2_ge_t, c_if2_ge_f, c_if0_gt_t, c_if0_gt_f, c_if2_gt_t, c_if2_gt_f, c_if0_le_t, c_if0_le_f, c_if2_le_t, c_if2_le_f, w_nil, uI_s, uA_r, uA_s, uD_d, mPut_0, mCl_own, mCv_go, mCl_min, mCl_cpy, mCv_obj, mAct_len, mAct_chrc, mAft_v, mAft_n, mAft_x, mGet_0, mSet_0, mGet_1, mSet_1, mGet_2, mSet_2, mGet_3, mSet_3, mGet_4, mSet_4, mGet_5, mSet_5, mGet_6, mSet_6, mGet_7, mSet_7, mGet_8, mSet_8, mGet_9, mSet_9, mGet_10, mSet_10, mGet_11, mSet_11, mGet_12, mSet_12, mGet_13, mSet_13, a_Mo_nLeft_153, bk_Mo_nLeft_153, a_Mo_nLeft_203, bk_Mo_nLeft_203, ym_k hm, ym_0 hm, ym_k0 hm, ym_l0 hm, e3, hi3]
    exact k
  | cc + 1, i, z, _, hi, hz => by
    obtain ⟨hI, h17, h13⟩ := id hR
    have hb := hw.1
    have e3 : I (m + 1) 3 = σ 3 := by rw [hI]
    have hcast : (i : Int) + 1 = ((i + 1 : Nat) : Int) := by omega
    have hs1 : sm (i + 1) (sTa σ p w) = sm i (sTa σ p w) + sTa σ p w (i : Int) := rfl
    have b1 := sm_bd (n := i) (f := sTa σ p w) (fun r r0 r1 => sTa_bd hw w0 w1)
    have b3 := sTa_bd (p := p) (r := (i : Int)) hw (w := w) w0 w1
    have g0 : ∀ (Q : mQ), mRun (D + 1) 206 [mR (m + 1), mI (i : Int), mI 0] I S Q = Q (.inl (some (mI (σ (259 + 76 * (i : Int)))))) I S := fun Q => by
      rw [r_ofRight D (ym_k0 hm) (ym_l0 hm) (show 259 + 76 * (i : Int) + 0 = 259 + 76 * (i : Int) by omega) (by omega) (by omega) (by omega) (by omega), hI]
    have hsw := h13 (i : Int) w (by omega) (by omega) w0 w1
    have hi : (i : Int) < σ 3 := by omega
    rw [a_Mo_nLeft_153]
    by_cases c : σ (259 + 76 * (i : Int)) = p
    · have hv : sTa σ p w (i : Int) = sAm σ 0 (i : Int) w := if_pos c
      simp (disch := first | omega | exact Nat.le_of_ble_eq_true rfl | (simp (disch := omega) only [ym_k hm, ym_0 hm, ym_k0 hm, ym_l0 hm, ym_13 hm, ym_k13 hm, ym_l13 hm, e3] <;> omega)) only [w_iconst, w_bipush, w_sipush, w_ldc_s, w_ldcw_s, w_ldc_i, w_ldcw_i, w_lconst, w_fconst, w_dconst, w_iload, w_iload_n, w_aload, w_aload_n, w_dload, w_istore, w_istore_n, w_astore_r, w_astore_s, w_astore_n_r, w_astore_n_s, w_dstore, w_iinc, w_iadd, w_isub, w_imul, w_iand, w_iushr, v_idiv, v_irem, w_ineg, w_i2l, w_i2c, w_i2f, w_i2d, v_f2d, w_lcmp, w_dcmp, v_fdiv, v_ddiv, w_dup_i, w_dup_r, w_dup2, w_dup_x2, w_pop_i, w_pop_r, w_goto, w_switch, w_ret_i, v_ret_z, v_ret_c, w_ret_a, w_ret_s, w_ret_f, w_ret_d, w_ret_v, v_iaload, v_baload, v_caload, v_laload, v_aaload, v_iastore, v_bastore, v_castore, v_lastore, v_aastore, v_alen, v_newa, v_anewa, w_new, w_throw, w_dead, v_getf_i, v_getf_z, v_getf_r, v_putf_i, v_putf_z, v_putf_r, w_call0, w_call1, w_callv1, w_calli1, w_callt1, w_call2, w_callv2, w_calli2, w_callt2, w_call3, w_callv3, w_calli3, w_call4, w_callv4, w_calli4, w_call5, w_callv5, w_calli5, w_call6, w_callv6, w_calli6, w_call7, w_callv7, w_calli7, w_call8, w_callv8, w_calli8, c_if0_eq_t, c_if0_eq_f, c_if2_eq_t, c_if2_eq_f, c_if0_ne_t, c_if0_ne_f, c_if2_ne_t, c_if2_ne_f, c_if0_lt_t, c_if0_lt_f, c_if2_lt_t, c_if2_lt_f, c_if0_ge_t, c_if0_ge_f, c_if2_ge_t, c_if2_ge_f, c_if0_gt_t, c_if0_gt_f, c_if2_gt_t, c_if2_gt_f, c_if0_le_t, c_if0_le_f, c_if2_le_t, c_if2_le_f, w_nil, uI_s, uA_r, uA_s, uD_d, mPut_0, mCl_own, mCv_go, mCl_min, mCl_cpy, mCv_obj, mAct_len, mAct_chrc, mAft_v, mAft_n, mAft_x, mGet_0, mSet_0, mGet_1, mSet_1, mGet_2, mSet_2, mGet_3, mSet_3, mGet_4, mSet_4, mGet_5, mSet_5, mGet_6, mSet_6, mGet_7, mSet_7, mGet_8, mSet_8, mGet_9, mSet_9, mGet_10, mSet_10, mGet_11, mSet_11, mGet_12, mSet_12, mGet_13, mSet_13, bk_Mo_nLeft_153, a_Mo_nLeft_195, bk_Mo_nLeft_195, ym_k hm, ym_0 hm, ym_k0 hm, ym_l0 hm, ym_13 hm, ym_k13 hm, ym_l13 hm, e3, g0, hsw, wr]
      rw [hcast]
      exact l_le2 hm hw hR p0 p1 w0 w1 z1 z2 k cc (i + 1) (by omega) (by omega)
    · have hv : sTa σ p w (i : Int) = 0 := if_neg c
      simp (disch := first | omega | exact Nat.le_of_ble_eq_true rfl | (simp (disch := omega) only [ym_k hm, ym_0 hm, ym_k0 hm, ym_l0 hm, ym_13 hm, ym_k13 hm, ym_l13 hm, e3] <;> omega)) only [w_iconst, w_bipush, w_sipush, w_ldc_s, w_ldcw_s, w_ldc_i, w_ldcw_i, w_lconst, w_fconst, w_dconst, w_iload, w_iload_n, w_aload, w_aload_n, w_dload, w_istore, w_istore_n, w_astore_r, w_astore_s, w_astore_n_r, w_astore_n_s, w_dstore, w_iinc, w_iadd, w_isub, w_imul, w_iand, w_iushr, v_idiv, v_irem, w_ineg, w_i2l, w_i2c, w_i2f, w_i2d, v_f2d, w_lcmp, w_dcmp, v_fdiv, v_ddiv, w_dup_i, w_dup_r, w_dup2, w_dup_x2, w_pop_i, w_pop_r, w_goto, w_switch, w_ret_i, v_ret_z, v_ret_c, w_ret_a, w_ret_s, w_ret_f, w_ret_d, w_ret_v, v_iaload, v_baload, v_caload, v_laload, v_aaload, v_iastore, v_bastore, v_castore, v_lastore, v_aastore, v_alen, v_newa, v_anewa, w_new, w_throw, w_dead, v_getf_i, v_getf_z, v_getf_r, v_putf_i, v_putf_z, v_putf_r, w_call0, w_call1, w_callv1, w_calli1, w_callt1, w_call2, w_callv2, w_calli2, w_callt2, w_call3, w_callv3, w_calli3, w_call4, w_callv4, w_calli4, w_call5, w_callv5, w_calli5, w_call6, w_callv6, w_calli6, w_call7, w_callv7, w_calli7, w_call8, w_callv8, w_calli8, c_if0_eq_t, c_if0_eq_f, c_if2_eq_t, c_if2_eq_f, c_if0_ne_t, c_if0_ne_f, c_if2_ne_t, c_if2_ne_f, c_if0_lt_t, c_if0_lt_f, c_if2_lt_t, c_if2_lt_f, c_if0_ge_t, c_if0_ge_f, c_if2_ge_t, c_if2_ge_f, c_if0_gt_t, c_if0_gt_f, c_if2_gt_t, c_if2_gt_f, c_if0_le_t, c_if0_le_f, c_if2_le_t, c_if2_le_f, w_nil, uI_s, uA_r, uA_s, uD_d, mPut_0, mCl_own, mCv_go, mCl_min, mCl_cpy, mCv_obj, mAct_len, mAct_chrc, mAft_v, mAft_n, mAft_x, mGet_0, mSet_0, mGet_1, mSet_1, mGet_2, mSet_2, mGet_3, mSet_3, mGet_4, mSet_4, mGet_5, mSet_5, mGet_6, mSet_6, mGet_7, mSet_7, mGet_8, mSet_8, mGet_9, mSet_9, mGet_10, mSet_10, mGet_11, mSet_11, mGet_12, mSet_12, mGet_13, mSet_13, bk_Mo_nLeft_153, a_Mo_nLeft_194, bk_Mo_nLeft_194, a_Mo_nLeft_195, bk_Mo_nLeft_195, ym_k hm, ym_0 hm, ym_k0 hm, ym_l0 hm, ym_13 hm, ym_k13 hm, ym_l13 hm, e3, g0, hsw, wr]
      rw [hcast]
      exact l_le2 hm hw hR p0 p1 w0 w1 z1 z2 k cc (i + 1) (by omega) (by omega)
theorem p_nLeft {I : mN} {st : Int} (hm : yM S m) (hw : sWf σ) (hR : kRd I m σ) (p0 : 0 ≤ p) (p1 : p < 6) (w0 : σ 0 ≤ w) (w1 : w < 8) (hst : I (m + 18) (9 * p + w) = st) (s0 : -1000000 ≤ st) (s1 : st ≤ 1000) (hL : sLp σ p w = σ (115 + 8 * p + w) + σ (1019 + 8 * p + w) + st + (sm (σ 2).toNat (sTi σ p w) - sm (σ 2).toNat (sTo' σ p w)) - sm (σ 3).toNat (sTa σ p w)) (hst0 : -90000 ≤ st) (k : Q (.inl (some (mI (sLp σ p w)))) I S) : mRun (D + 2) 226 [mR m, mI p, mI w] I S Q := by
  have hI := hR.1
  have hb := hw.1
  have b1 := sm_bd (n := (σ 2).toNat) (f := sTi σ p w) (fun r r0 r1 => sTi_bd hw (by omega) w1 r0 (by omega))
  have b2 := sm_bd (n := (σ 2).toNat) (f := sTo' σ p w) (fun r r0 r1 => sTo_bd hw (by omega) w1 r0 (by omega))
  have hin := (hw.2.1 p p0 p1).2.2.2 0 w (by decide) (by decide) (by omega) w1
  rw [show 115 + 48 * 0 + 8 * p + w = 115 + 8 * p + w by omega] at hin
  have har := sWf_arr hw p0 p1 w0 w1
  have g1 : ∀ Q : mQ, mRun (D + 1) 207 [mR (m + 1), mI 0, mI p, mI w] I S Q = Q (.inl (some (mI (σ (115 + 8 * p + w))))) I S := fun Q => by
    rw [r_minflow D (ym_k0 hm) (ym_l0 hm) (show 115 + 48 * 0 + 8 * p + w = 115 + 8 * p + w by omega) (by omega) (by omega) (by omega) (by omega) (by omega) (by omega), hI]
  have g2 : ∀ Q : mQ, mRun (D + 1) 209 [mI p, mI w] I S Q = Q (.inl (some (mI (8 * p + w)))) I S := fun Q => r_nNode D (by omega) (by omega) (by omega) (by omega) Q
  have e1 : I (m + 1) (1019 + (8 * p + w)) = σ (1019 + 8 * p + w) := by rw [hI, show 1019 + (8 * p + w) = 1019 + 8 * p + w by omega]
  simp (disch := first | omega | exact Nat.le_of_ble_eq_true rfl | (simp (disch := omega) only [ym_k hm, ym_0 hm, ym_k0 hm, ym_l0 hm, ym_19 hm, ym_k19 hm, ym_l19 hm] <;> omega)) only [w_iconst, w_bipush, w_sipush, w_ldc_s, w_ldcw_s, w_ldc_i, w_ldcw_i, w_lconst, w_fconst, w_dconst, w_iload, w_iload_n, w_aload, w_aload_n, w_dload, w_istore, w_istore_n, w_astore_r, w_astore_s, w_astore_n_r, w_astore_n_s, w_dstore, w_iinc, w_iadd, w_isub, w_imul, w_iand, w_iushr, v_idiv, v_irem, w_ineg, w_i2l, w_i2c, w_i2f, w_i2d, v_f2d, w_lcmp, w_dcmp, v_fdiv, v_ddiv, w_dup_i, w_dup_r, w_dup2, w_dup_x2, w_pop_i, w_pop_r, w_goto, w_switch, w_ret_i, v_ret_z, v_ret_c, w_ret_a, w_ret_s, w_ret_f, w_ret_d, w_ret_v, v_iaload, v_baload, v_caload, v_laload, v_aaload, v_iastore, v_bastore, v_castore, v_lastore, v_aastore, v_alen, v_newa, v_anewa, w_new, w_throw, w_dead, v_getf_i, v_getf_z, v_getf_r, v_putf_i, v_putf_z, v_putf_r, w_call0, w_call1, w_callv1, w_calli1, w_callt1, w_call2, w_callv2, w_calli2, w_callt2, w_call3, w_callv3, w_calli3, w_call4, w_callv4, w_calli4, w_call5, w_callv5, w_calli5, w_call6, w_callv6, w_calli6, w_call7, w_callv7, w_calli7, w_call8, w_callv8, w_calli8, c_if0_eq_t, c_if0_eq_f, c_if2_eq_t, c_if2_eq_f, c_if0_ne_t, c_if0_ne_f, c_if2_ne_t, c_if2_ne_f, c_if0_lt_t, c_if0_lt_f, c_if2_lt_t, c_if2_lt_f, c_if0_ge_t, c_if0_ge_f, c_if2_ge_t, c_if2_ge_f, c_if0_gt_t, c_if0_gt_f, c_if2_gt_t, c_if2_gt_f, c_if0_le_t, c_if0_le_f, c_if2_le_t, c_if2_le_f, w_nil, uI_s, uA_r, uA_s, uD_d, mPut_0, mCl_own, mCv_go, mCl_min, mCl_cpy, mCv_obj, mAct_len, mAct_chrc, mAft_v, mAft_n, mAft_x, mGet_0, mSet_0, mGet_1, mSet_1, mGet_2, mSet_2, mGet_3, mSet_3, mGet_4, mSet_4, mGet_5, mSet_5, mGet_6, mSet_6, mGet_7, mSet_7, mGet_8, mSet_8, mGet_9, mSet_9, mGet_10, mSet_10, mGet_11, mSet_11, mGet_12, mSet_12, mGet_13, mSet_13, e_Mo_nLeft, a_Mo_nLeft_0, bk_Mo_nLeft_0, ym_k hm, ym_0 hm, ym_k0 hm, ym_l0 hm, ym_19 hm, ym_k19 hm, ym_l19 hm, g1, g2, e1, hst, wr]
  refine l_le1 (z0 := σ (115 + 8 * p + w) + σ (1019 + 8 * p + w) + st) D hm hw hR p0 p1 w0 w1 (by omega) (by omega) (σ 2).toNat 0 (by omega) (by show _ = _ + ((0 : Int) - 0); omega) (fun x5 => ?_)
  simp (disch := first | omega | exact Nat.le_of_ble_eq_true rfl) only [w_iconst, w_bipush, w_sipush, w_ldc_s, w_ldcw_s, w_ldc_i, w_ldcw_i, w_lconst, w_fconst, w_dconst, w_iload, w_iload_n, w_aload, w_aload_n, w_dload, w_istore, w_istore_n, w_astore_r, w_astore_s, w_astore_n_r, w_astore_n_s, w_dstore, w_iinc, w_iadd, w_isub, w_imul, w_iand, w_iushr, v_idiv, v_irem, w_ineg, w_i2l, w_i2c, w_i2f, w_i2d, v_f2d, w_lcmp, w_dcmp, v_fdiv, v_ddiv, w_dup_i, w_dup_r, w_dup2, w_dup_x2, w_pop_i, w_pop_r, w_goto, w_switch, w_ret_i, v_ret_z, v_ret_c, w_ret_a, w_ret_s, w_ret_f, w_ret_d, w_ret_v, v_iaload, v_baload, v_caload, v_laload, v_aaload, v_iastore, v_bastore, v_castore, v_lastore, v_aastore, v_alen, v_newa, v_anewa, w_new, w_throw, w_dead, v_getf_i, v_getf_z, v_getf_r, v_putf_i, v_putf_z, v_putf_r, w_call0, w_call1, w_callv1, w_calli1, w_callt1, w_call2, w_callv2, w_calli2, w_callt2, w_call3, w_callv3, w_calli3, w_call4, w_callv4, w_calli4, w_call5, w_callv5, w_calli5, w_call6, w_callv6, w_calli6, w_call7, w_callv7, w_calli7, w_call8, w_callv8, w_calli8, c_if0_eq_t, c_if0_eq_f, c_if2_eq_t, c_if2_eq_f, c_if0_ne_t, c_if0_ne_f, c_if2_ne_t, c_if2_ne_f, c_if0_lt_t, c_if0_lt_f, c_if2_lt_t, c_if2_lt_f, c_if0_ge_t, c_if0_ge_f, c_if2_ge_t, c_if2_ge_f, c_if0_gt_t, c_if0_gt_f, c_if2_gt_t, c_if2_gt_f, c_if0_le_t, c_if0_le_f, c_if2_le_t, c_if2_le_f, w_nil, uI_s, uA_r, uA_s, uD_d, mPut_0, mCl_own, mCv_go, mCl_min, mCl_cpy, mCv_obj, mAct_len, mAct_chrc, mAft_v, mAft_n, mAft_x, mGet_0, mSet_0, mGet_1, mSet_1, mGet_2, mSet_2, mGet_3, mSet_3, mGet_4, mSet_4, mGet_5, mSet_5, mGet_6, mSet_6, mGet_7, mSet_7, mGet_8, mSet_8, mGet_9, mSet_9, mGet_10, mSet_10, mGet_11, mSet_11, mGet_12, mSet_12, mGet_13, mSet_13, a_Mo_nLeft_150, bk_Mo_nLeft_150]
  rw [hL] at k
  exact l_le2 (z0 := σ (115 + 8 * p + w) + σ (1019 + 8 * p + w) + st + (sm (σ 2).toNat (sTi σ p w) - sm (σ 2).toNat (sTo' σ p w))) D hm hw hR p0 p1 (by omega) w1 (by omega) (by omega) k (σ 3).toNat 0 (by omega) (by show _ = _ - (0 : Int); omega)
end ML
