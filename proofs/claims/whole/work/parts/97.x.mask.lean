/-! What a decree is worth, by the model; what is asked. -/
theorem zEf_x {tk : Int → Int} {ln wk : Int} {fl : Int → Int → Int → Int} : ∀ (f c k : Nat) (v i u j : Int), zEf tk ln wk fl f c k v i = some (u, j) → zXf (zSg tk ln) tk wk fl f c k v i = some (some u, j)
  | 0, _, _, _, _, _, _, h => by cases h
  | f + 1, c, k, v, i, u, j, h => by
    have ih := zEf_x (tk := tk) (ln := ln) (wk := wk) (fl := fl) f
    have bd : ∀ (c k : Nat) (v i : Int) (g : Int × Int → Option (Int × Int)) (g' : Int → Int → Option (Option Int × Int)) (r : Int × Int), (zEf tk ln wk fl f c k v i).bind g = some r → (∀ p, g p = some r → g' p.1 p.2 = some (some r.1, r.2)) → xBd (zXf (zSg tk ln) tk wk fl f c k v i) g' = some (some r.1, r.2) := by
      intro c k v i g g' r hb hg
      cases hz : zEf tk ln wk fl f c k v i with
      | none => rw [hz] at hb; cases hb
      | some p =>
        rw [hz] at hb
        rw [ih c k v i p.1 p.2 hz]
        exact hg p hb
    have lt : ∀ x y : Int, zSg tk ln x = y → y ≠ 0 → ¬ 60 ≤ x := fun x y hx hy => by have := zSg_in hx hy; omega
    rw [zEf] at h
    rw [zXf]
    by_cases c0 : c = 0
    · rw [if_pos c0] at h ⊢
      by_cases k2 : zSg tk ln i = 2
      · rw [if_pos k2] at h ⊢
        cases h
        rw [if_pos (by have := lt i 2 k2 (by decide); omega)]
      · rw [if_neg k2] at h ⊢
        by_cases k17 : zSg tk ln i = 17
        · rw [if_pos k17] at h ⊢
          cases h
          rw [if_pos (by have := lt i 17 k17 (by decide); omega)]
        · rw [if_neg k17] at h ⊢
          by_cases hk : k = 0
          · rw [if_pos hk] at h; cases h
          · rw [if_neg hk] at h
            by_cases k4 : zSg tk ln i = 4
            · rw [if_pos k4] at h
              have hi := lt i 4 k4 (by decide)
              rw [if_neg (by omega), if_neg (fun h9 => by rcases h9 with h9 | h9 | h9; exact hk h9; exact h9 k4; exact hi h9)]
              refine bd _ _ _ _ _ _ (u, j) h (fun p hp => ?_)
              by_cases k5 : zSg tk ln p.2 = 5
              · rw [if_pos k5] at hp
                cases hp
                have hi := lt p.2 5 k5 (by decide)
                rw [if_neg (fun h9 => by rcases h9 with h9 | h9; exact h9 k5; exact hi h9)]
              · rw [if_neg k5] at hp; cases hp
            · rw [if_neg k4] at h
              by_cases k44 : zSg tk ln (i + 1) = 4
              · rw [if_pos k44] at h
                have hi1 := lt (i + 1) 4 k44 (by decide)
                have hw : 26 ≤ zSg tk ln i ∧ zSg tk ln i ≤ 29 := by
                  cases hz : zEf tk ln wk fl f 3 (k - 1) 0 (i + 2) with
                  | none => rw [hz] at h; cases h
                  | some p =>
                    rw [hz] at h
                    have h : (if zSg tk ln i = 26 ∧ zSg tk ln p.2 = 5 then some (fl p.1 wk wk, p.2 + 1) else if zSg tk ln i = 27 ∧ zSg tk ln p.2 = 5 then some (fl p.1 0 7, p.2 + 1) else if (zSg tk ln i = 28 ∨ zSg tk ln i = 29) ∧ zSg tk ln p.2 = 6 then _ else none) = some (u, j) := h
                    by_cases q1 : zSg tk ln i = 26 ∧ zSg tk ln p.2 = 5
                    · omega
                    · rw [if_neg q1] at h
                      by_cases q2 : zSg tk ln i = 27 ∧ zSg tk ln p.2 = 5
                      · omega
                      · rw [if_neg q2] at h
                        by_cases q3 : (zSg tk ln i = 28 ∨ zSg tk ln i = 29) ∧ zSg tk ln p.2 = 6
                        · omega
                        · rw [if_neg q3] at h; cases h
                rw [if_pos hw, if_neg (by omega), if_neg (fun h9 => by rcases h9 with h9 | h9 | h9; exact hk h9; exact h9 k44; exact hi1 h9)]
                refine bd _ _ _ _ _ _ (u, j) h (fun p hp => ?_)
                by_cases q1 : zSg tk ln i = 26 ∧ zSg tk ln p.2 = 5
                · rw [if_pos q1] at hp
                  cases hp
                  have hi := lt p.2 5 q1.2 (by decide)
                  rw [if_neg (by omega), if_neg (fun h9 => by rcases h9 with h9 | h9; exact h9 q1.2; exact hi h9), if_pos q1.1]
                · rw [if_neg q1] at hp
                  by_cases q2 : zSg tk ln i = 27 ∧ zSg tk ln p.2 = 5
                  · rw [if_pos q2] at hp
                    cases hp
                    have hi := lt p.2 5 q2.2 (by decide)
                    rw [if_neg (by omega), if_neg (fun h9 => by rcases h9 with h9 | h9; exact h9 q2.2; exact hi h9), if_neg (by omega)]
                  · rw [if_neg q2] at hp
                    by_cases q3 : (zSg tk ln i = 28 ∨ zSg tk ln i = 29) ∧ zSg tk ln p.2 = 6
                    · rw [if_pos q3] at hp
                      have hi := lt p.2 6 q3.2 (by decide)
                      rw [if_pos q3.1, if_neg (fun h9 => by rcases h9 with h9 | h9; exact h9 q3.2; exact hi h9)]
                      refine bd _ _ _ _ _ _ (u, j) hp (fun q hq => ?_)
                      by_cases k5 : zSg tk ln q.2 = 5
                      · rw [if_pos k5] at hq
                        cases hq
                        have hi := lt q.2 5 k5 (by decide)
                        rw [if_neg (fun h9 => by rcases h9 with h9 | h9; exact h9 k5; exact hi h9)]
                      · rw [if_neg k5] at hq; cases hq
                    · rw [if_neg q3] at hp; cases hp
              · rw [if_neg k44] at h; cases h
    · rw [if_neg c0] at h ⊢
      by_cases c1 : c = 1
      · rw [if_pos c1] at h ⊢
        exact bd _ _ _ _ _ _ (u, j) h (fun p hp => ih _ _ _ _ _ _ hp)
      · rw [if_neg c1] at h ⊢
        by_cases c4 : c = 4
        · rw [if_pos c4] at h ⊢
          by_cases k9 : zSg tk ln i = 9
          · rw [if_pos k9] at h
            rw [if_pos (Or.inl k9), if_neg (lt i 9 k9 (by decide))]
            refine bd _ _ _ _ _ _ (u, j) h (fun p hp => ?_)
            rw [if_pos k9]; exact ih _ _ _ _ _ _ hp
          · rw [if_neg k9] at h
            by_cases k10 : zSg tk ln i = 10
            · rw [if_pos k10] at h
              rw [if_pos (Or.inr k10), if_neg (lt i 10 k10 (by decide))]
              refine bd _ _ _ _ _ _ (u, j) h (fun p hp => ?_)
              rw [if_neg k9]; exact ih _ _ _ _ _ _ hp
            · rw [if_neg k10] at h
              cases h
              rw [if_neg (by omega)]
        · rw [if_neg c4] at h ⊢
          by_cases c2 : c = 2
          · rw [if_pos c2] at h ⊢
            exact bd _ _ _ _ _ _ (u, j) h (fun p hp => ih _ _ _ _ _ _ hp)
          · rw [if_neg c2] at h ⊢
            by_cases c5 : c = 5
            · rw [if_pos c5] at h ⊢
              by_cases k9 : zSg tk ln i = 7
              · rw [if_pos k9] at h
                rw [if_pos (Or.inl k9), if_neg (lt i 7 k9 (by decide))]
                refine bd _ _ _ _ _ _ (u, j) h (fun p hp => ?_)
                rw [if_pos k9]; exact ih _ _ _ _ _ _ hp
              · rw [if_neg k9] at h
                by_cases k10 : zSg tk ln i = 8
                · rw [if_pos k10] at h
                  rw [if_pos (Or.inr k10), if_neg (lt i 8 k10 (by decide))]
                  refine bd _ _ _ _ _ _ (u, j) h (fun p hp => ?_)
                  rw [if_neg k9]; exact ih _ _ _ _ _ _ hp
                · rw [if_neg k10] at h
                  cases h
                  rw [if_neg (by omega)]
            · rw [if_neg c5] at h ⊢
              by_cases k23 : zSg tk ln i = 23
              · rw [if_pos k23] at h ⊢
                by_cases hk : k = 0
                · rw [if_pos hk] at h; cases h
                · rw [if_neg hk] at h
                  have hi := lt i 23 k23 (by decide)
                  rw [if_neg (by omega)]
                  refine bd _ _ _ _ _ _ (u, j) h (fun l hl => ?_)
                  by_cases q1 : zSg tk ln l.2 = 11 ∨ zSg tk ln l.2 = 12 ∨ zSg tk ln l.2 = 13
                  · rw [if_pos q1] at hl
                    have hil := lt l.2 _ rfl (by omega)
                    rw [if_neg (by omega)]
                    refine bd _ _ _ _ _ _ (u, j) hl (fun r hr => ?_)
                    by_cases q2 : zSg tk ln r.2 = 24
                    · rw [if_pos q2] at hr
                      have hir := lt r.2 24 q2 (by decide)
                      rw [if_neg (by omega)]
                      refine bd _ _ _ _ _ _ (u, j) hr (fun y hy => ?_)
                      by_cases q3 : zSg tk ln y.2 = 25
                      · rw [if_pos q3] at hy
                        have hiy := lt y.2 25 q3 (by decide)
                        rw [if_neg (by omega)]
                        refine bd _ _ _ _ _ _ (u, j) hy (fun z hz => ?_)
                        cases hz
                        rfl
                      · rw [if_neg q3] at hy; cases hy
                    · rw [if_neg q2] at hr; cases hr
                  · rw [if_neg q1] at hl; cases hl
              · rw [if_neg k23] at h ⊢
                exact ih _ _ _ _ _ _ h
section VA
variable {m sA s wk : Int} {S : mH} {Q : mQ} (D : Nat) {σ : sT} {r : Int}
theorem cTk_sg {t : Int} (t0 : 0 ≤ t) (t1 : t ≤ 10017) : (cTk t < 0 ↔ 10000 ≤ t) ∧ (t < 10000 → cTk t = t) ∧ (10000 ≤ t → t < 10010 → cTk t = 9996 - t) ∧ (10010 ≤ t → t < 10013 → cTk t = 9987 - t) ∧ (t = 10013 → cTk t = -17) ∧ (10014 ≤ t → cTk t = 9988 - t) := by
  unfold cTk
  by_cases c1 : t < 10000
  · rw [if_pos c1]; omega
  · rw [if_neg c1]
    by_cases c2 : t < 10010
    · rw [if_pos c2]; omega
    · rw [if_neg c2]
      by_cases c3 : t < 10013
      · rw [if_pos c3]; omega
      · rw [if_neg c3]
        by_cases c4 : t = 10013
        · rw [if_pos c4]; omega
        · rw [if_neg c4]; omega
theorem mTk_sg (hw : sWf σ) (r0 : 0 ≤ r) (r1 : r < σ 3) {j : Int} (j0 : 0 ≤ j) (j1 : j < σ (266 + 76 * r)) : mTk (zSg (sTk σ r) (σ (266 + 76 * r))) (sTk σ r) j = σ (275 + 76 * r + j) ∧ σ (275 + 76 * r + j) ≠ -1 ∧ j < 60 := by
  obtain ⟨-, -, -, -, -, -, -, h8, h9, -, -⟩ := hw.2.2.2.2.1 r r0 r1
  obtain ⟨t0, t1⟩ := h9 j j0 (by omega)
  obtain ⟨g1, g2, g3, g4, g5, g6⟩ := cTk_sg t0 t1
  have e : zSg (sTk σ r) (σ (266 + 76 * r)) j = if cTk (σ (275 + 76 * r + j)) < 0 then -cTk (σ (275 + 76 * r + j)) else 2 := by
    unfold zSg
    rw [if_neg (by omega)]; rfl
  refine ⟨?_, by omega, by omega⟩
  unfold mTk
  rw [e]
  have eV : sTk σ r j = cTk (σ (275 + 76 * r + j)) := rfl
  by_cases c : 10000 ≤ σ (275 + 76 * r + j)
  · rw [if_pos (g1.mpr c)]
    by_cases c1 : σ (275 + 76 * r + j) < 10010
    · have := g3 c c1
      rw [if_neg (by omega), if_neg (by omega), if_pos (by omega)]; omega
    · by_cases c2 : σ (275 + 76 * r + j) < 10013
      · have := g4 (by omega) c2
        rw [if_neg (by omega), if_neg (by omega), if_neg (by omega), if_pos (by omega)]; omega
      · by_cases c3 : σ (275 + 76 * r + j) = 10013
        · have := g5 c3
          rw [if_neg (by omega), if_pos (by omega)]; omega
        · have := g6 (by omega)
          rw [if_neg (by omega), if_neg (by omega), if_neg (by omega), if_neg (by omega), if_pos (by omega)]; omega
  · rw [if_neg (fun h => c (g1.mp h)), if_pos rfl, eV]
    exact g2 (by omega)
theorem r_bgDec {I : mN} (hm : yM S m) (Q : mQ) : mRun (D + 2) 297 [mR m, mR sA, mI s, mI wk] I S Q = Q (.inl none) (aBg (mUp (mUp (mUp (mUp I m 46 s) m 47 wk) m 48 0) (m + 33) 0 0) m 0 0) (mSx S m sA) := by
  have hmz := yM_x (z := sA) hm
  have hb : ∀ Q : mQ, mRun (D + 1) 298 [mR m, mI 0] (mUp (mUp (mUp (mUp I m 46 s) m 47 wk) m 48 0) (m + 33) 0 0) (mSx S m sA) Q = Q (.inl none) (aBg (mUp (mUp (mUp (mUp I m 46 s) m 47 wk) m 48 0) (m + 33) 0 0) m 0 0) (mSx S m sA) := fun Q => r_bgSum D hmz (by rw [up_na (by omega), up_eq rfl rfl]) (by decide) (by decide) Q
  have eS : ((mUp S.1 m 45 sA, S.2) : mH) = mSx S m sA := rfl
  have h1 : (mSx S m sA).1 m 38 = m + 33 := ym_38 hmz
  have h2 : (mSx S m sA).2.1 (m + 33) = 50 := ym_k38 hmz
  have h3 : (mSx S m sA).2.2.1 (m + 33) = 9 := ym_l38 hmz
  have h4 : (mSx S m sA).2.1 m = 12 := ym_k hmz
  simp (disch := first | omega | exact Nat.le_of_ble_eq_true rfl | (simp (disch := omega) only [ym_k hm, eS, h1, h2, h3, h4] <;> omega)) only [w_iconst, w_bipush, w_sipush, w_ldc_s, w_ldcw_s, w_ldc_i, w_ldcw_i, w_lconst, w_fconst, w_dconst, w_iload, w_iload_n, w_aload, w_aload_n, w_dload, w_istore, w_istore_n, w_astore_r, w_astore_s, w_astore_n_r, w_astore_n_s, w_dstore, w_iinc, w_iadd, w_isub, w_imul, w_iand, w_iushr, v_idiv, v_irem, w_ineg, w_i2l, w_i2c, w_i2f, w_i2d, v_f2d, w_lcmp, w_dcmp, v_fdiv, v_ddiv, w_dup_i, w_dup_r, w_dup2, w_dup_x2, w_pop_i, w_pop_r, w_goto, w_switch, w_ret_i, v_ret_z, v_ret_c, w_ret_a, w_ret_s, w_ret_f, w_ret_d, w_ret_v, v_iaload, v_baload, v_caload, v_laload, v_aaload, v_iastore, v_bastore, v_castore, v_lastore, v_aastore, v_alen, v_newa, v_anewa, w_new, w_throw, w_dead, v_getf_i, v_getf_z, v_getf_r, v_putf_i, v_putf_z, v_putf_r, w_call0, w_call1, w_callv1, w_calli1, w_callt1, w_call2, w_callv2, w_calli2, w_callt2, w_call3, w_callv3, w_calli3, w_call4, w_callv4, w_calli4, w_call5, w_callv5, w_calli5, w_call6, w_callv6, w_calli6, w_call7, w_callv7, w_calli7, w_call8, w_callv8, w_calli8, c_if0_eq_t, c_if0_eq_f, c_if2_eq_t, c_if2_eq_f, c_if0_ne_t, c_if0_ne_f, c_if2_ne_t, c_if2_ne_f, c_if0_lt_t, c_if0_lt_f, c_if2_lt_t, c_if2_lt_f, c_if0_ge_t, c_if0_ge_f, c_if2_ge_t, c_if2_ge_f, c_if0_gt_t, c_if0_gt_f, c_if2_gt_t, c_if2_gt_f, c_if0_le_t, c_if0_le_f, c_if2_le_t, c_if2_le_f, w_nil, uI_s, uA_r, uA_s, uD_d, mPut_0, mCl_own, mCv_go, mCl_min, mCl_cpy, mCv_obj, mAct_len, mAct_chrc, mAft_v, mAft_n, mAft_x, mGet_0, mSet_0, mGet_1, mSet_1, mGet_2, mSet_2, mGet_3, mSet_3, mGet_4, mSet_4, mGet_5, mSet_5, mGet_6, mSet_6, mGet_7, mSet_7, mGet_8, mSet_8, mGet_9, mSet_9, mGet_10, mSet_10, mGet_11, mSet_11, mGet_12, mSet_12, mGet_13, mSet_13, e_Mo_beginsDecree, a_Mo_beginsDecree_0, bk_Mo_beginsDecree_0, ym_k hm, eS, h1, h2, h3, h4, hb]
def sTp (σ : sT) (r : Int) : Int → Int := fun j => if 0 ≤ j then sTk σ r j else 0
theorem sTp_e {j : Int} (h : 0 ≤ j) : sTp σ r j = sTk σ r j := if_pos h
theorem sTp_n {j : Int} (h : ¬ 0 ≤ j) : sTp σ r j = 0 := if_neg h
theorem zSg_p {ln j : Int} (h : 0 ≤ j) : zSg (sTp σ r) ln j = zSg (sTk σ r) ln j := zSg_cg (fun i i0 _ _ => sTp_e i0) h
theorem l_val {base : Int} (hm : yM S m) (hs : kSa S m sA) (hsm : sA ≠ m) (hsb : sA < m + 33 ∨ m + 39 < sA) (hw : sWf σ) (r0 : 0 ≤ r) (r1 : r < σ 3) (hbase : base = 259 + 76 * r) :
    ∀ (n : Nat) {I J : mN} {i : Int}, aSs S m (mTk (zSg (sTp σ r) (σ (266 + 76 * r))) (sTp σ r)) n I i J → 0 ≤ i → i + n = σ (266 + 76 * r) → I sA = σ →
    mAt (mRun (D + 7)) 312 71 ([some (mR m), some (mR sA), some (mI r), some (mI s), some (mI wk), some (mI base), some (mI 1), some (mI (σ (266 + 76 * r)))], [], J, S) Q →
    mAt (mRun (D + 7)) 312 24 ([some (mR m), some (mR sA), some (mI r), some (mI s), some (mI wk), some (mI base), some (mI 1), some (mI i)], [], I, S) Q
  | 0, I, J, i, h, i0, hi, hI, k => by
    obtain rfl : J = I := h
    obtain rfl : i = σ (266 + 76 * r) := by omega
    obtain ⟨hk, hl, -⟩ := hs
    have hb := hw.1.2.2.2
    have e1 : J sA (base + 7) = σ (266 + 76 * r) := by rw [hI, hbase, show 259 + 76 * r + 7 = 266 + 76 * r by omega]
    simp (disch := first | omega | exact Nat.le_of_ble_eq_true rfl | (simp (disch := omega) only [hk, hl, e1] <;> omega)) only [w_iconst, w_bipush, w_sipush, w_ldc_s, w_ldcw_s, w_ldc_i, w_ldcw_i, w_lconst, w_fconst, w_dconst, w_iload, w_iload_n, w_aload, w_aload_n, w_dload, w_istore, w_istore_n, w_astore_r, w_astore_s, w_astore_n_r, w_astore_n_s, w_dstore, w_iinc, w_iadd, w_isub, w_imul, w_iand, w_iushr, v_idiv, v_irem, w_ineg, w_i2l, w_i2c, w_i2f, w_i2d, v_f2d, w_lcmp, w_dcmp, v_fdiv, v_ddiv, w_dup_i, w_dup_r, w_dup2, w_dup_x2, w_pop_i, w_pop_r, w_goto, w_switch, w_ret_i, v_ret_z, v_ret_c, w_ret_a, w_ret_s, w_ret_f, w_ret_d, w_ret_v, v_iaload, v_baload, v_caload, v_laload, v_aaload, v_iastore, v_bastore, v_castore, v_lastore, v_aastore, v_alen, v_newa, v_anewa, w_new, w_throw, w_dead, v_getf_i, v_getf_z, v_getf_r, v_putf_i, v_putf_z, v_putf_r, w_call0, w_call1, w_callv1, w_calli1, w_callt1, w_call2, w_callv2, w_calli2, w_callt2, w_call3, w_callv3, w_calli3, w_call4, w_callv4, w_calli4, w_call5, w_callv5, w_calli5, w_call6, w_callv6, w_calli6, w_call7, w_callv7, w_calli7, w_call8, w_callv8, w_calli8, c_if0_eq_t, c_if0_eq_f, c_if2_eq_t, c_if2_eq_f, c_if0_ne_t, c_if0_ne_f, c_if2_ne_t, c_if2_ne_f, c_if0_lt_t, c_if0_lt_f, c_if2_lt_t, c_if2_lt_f, c_if0_ge_t, c_if0_ge_f, c_if2_ge_t, c_if2_ge_f, c_if0_gt_t, c_if0_gt_f, c_if2_gt_t, c_if2_gt_f, c_if0_le_t, c_if0_le_f, c_if2_le_t, c_if2_le_f, w_nil, uI_s, uA_r, uA_s, uD_d, mPut_0, mCl_own, mCv_go, mCl_min, mCl_cpy, mCv_obj, mAct_len, mAct_chrc, mAft_v, mAft_n, mAft_x, mGet_0, mSet_0, mGet_1, mSet_1, mGet_2, mSet_2, mGet_3, mSet_3, mGet_4, mSet_4, mGet_5, mSet_5, mGet_6, mSet_6, mGet_7, mSet_7, mGet_8, mSet_8, mGet_9, mSet_9, mGet_10, mSet_10, mGet_11, mSet_11, mGet_12, mSet_12, mGet_13, mSet_13, a_Mo_value_24, bk_Mo_value_24, hk, hl, e1, wr]
    exact k
  | n + 1, I, J, i, ⟨h1, h2, I1, h3, h4⟩, i0, hi, hI, k => by
    obtain ⟨hk, hl, hsa⟩ := id hs
    have hb := hw.1.2.2.2
    obtain ⟨m1', m2, m3⟩ := mTk_sg hw r0 r1 i0 (by omega)
    have m1 : mTk (zSg (sTp σ r) (σ (266 + 76 * r))) (sTp σ r) i = σ (275 + 76 * r + i) := by
      unfold mTk at m1' ⊢
      rw [zSg_p i0, sTp_e i0]; exact m1'
    have e1 : I sA (base + 7) = σ (266 + 76 * r) := by rw [hI, hbase, show 259 + 76 * r + 7 = 266 + 76 * r by omega]
    have e2 : I sA (base + 16 + i) = σ (275 + 76 * r + i) := by rw [hI, hbase, show 259 + 76 * r + 16 + i = 275 + 76 * r + i by omega]
    have ht : ∀ Q : mQ, mRun (D + 7) 305 [mR m, mI (σ (275 + 76 * r + i))] I S Q = Q (.inl (some (mI 1))) I1 S := fun Q => by rw [← m1]; exact aSt_run h3 D Q
    have hlt : i < σ (266 + 76 * r) := by omega
    rw [a_Mo_value_24]
    simp (disch := first | omega | exact Nat.le_of_ble_eq_true rfl | (simp (disch := omega) only [ym_k hm, hk, hl, e1, e2] <;> omega)) only [w_iconst, w_bipush, w_sipush, w_ldc_s, w_ldcw_s, w_ldc_i, w_ldcw_i, w_lconst, w_fconst, w_dconst, w_iload, w_iload_n, w_aload, w_aload_n, w_dload, w_istore, w_istore_n, w_astore_r, w_astore_s, w_astore_n_r, w_astore_n_s, w_dstore, w_iinc, w_iadd, w_isub, w_imul, w_iand, w_iushr, v_idiv, v_irem, w_ineg, w_i2l, w_i2c, w_i2f, w_i2d, v_f2d, w_lcmp, w_dcmp, v_fdiv, v_ddiv, w_dup_i, w_dup_r, w_dup2, w_dup_x2, w_pop_i, w_pop_r, w_goto, w_switch, w_ret_i, v_ret_z, v_ret_c, w_ret_a, w_ret_s, w_ret_f, w_ret_d, w_ret_v, v_iaload, v_baload, v_caload, v_laload, v_aaload, v_iastore, v_bastore, v_castore, v_lastore, v_aastore, v_alen, v_newa, v_anewa, w_new, w_throw, w_dead, v_getf_i, v_getf_z, v_getf_r, v_putf_i, v_putf_z, v_putf_r, w_call0, w_call1, w_callv1, w_calli1, w_callt1, w_call2, w_callv2, w_calli2, w_callt2, w_call3, w_callv3, w_calli3, w_call4, w_callv4, w_calli4, w_call5, w_callv5, w_calli5, w_call6, w_callv6, w_calli6, w_call7, w_callv7, w_calli7, w_call8, w_callv8, w_calli8, c_if0_eq_t, c_if0_eq_f, c_if2_eq_t, c_if2_eq_f, c_if0_ne_t, c_if0_ne_f, c_if2_ne_t, c_if2_ne_f, c_if0_lt_t, c_if0_lt_f, c_if2_lt_t, c_if2_lt_f, c_if0_ge_t, c_if0_ge_f, c_if2_ge_t, c_if2_ge_f, c_if0_gt_t, c_if0_gt_f, c_if2_gt_t, c_if2_gt_f, c_if0_le_t, c_if0_le_f, c_if2_le_t, c_if2_le_f, w_nil, uI_s, uA_r, uA_s, uD_d, mPut_0, mCl_own, mCv_go, mCl_min, mCl_cpy, mCv_obj, mAct_len, mAct_chrc, mAft_v, mAft_n, mAft_x, mGet_0, mSet_0, mGet_1, mSet_1, mGet_2, mSet_2, mGet_3, mSet_3, mGet_4, mSet_4, mGet_5, mSet_5, mGet_6, mSet_6, mGet_7, mSet_7, mGet_8, mSet_8, mGet_9, mSet_9, mGet_10, mSet_10, mGet_11, mSet_11, mGet_12, mSet_12, mGet_13, mSet_13, bk_Mo_value_24, a_Mo_value_63, bk_Mo_value_63, ym_k hm, hk, hl, e1, e2, ht, wr]
    exact l_val hm hs hsm hsb hw r0 r1 hbase n h4 (by omega) (by omega) (by rw [h3.2.1 sA hsm hsb]; exact hI) k
theorem sFl_in (hw : sWf σ) (s0 : 0 ≤ s) (s1 : s < 3) (p x y : Int) : inR (sFl σ s p x y) := by
  unfold sFl
  split
  · rename_i hc
    have hb := hw.1.2.1
    have := sm_bd (n := 8) (f := fun t => if x ≤ t ∧ t ≤ y then σ (115 + 48 * s + 8 * p + t) else 0) (fun t t0 t1 => by
      have := (hw.2.1 p hc.1 (by omega)).2.2.2 s t s0 s1 t0 (by omega)
      show 0 ≤ (if _ then _ else (0 : Int)) ∧ (if _ then _ else (0 : Int)) ≤ 1000
      split <;> omega)
    unfold inR
    omega
  · decide
theorem p_value {I : mN} {z : Int} (hm : yM S m) (hs : kSa S m sA) (hsm : sA ≠ m) (hsb : sA < m + 33 ∨ m + 39 < sA) (hw : sWf σ) (hI : I sA = σ) (s0 : 0 ≤ s) (s1 : s < 3) (r0 : 0 ≤ r) (r1 : r < σ 3) (w0 : 0 ≤ wk) (w1 : wk < 8) (hne : σ (266 + 76 * r) ≠ 0) (k : ∀ I' : mN, kFk I I' m → Q (.inl (some (mI (sVl σ s r wk)))) I' (mSx S m sA)) : mRun (D + 8) 312 [mR m, mR sA, mI r, mI s, mI wk] I (mSx S m z) Q := by
  have hb := hw.1
  have hR := hw.2.2.2.2.1 r r0 r1
  obtain ⟨-, -, -, -, -, -, -, hln, htok, hdc, -⟩ := hR
  have hmz := yM_x (z := z) hm
  have hma := yM_x (z := sA) hm
  obtain ⟨f, hf⟩ := sVl_spec (s := s) (w := wk) (hdc hne)
  rw [zEf_cg (tk' := sTp σ r) (fl' := sFl σ s) (fun j j0 _ _ => (sTp_e j0).symm) (fun p => ⟨rfl, rfl⟩) f 3 8 0 0 (Int.le_refl 0)] at hf
  have hx := zEf_x f 3 8 0 0 _ _ hf
  have hbg : ∀ Q : mQ, mRun (D + 7) 297 [mR m, mR sA, mI s, mI wk] I (mSx S m z) Q = Q (.inl none) (aBg (mUp (mUp (mUp (mUp I m 46 s) m 47 wk) m 48 0) (m + 33) 0 0) m 0 0) (mSx S m sA) := fun Q => by rw [r_bgDec (D + 5) hmz, mSx_x]
  have hkf : kFk I (aBg (mUp (mUp (mUp (mUp I m 46 s) m 47 wk) m 48 0) (m + 33) 0 0) m 0 0) m := by
    refine ⟨fun a a1 a2 => ?_, fun k hk => ?_⟩
    · rw [aBg_k.1 a a1 a2, up_fa (by omega), up_fa a1, up_fa a1, up_fa a1]
    · rw [aBg_k.2 k (by omega), up_na (by omega), up_nk (by omega), up_nk (by omega), up_nk (by omega)]
  have hc46 : (aBg (mUp (mUp (mUp (mUp I m 46 s) m 47 wk) m 48 0) (m + 33) 0 0) m 0 0) m 46 = s := by unfold aBg; simp (disch := first | omega | exact Nat.le_of_ble_eq_true rfl) only [ua_eq, ua_ne, up_eq, up_fa, up_nk, tk_in, tk_out]
  have hc47 : (aBg (mUp (mUp (mUp (mUp I m 46 s) m 47 wk) m 48 0) (m + 33) 0 0) m 0 0) m 47 = wk := by unfold aBg; simp (disch := first | omega | exact Nat.le_of_ble_eq_true rfl) only [ua_eq, ua_ne, up_eq, up_fa, up_nk, tk_in, tk_out]
  have hc48 : (aBg (mUp (mUp (mUp (mUp I m 46 s) m 47 wk) m 48 0) (m + 33) 0 0) m 0 0) m 48 = 0 := by unfold aBg; simp (disch := first | omega | exact Nat.le_of_ble_eq_true rfl) only [ua_eq, ua_ne, up_eq, up_fa, up_nk, tk_in, tk_out]
  have hc49 : (aBg (mUp (mUp (mUp (mUp I m 46 s) m 47 wk) m 48 0) (m + 33) 0 0) m 0 0) m 49 = 0 := by unfold aBg; simp (disch := first | omega | exact Nat.le_of_ble_eq_true rfl) only [ua_eq, ua_ne, up_eq, up_fa, up_nk, tk_in, tk_out]
  have hc33 : (aBg (mUp (mUp (mUp (mUp I m 46 s) m 47 wk) m 48 0) (m + 33) 0 0) m 0 0) (m + 33) 0 = 0 := by unfold aBg; simp (disch := first | omega | exact Nat.le_of_ble_eq_true rfl) only [ua_eq, ua_ne, up_eq, up_fa, up_nk, tk_in, tk_out]
  have hc36 : (aBg (mUp (mUp (mUp (mUp I m 46 s) m 47 wk) m 48 0) (m + 33) 0 0) m 0 0) (m + 36) 0 = -1 := by unfold aBg; simp (disch := first | omega | exact Nat.le_of_ble_eq_true rfl) only [ua_eq, ua_ne, up_eq, up_fa, up_nk, tk_in, tk_out]
  have hc34 : (aBg (mUp (mUp (mUp (mUp I m 46 s) m 47 wk) m 48 0) (m + 33) 0 0) m 0 0) (m + 34) 0 = 0 := by unfold aBg; simp (disch := first | omega | exact Nat.le_of_ble_eq_true rfl) only [ua_eq, ua_ne, up_eq, up_fa, up_nk, tk_in, tk_out]
  have hc39 : (aBg (mUp (mUp (mUp (mUp I m 46 s) m 47 wk) m 48 0) (m + 33) 0 0) m 0 0) (m + 39) 0 = 0 := by unfold aBg; simp (disch := first | omega | exact Nat.le_of_ble_eq_true rfl) only [ua_eq, ua_ne, up_eq, up_fa, up_nk, tk_in, tk_out]
  generalize aBg (mUp (mUp (mUp (mUp I m 46 s) m 47 wk) m 48 0) (m + 33) 0 0) m 0 0 = I0 at hbg hkf hc46 hc47 hc48 hc49 hc33 hc36 hc34 hc39
  have hI0 : I0 sA = σ := by rw [hkf.1 sA hsm hsb]; exact hI
  obtain ⟨n, J, a1, a2, a3, -⟩ := sim_all (S := mSx S m sA) (sA := sA) (s := s) (wk := wk) (σ := σ) hma hsm hsb (up_eq rfl rfl) hs.1 hs.2.1 hb.2.1 (fun s p j q0 q1 q2 q3 q4 q5 => by
    have := (hw.2.1 p q2 q3).2.2.2 s j q0 q1 q4 q5
    omega) s0 s1 w0 w1 (K := zSg (sTp σ r) (σ (266 + 76 * r))) (V := sTp σ r) (fun j hj => by
    have hin := zSg_in hj (by decide)
    by_cases j0 : 0 ≤ j
    · rw [zSg_p j0] at hj
      rw [sTp_e j0]
      unfold zSg at hj
      rw [if_neg (by omega)] at hj
      obtain ⟨t0, t1⟩ := htok j j0 hin.2
      obtain ⟨g1, g2, g3, g4, g5, g6⟩ := cTk_sg t0 t1
      have eV : sTk σ r j = cTk (σ (275 + 76 * r + j)) := rfl
      rw [eV] at hj ⊢
      by_cases c : 10000 ≤ σ (275 + 76 * r + j)
      · exfalso
        rw [if_pos (g1.mpr c)] at hj
        by_cases c1 : σ (275 + 76 * r + j) < 10010
        · have := g3 c c1; omega
        · by_cases c2 : σ (275 + 76 * r + j) < 10013
          · have := g4 (by omega) c2; omega
          · by_cases c3 : σ (275 + 76 * r + j) = 10013
            · have := g5 c3; omega
            · have := g6 (by omega); omega
      · rw [g2 (by omega)]; omega
    · rw [sTp_n j0]; decide) (sFl_in hw s0 s1) f 3 8 0 0 I0 0 (some (sVl σ s r wk)) (σ (266 + 76 * r)) hx (by decide) (by decide) (by decide) ⟨hc46, hc47, hI0⟩ (aPre_3.mpr ⟨hc48, hc49, hc36, hc34, hc39⟩)
  obtain ⟨⟨o1, o2, o3, ⟨o4, o5, o6⟩, on, o7⟩, o8⟩ := aOk_3.mp (a3 _ rfl)
  simp (disch := first | omega | exact Nat.le_of_ble_eq_true rfl | (simp (disch := omega) only [ym_k hmz] <;> omega)) only [w_iconst, w_bipush, w_sipush, w_ldc_s, w_ldcw_s, w_ldc_i, w_ldcw_i, w_lconst, w_fconst, w_dconst, w_iload, w_iload_n, w_aload, w_aload_n, w_dload, w_istore, w_istore_n, w_astore_r, w_astore_s, w_astore_n_r, w_astore_n_s, w_dstore, w_iinc, w_iadd, w_isub, w_imul, w_iand, w_iushr, v_idiv, v_irem, w_ineg, w_i2l, w_i2c, w_i2f, w_i2d, v_f2d, w_lcmp, w_dcmp, v_fdiv, v_ddiv, w_dup_i, w_dup_r, w_dup2, w_dup_x2, w_pop_i, w_pop_r, w_goto, w_switch, w_ret_i, v_ret_z, v_ret_c, w_ret_a, w_ret_s, w_ret_f, w_ret_d, w_ret_v, v_iaload, v_baload, v_caload, v_laload, v_aaload, v_iastore, v_bastore, v_castore, v_lastore, v_aastore, v_alen, v_newa, v_anewa, w_new, w_throw, w_dead, v_getf_i, v_getf_z, v_getf_r, v_putf_i, v_putf_z, v_putf_r, w_call0, w_call1, w_callv1, w_calli1, w_callt1, w_call2, w_callv2, w_calli2, w_callt2, w_call3, w_callv3, w_calli3, w_call4, w_callv4, w_calli4, w_call5, w_callv5, w_calli5, w_call6, w_callv6, w_calli6, w_call7, w_callv7, w_calli7, w_call8, w_callv8, w_calli8, c_if0_eq_t, c_if0_eq_f, c_if2_eq_t, c_if2_eq_f, c_if0_ne_t, c_if0_ne_f, c_if2_ne_t, c_if2_ne_f, c_if0_lt_t, c_if0_lt_f, c_if2_lt_t, c_if2_lt_f, c_if0_ge_t, c_if0_ge_f, c_if2_ge_t, c_if2_ge_f, c_if0_gt_t, c_if0_gt_f, c_if2_gt_t, c_if2_gt_f, c_if0_le_t, c_if0_le_f, c_if2_le_t, c_if2_le_f, w_nil, uI_s, uA_r, uA_s, uD_d, mPut_0, mCl_own, mCv_go, mCl_min, mCl_cpy, mCv_obj, mAct_len, mAct_chrc, mAft_v, mAft_n, mAft_x, mGet_0, mSet_0, mGet_1, mSet_1, mGet_2, mSet_2, mGet_3, mSet_3, mGet_4, mSet_4, mGet_5, mSet_5, mGet_6, mSet_6, mGet_7, mSet_7, mGet_8, mSet_8, mGet_9, mSet_9, mGet_10, mSet_10, mGet_11, mSet_11, mGet_12, mSet_12, mGet_13, mSet_13, e_Mo_value, a_Mo_value_0, bk_Mo_value_0, ym_k hmz, hbg, wr]
  refine l_val D hma hs hsm hsb hw r0 r1 rfl n a1 (Int.le_refl 0) a2 hI0 ?_
  have he : ∀ Q : mQ, mRun (D + 7) 311 [mR m] J (mSx S m sA) Q = Q (.inl (some (mI 1))) (aCl J m 0 (sVl σ s r wk)) (mSx S m sA) := fun Q => by
    rw [en_3 (D + 4) hma o1 o7 (Int.le_refl 0) o2 (by rw [o4, hc33]; decide), if_pos rfl]
  have e51 : (aCl J m 0 (sVl σ s r wk)) m 51 = sVl σ s r wk := aCl_51
  simp (disch := first | omega | exact Nat.le_of_ble_eq_true rfl | (simp (disch := omega) only [ym_k hma] <;> omega)) only [w_iconst, w_bipush, w_sipush, w_ldc_s, w_ldcw_s, w_ldc_i, w_ldcw_i, w_lconst, w_fconst, w_dconst, w_iload, w_iload_n, w_aload, w_aload_n, w_dload, w_istore, w_istore_n, w_astore_r, w_astore_s, w_astore_n_r, w_astore_n_s, w_dstore, w_iinc, w_iadd, w_isub, w_imul, w_iand, w_iushr, v_idiv, v_irem, w_ineg, w_i2l, w_i2c, w_i2f, w_i2d, v_f2d, w_lcmp, w_dcmp, v_fdiv, v_ddiv, w_dup_i, w_dup_r, w_dup2, w_dup_x2, w_pop_i, w_pop_r, w_goto, w_switch, w_ret_i, v_ret_z, v_ret_c, w_ret_a, w_ret_s, w_ret_f, w_ret_d, w_ret_v, v_iaload, v_baload, v_caload, v_laload, v_aaload, v_iastore, v_bastore, v_castore, v_lastore, v_aastore, v_alen, v_newa, v_anewa, w_new, w_throw, w_dead, v_getf_i, v_getf_z, v_getf_r, v_putf_i, v_putf_z, v_putf_r, w_call0, w_call1, w_callv1, w_calli1, w_callt1, w_call2, w_callv2, w_calli2, w_callt2, w_call3, w_callv3, w_calli3, w_call4, w_callv4, w_calli4, w_call5, w_callv5, w_calli5, w_call6, w_callv6, w_calli6, w_call7, w_callv7, w_calli7, w_call8, w_callv8, w_calli8, c_if0_eq_t, c_if0_eq_f, c_if2_eq_t, c_if2_eq_f, c_if0_ne_t, c_if0_ne_f, c_if2_ne_t, c_if2_ne_f, c_if0_lt_t, c_if0_lt_f, c_if2_lt_t, c_if2_lt_f, c_if0_ge_t, c_if0_ge_f, c_if2_ge_t, c_if2_ge_f, c_if0_gt_t, c_if0_gt_f, c_if2_gt_t, c_if2_gt_f, c_if0_le_t, c_if0_le_f, c_if2_le_t, c_if2_le_f, w_nil, uI_s, uA_r, uA_s, uD_d, mPut_0, mCl_own, mCv_go, mCl_min, mCl_cpy, mCv_obj, mAct_len, mAct_chrc, mAft_v, mAft_n, mAft_x, mGet_0, mSet_0, mGet_1, mSet_1, mGet_2, mSet_2, mGet_3, mSet_3, mGet_4, mSet_4, mGet_5, mSet_5, mGet_6, mSet_6, mGet_7, mSet_7, mGet_8, mSet_8, mGet_9, mSet_9, mGet_10, mSet_10, mGet_11, mSet_11, mGet_12, mSet_12, mGet_13, mSet_13, a_Mo_value_71, bk_Mo_value_71, a_Mo_value_91, bk_Mo_value_91, ym_k hma, he, e51]
  have hk1 := aSs_k a1
  refine k _ ⟨fun a b1 b2 => ?_, fun j hj => ?_⟩
  · rw [aCl_o b1, hk1.1 a b1 b2]; exact hkf.1 a b1 b2
  · rw [aCl_k (by omega) (by omega) (by omega), hk1.2 j (by omega)]; exact hkf.2 j hj
theorem kAsk_all (hm : yM S m) (hs : kSa S m sA) (hsm : sA ≠ m) (hsb : sA < m + 33 ∨ m + 39 < sA) (hw : sWf σ) (s0 : 0 ≤ s) (s1 : s < 3) : kAsk S (D + 9) m sA s σ := by
  intro I z r w hI r0 r1 w0 w1 Q k
  have hb := hw.1
  obtain ⟨hk, hl, -⟩ := id hs
  have hmz := yM_x (z := z) hm
  have hkz : (mSx S m z).2.1 sA = 50 := hk
  have hlz : (mSx S m z).2.2.1 sA = 1395 := hl
  obtain ⟨-, -, -, -, -, -, -, -, -, -, hAs⟩ := hw.2.2.2.2.1 r r0 r1
  have e0 : I sA 0 = σ 0 := by rw [hI]
  have hk0 : kFk I I m := ⟨fun _ _ _ => rfl, fun _ _ => rfl⟩
  by_cases c0 : w < σ 0
  · have e1 : I sA (1147 + 8 * r + w) = σ (1147 + 8 * r + w) := by rw [hI]
    have hv : sAk σ s r w = σ (1147 + 8 * r + w) := if_pos c0
    have k' := k I z hk0
    rw [hv] at k'
    simp (disch := first | omega | exact Nat.le_of_ble_eq_true rfl | (simp (disch := omega) only [hkz, hlz] <;> omega)) only [w_iconst, w_bipush, w_sipush, w_ldc_s, w_ldcw_s, w_ldc_i, w_ldcw_i, w_lconst, w_fconst, w_dconst, w_iload, w_iload_n, w_aload, w_aload_n, w_dload, w_istore, w_istore_n, w_astore_r, w_astore_s, w_astore_n_r, w_astore_n_s, w_dstore, w_iinc, w_iadd, w_isub, w_imul, w_iand, w_iushr, v_idiv, v_irem, w_ineg, w_i2l, w_i2c, w_i2f, w_i2d, v_f2d, w_lcmp, w_dcmp, v_fdiv, v_ddiv, w_dup_i, w_dup_r, w_dup2, w_dup_x2, w_pop_i, w_pop_r, w_goto, w_switch, w_ret_i, v_ret_z, v_ret_c, w_ret_a, w_ret_s, w_ret_f, w_ret_d, w_ret_v, v_iaload, v_baload, v_caload, v_laload, v_aaload, v_iastore, v_bastore, v_castore, v_lastore, v_aastore, v_alen, v_newa, v_anewa, w_new, w_throw, w_dead, v_getf_i, v_getf_z, v_getf_r, v_putf_i, v_putf_z, v_putf_r, w_call0, w_call1, w_callv1, w_calli1, w_callt1, w_call2, w_callv2, w_calli2, w_callt2, w_call3, w_callv3, w_calli3, w_call4, w_callv4, w_calli4, w_call5, w_callv5, w_calli5, w_call6, w_callv6, w_calli6, w_call7, w_callv7, w_calli7, w_call8, w_callv8, w_calli8, c_if0_eq_t, c_if0_eq_f, c_if2_eq_t, c_if2_eq_f, c_if0_ne_t, c_if0_ne_f, c_if2_ne_t, c_if2_ne_f, c_if0_lt_t, c_if0_lt_f, c_if2_lt_t, c_if2_lt_f, c_if0_ge_t, c_if0_ge_f, c_if2_ge_t, c_if2_ge_f, c_if0_gt_t, c_if0_gt_f, c_if2_gt_t, c_if2_gt_f, c_if0_le_t, c_if0_le_f, c_if2_le_t, c_if2_le_f, w_nil, uI_s, uA_r, uA_s, uD_d, mPut_0, mCl_own, mCv_go, mCl_min, mCl_cpy, mCv_obj, mAct_len, mAct_chrc, mAft_v, mAft_n, mAft_x, mGet_0, mSet_0, mGet_1, mSet_1, mGet_2, mSet_2, mGet_3, mSet_3, mGet_4, mSet_4, mGet_5, mSet_5, mGet_6, mSet_6, mGet_7, mSet_7, mGet_8, mSet_8, mGet_9, mSet_9, mGet_10, mSet_10, mGet_11, mSet_11, mGet_12, mSet_12, mGet_13, mSet_13, e_Mo_asks, a_Mo_asks_0, bk_Mo_asks_0, hkz, hlz, e0, e1, wr]
    exact k'
  · have hv : sAk σ s r w = zAkd (σ (265 + 76 * r)) (σ (262 + 76 * r)) (σ (266 + 76 * r)) (σ (267 + 76 * r + w)) (sVl σ s r w) := if_neg c0
    rw [hv] at k
    unfold zAkd at k
    have hrc : ∀ (J : mN) (Q : mQ), mRun (D + 8) 267 [mI r] J (mSx S m z) Q = Q (.inl (some (mI (259 + 76 * r)))) J (mSx S m z) := fun J Q => by
      simp (disch := first | omega | exact Nat.le_of_ble_eq_true rfl) only [w_iconst, w_bipush, w_sipush, w_ldc_s, w_ldcw_s, w_ldc_i, w_ldcw_i, w_lconst, w_fconst, w_dconst, w_iload, w_iload_n, w_aload, w_aload_n, w_dload, w_istore, w_istore_n, w_astore_r, w_astore_s, w_astore_n_r, w_astore_n_s, w_dstore, w_iinc, w_iadd, w_isub, w_imul, w_iand, w_iushr, v_idiv, v_irem, w_ineg, w_i2l, w_i2c, w_i2f, w_i2d, v_f2d, w_lcmp, w_dcmp, v_fdiv, v_ddiv, w_dup_i, w_dup_r, w_dup2, w_dup_x2, w_pop_i, w_pop_r, w_goto, w_switch, w_ret_i, v_ret_z, v_ret_c, w_ret_a, w_ret_s, w_ret_f, w_ret_d, w_ret_v, v_iaload, v_baload, v_caload, v_laload, v_aaload, v_iastore, v_bastore, v_castore, v_lastore, v_aastore, v_alen, v_newa, v_anewa, w_new, w_throw, w_dead, v_getf_i, v_getf_z, v_getf_r, v_putf_i, v_putf_z, v_putf_r, w_call0, w_call1, w_callv1, w_calli1, w_callt1, w_call2, w_callv2, w_calli2, w_callt2, w_call3, w_callv3, w_calli3, w_call4, w_callv4, w_calli4, w_call5, w_callv5, w_calli5, w_call6, w_callv6, w_calli6, w_call7, w_callv7, w_calli7, w_call8, w_callv8, w_calli8, c_if0_eq_t, c_if0_eq_f, c_if2_eq_t, c_if2_eq_f, c_if0_ne_t, c_if0_ne_f, c_if2_ne_t, c_if2_ne_f, c_if0_lt_t, c_if0_lt_f, c_if2_lt_t, c_if2_lt_f, c_if0_ge_t, c_if0_ge_f, c_if2_ge_t, c_if2_ge_f, c_if0_gt_t, c_if0_gt_f, c_if2_gt_t, c_if2_gt_f, c_if0_le_t, c_if0_le_f, c_if2_le_t, c_if2_le_f, w_nil, uI_s, uA_r, uA_s, uD_d, mPut_0, mCl_own, mCv_go, mCl_min, mCl_cpy, mCv_obj, mAct_len, mAct_chrc, mAft_v, mAft_n, mAft_x, mGet_0, mSet_0, mGet_1, mSet_1, mGet_2, mSet_2, mGet_3, mSet_3, mGet_4, mSet_4, mGet_5, mSet_5, mGet_6, mSet_6, mGet_7, mSet_7, mGet_8, mSet_8, mGet_9, mSet_9, mGet_10, mSet_10, mGet_11, mSet_11, mGet_12, mSet_12, mGet_13, mSet_13, e_Mo_rightCell, a_Mo_rightCell_0, bk_Mo_rightCell_0, wr]
    have e6 : I sA (259 + 76 * r + 6) = σ (265 + 76 * r) := by rw [hI, show 259 + 76 * r + 6 = 265 + 76 * r by omega]
    have e3 : I sA (259 + 76 * r + 3) = σ (262 + 76 * r) := by rw [hI, show 259 + 76 * r + 3 = 262 + 76 * r by omega]
    have e7 : I sA (259 + 76 * r + 7) = σ (266 + 76 * r) := by rw [hI, show 259 + 76 * r + 7 = 266 + 76 * r by omega]
    have e8 : I sA (259 + 76 * r + 8 + w) = σ (267 + 76 * r + w) := by rw [hI, show 259 + 76 * r + 8 + w = 267 + 76 * r + w by omega]
    have hask := (hAs w w0 w1).1
    by_cases c1 : σ (265 + 76 * r) = 0
    · by_cases c2 : σ (262 + 76 * r) < 0
      · rw [if_pos (Or.inr c2)] at k
        have k' := k I z hk0
        simp (disch := first | omega | exact Nat.le_of_ble_eq_true rfl | (simp (disch := omega) only [hkz, hlz] <;> omega)) only [w_iconst, w_bipush, w_sipush, w_ldc_s, w_ldcw_s, w_ldc_i, w_ldcw_i, w_lconst, w_fconst, w_dconst, w_iload, w_iload_n, w_aload, w_aload_n, w_dload, w_istore, w_istore_n, w_astore_r, w_astore_s, w_astore_n_r, w_astore_n_s, w_dstore, w_iinc, w_iadd, w_isub, w_imul, w_iand, w_iushr, v_idiv, v_irem, w_ineg, w_i2l, w_i2c, w_i2f, w_i2d, v_f2d, w_lcmp, w_dcmp, v_fdiv, v_ddiv, w_dup_i, w_dup_r, w_dup2, w_dup_x2, w_pop_i, w_pop_r, w_goto, w_switch, w_ret_i, v_ret_z, v_ret_c, w_ret_a, w_ret_s, w_ret_f, w_ret_d, w_ret_v, v_iaload, v_baload, v_caload, v_laload, v_aaload, v_iastore, v_bastore, v_castore, v_lastore, v_aastore, v_alen, v_newa, v_anewa, w_new, w_throw, w_dead, v_getf_i, v_getf_z, v_getf_r, v_putf_i, v_putf_z, v_putf_r, w_call0, w_call1, w_callv1, w_calli1, w_callt1, w_call2, w_callv2, w_calli2, w_callt2, w_call3, w_callv3, w_calli3, w_call4, w_callv4, w_calli4, w_call5, w_callv5, w_calli5, w_call6, w_callv6, w_calli6, w_call7, w_callv7, w_calli7, w_call8, w_callv8, w_calli8, c_if0_eq_t, c_if0_eq_f, c_if2_eq_t, c_if2_eq_f, c_if0_ne_t, c_if0_ne_f, c_if2_ne_t, c_if2_ne_f, c_if0_lt_t, c_if0_lt_f, c_if2_lt_t, c_if2_lt_f, c_if0_ge_t, c_if0_ge_f, c_if2_ge_t, c_if2_ge_f, c_if0_gt_t, c_if0_gt_f, c_if2_gt_t, c_if2_gt_f, c_if0_le_t, c_if0_le_f, c_if2_le_t, c_if2_le_f, w_nil, uI_s, uA_r, uA_s, uD_d, mPut_0, mCl_own, mCv_go, mCl_min, mCl_cpy, mCv_obj, mAct_len, mAct_chrc, mAft_v, mAft_n, mAft_x, mGet_0, mSet_0, mGet_1, mSet_1, mGet_2, mSet_2, mGet_3, mSet_3, mGet_4, mSet_4, mGet_5, mSet_5, mGet_6, mSet_6, mGet_7, mSet_7, mGet_8, mSet_8, mGet_9, mSet_9, mGet_10, mSet_10, mGet_11, mSet_11, mGet_12, mSet_12, mGet_13, mSet_13, e_Mo_asks, a_Mo_asks_0, bk_Mo_asks_0, a_Mo_asks_22, bk_Mo_asks_22, a_Mo_asks_47, bk_Mo_asks_47, hkz, hlz, e0, hrc, e6, e3, wr]
        exact k'
      · rw [if_neg (by omega)] at k
        by_cases c3 : σ (266 + 76 * r) = 0
        · rw [if_pos c3] at k
          have k' := k I z hk0
          by_cases c4 : σ (267 + 76 * r + w) < σ (267 + 76 * r + w)
          · omega
          · simp (disch := first | omega | exact Nat.le_of_ble_eq_true rfl | (simp (disch := omega) only [hkz, hlz] <;> omega)) only [w_iconst, w_bipush, w_sipush, w_ldc_s, w_ldcw_s, w_ldc_i, w_ldcw_i, w_lconst, w_fconst, w_dconst, w_iload, w_iload_n, w_aload, w_aload_n, w_dload, w_istore, w_istore_n, w_astore_r, w_astore_s, w_astore_n_r, w_astore_n_s, w_dstore, w_iinc, w_iadd, w_isub, w_imul, w_iand, w_iushr, v_idiv, v_irem, w_ineg, w_i2l, w_i2c, w_i2f, w_i2d, v_f2d, w_lcmp, w_dcmp, v_fdiv, v_ddiv, w_dup_i, w_dup_r, w_dup2, w_dup_x2, w_pop_i, w_pop_r, w_goto, w_switch, w_ret_i, v_ret_z, v_ret_c, w_ret_a, w_ret_s, w_ret_f, w_ret_d, w_ret_v, v_iaload, v_baload, v_caload, v_laload, v_aaload, v_iastore, v_bastore, v_castore, v_lastore, v_aastore, v_alen, v_newa, v_anewa, w_new, w_throw, w_dead, v_getf_i, v_getf_z, v_getf_r, v_putf_i, v_putf_z, v_putf_r, w_call0, w_call1, w_callv1, w_calli1, w_callt1, w_call2, w_callv2, w_calli2, w_callt2, w_call3, w_callv3, w_calli3, w_call4, w_callv4, w_calli4, w_call5, w_callv5, w_calli5, w_call6, w_callv6, w_calli6, w_call7, w_callv7, w_calli7, w_call8, w_callv8, w_calli8, c_if0_eq_t, c_if0_eq_f, c_if2_eq_t, c_if2_eq_f, c_if0_ne_t, c_if0_ne_f, c_if2_ne_t, c_if2_ne_f, c_if0_lt_t, c_if0_lt_f, c_if2_lt_t, c_if2_lt_f, c_if0_ge_t, c_if0_ge_f, c_if2_ge_t, c_if2_ge_f, c_if0_gt_t, c_if0_gt_f, c_if2_gt_t, c_if2_gt_f, c_if0_le_t, c_if0_le_f, c_if2_le_t, c_if2_le_f, w_nil, uI_s, uA_r, uA_s, uD_d, mPut_0, mCl_own, mCv_go, mCl_min, mCl_cpy, mCv_obj, mAct_len, mAct_chrc, mAft_v, mAft_n, mAft_x, mGet_0, mSet_0, mGet_1, mSet_1, mGet_2, mSet_2, mGet_3, mSet_3, mGet_4, mSet_4, mGet_5, mSet_5, mGet_6, mSet_6, mGet_7, mSet_7, mGet_8, mSet_8, mGet_9, mSet_9, mGet_10, mSet_10, mGet_11, mSet_11, mGet_12, mSet_12, mGet_13, mSet_13, e_Mo_asks, a_Mo_asks_0, bk_Mo_asks_0, a_Mo_asks_22, bk_Mo_asks_22, a_Mo_asks_49, bk_Mo_asks_49, a_Mo_asks_85, bk_Mo_asks_85, a_Mo_asks_96, bk_Mo_asks_96, a_Mo_asks_108, bk_Mo_asks_108, a_Mo_asks_110, bk_Mo_asks_110, hkz, hlz, e0, hrc, e6, e3, e7, e8, wr]
            exact k'
        · rw [if_neg c3] at k
          have pv : ∀ Q' : mQ, (∀ I' : mN, kFk I I' m → Q' (.inl (some (mI (sVl σ s r w)))) I' (mSx S m sA)) → mRun (D + 8) 312 [mR m, mR sA, mI r, mI s, mI w] I (mSx S m z) Q' := fun Q' k' => p_value D hm hs hsm hsb hw hI s0 s1 r0 r1 w0 w1 c3 k'
          simp (disch := first | omega | exact Nat.le_of_ble_eq_true rfl | (simp (disch := omega) only [hkz, hlz, ym_k hmz] <;> omega)) only [w_iconst, w_bipush, w_sipush, w_ldc_s, w_ldcw_s, w_ldc_i, w_ldcw_i, w_lconst, w_fconst, w_dconst, w_iload, w_iload_n, w_aload, w_aload_n, w_dload, w_istore, w_istore_n, w_astore_r, w_astore_s, w_astore_n_r, w_astore_n_s, w_dstore, w_iinc, w_iadd, w_isub, w_imul, w_iand, w_iushr, v_idiv, v_irem, w_ineg, w_i2l, w_i2c, w_i2f, w_i2d, v_f2d, w_lcmp, w_dcmp, v_fdiv, v_ddiv, w_dup_i, w_dup_r, w_dup2, w_dup_x2, w_pop_i, w_pop_r, w_goto, w_switch, w_ret_i, v_ret_z, v_ret_c, w_ret_a, w_ret_s, w_ret_f, w_ret_d, w_ret_v, v_iaload, v_baload, v_caload, v_laload, v_aaload, v_iastore, v_bastore, v_castore, v_lastore, v_aastore, v_alen, v_newa, v_anewa, w_new, w_throw, w_dead, v_getf_i, v_getf_z, v_getf_r, v_putf_i, v_putf_z, v_putf_r, w_call0, w_call1, w_callv1, w_calli1, w_callt1, w_call2, w_callv2, w_calli2, w_callt2, w_call3, w_callv3, w_calli3, w_call4, w_callv4, w_calli4, w_call5, w_callv5, w_calli5, w_call6, w_callv6, w_calli6, w_call7, w_callv7, w_calli7, w_call8, w_callv8, w_calli8, c_if0_eq_t, c_if0_eq_f, c_if2_eq_t, c_if2_eq_f, c_if0_ne_t, c_if0_ne_f, c_if2_ne_t, c_if2_ne_f, c_if0_lt_t, c_if0_lt_f, c_if2_lt_t, c_if2_lt_f, c_if0_ge_t, c_if0_ge_f, c_if2_ge_t, c_if2_ge_f, c_if0_gt_t, c_if0_gt_f, c_if2_gt_t, c_if2_gt_f, c_if0_le_t, c_if0_le_f, c_if2_le_t, c_if2_le_f, w_nil, uI_s, uA_r, uA_s, uD_d, mPut_0, mCl_own, mCv_go, mCl_min, mCl_cpy, mCv_obj, mAct_len, mAct_chrc, mAft_v, mAft_n, mAft_x, mGet_0, mSet_0, mGet_1, mSet_1, mGet_2, mSet_2, mGet_3, mSet_3, mGet_4, mSet_4, mGet_5, mSet_5, mGet_6, mSet_6, mGet_7, mSet_7, mGet_8, mSet_8, mGet_9, mSet_9, mGet_10, mSet_10, mGet_11, mSet_11, mGet_12, mSet_12, mGet_13, mSet_13, e_Mo_asks, a_Mo_asks_0, bk_Mo_asks_0, a_Mo_asks_22, bk_Mo_asks_22, a_Mo_asks_49, bk_Mo_asks_49, a_Mo_asks_76, bk_Mo_asks_76, ym_k hmz, hkz, hlz, e0, hrc, e6, e3, e7, e8, wr]
          refine pv _ (fun I' f => ?_)
          have k' := k I' sA f
          by_cases c4 : sVl σ s r w < 0
          · rw [if_pos c4] at k'
            simp (disch := first | omega | exact Nat.le_of_ble_eq_true rfl) only [w_iconst, w_bipush, w_sipush, w_ldc_s, w_ldcw_s, w_ldc_i, w_ldcw_i, w_lconst, w_fconst, w_dconst, w_iload, w_iload_n, w_aload, w_aload_n, w_dload, w_istore, w_istore_n, w_astore_r, w_astore_s, w_astore_n_r, w_astore_n_s, w_dstore, w_iinc, w_iadd, w_isub, w_imul, w_iand, w_iushr, v_idiv, v_irem, w_ineg, w_i2l, w_i2c, w_i2f, w_i2d, v_f2d, w_lcmp, w_dcmp, v_fdiv, v_ddiv, w_dup_i, w_dup_r, w_dup2, w_dup_x2, w_pop_i, w_pop_r, w_goto, w_switch, w_ret_i, v_ret_z, v_ret_c, w_ret_a, w_ret_s, w_ret_f, w_ret_d, w_ret_v, v_iaload, v_baload, v_caload, v_laload, v_aaload, v_iastore, v_bastore, v_castore, v_lastore, v_aastore, v_alen, v_newa, v_anewa, w_new, w_throw, w_dead, v_getf_i, v_getf_z, v_getf_r, v_putf_i, v_putf_z, v_putf_r, w_call0, w_call1, w_callv1, w_calli1, w_callt1, w_call2, w_callv2, w_calli2, w_callt2, w_call3, w_callv3, w_calli3, w_call4, w_callv4, w_calli4, w_call5, w_callv5, w_calli5, w_call6, w_callv6, w_calli6, w_call7, w_callv7, w_calli7, w_call8, w_callv8, w_calli8, c_if0_eq_t, c_if0_eq_f, c_if2_eq_t, c_if2_eq_f, c_if0_ne_t, c_if0_ne_f, c_if2_ne_t, c_if2_ne_f, c_if0_lt_t, c_if0_lt_f, c_if2_lt_t, c_if2_lt_f, c_if0_ge_t, c_if0_ge_f, c_if2_ge_t, c_if2_ge_f, c_if0_gt_t, c_if0_gt_f, c_if2_gt_t, c_if2_gt_f, c_if0_le_t, c_if0_le_f, c_if2_le_t, c_if2_le_f, w_nil, uI_s, uA_r, uA_s, uD_d, mPut_0, mCl_own, mCv_go, mCl_min, mCl_cpy, mCv_obj, mAct_len, mAct_chrc, mAft_v, mAft_n, mAft_x, mGet_0, mSet_0, mGet_1, mSet_1, mGet_2, mSet_2, mGet_3, mSet_3, mGet_4, mSet_4, mGet_5, mSet_5, mGet_6, mSet_6, mGet_7, mSet_7, mGet_8, mSet_8, mGet_9, mSet_9, mGet_10, mSet_10, mGet_11, mSet_11, mGet_12, mSet_12, mGet_13, mSet_13, a_Mo_asks_85, bk_Mo_asks_85, a_Mo_asks_110, bk_Mo_asks_110]
            exact k'
          · rw [if_neg c4] at k'
            by_cases c5 : sVl σ s r w < σ (267 + 76 * r + w)
            · rw [if_pos c5] at k'
              simp (disch := first | omega | exact Nat.le_of_ble_eq_true rfl) only [w_iconst, w_bipush, w_sipush, w_ldc_s, w_ldcw_s, w_ldc_i, w_ldcw_i, w_lconst, w_fconst, w_dconst, w_iload, w_iload_n, w_aload, w_aload_n, w_dload, w_istore, w_istore_n, w_astore_r, w_astore_s, w_astore_n_r, w_astore_n_s, w_dstore, w_iinc, w_iadd, w_isub, w_imul, w_iand, w_iushr, v_idiv, v_irem, w_ineg, w_i2l, w_i2c, w_i2f, w_i2d, v_f2d, w_lcmp, w_dcmp, v_fdiv, v_ddiv, w_dup_i, w_dup_r, w_dup2, w_dup_x2, w_pop_i, w_pop_r, w_goto, w_switch, w_ret_i, v_ret_z, v_ret_c, w_ret_a, w_ret_s, w_ret_f, w_ret_d, w_ret_v, v_iaload, v_baload, v_caload, v_laload, v_aaload, v_iastore, v_bastore, v_castore, v_lastore, v_aastore, v_alen, v_newa, v_anewa, w_new, w_throw, w_dead, v_getf_i, v_getf_z, v_getf_r, v_putf_i, v_putf_z, v_putf_r, w_call0, w_call1, w_callv1, w_calli1, w_callt1, w_call2, w_callv2, w_calli2, w_callt2, w_call3, w_callv3, w_calli3, w_call4, w_callv4, w_calli4, w_call5, w_callv5, w_calli5, w_call6, w_callv6, w_calli6, w_call7, w_callv7, w_calli7, w_call8, w_callv8, w_calli8, c_if0_eq_t, c_if0_eq_f, c_if2_eq_t, c_if2_eq_f, c_if0_ne_t, c_if0_ne_f, c_if2_ne_t, c_if2_ne_f, c_if0_lt_t, c_if0_lt_f, c_if2_lt_t, c_if2_lt_f, c_if0_ge_t, c_if0_ge_f, c_if2_ge_t, c_if2_ge_f, c_if0_gt_t, c_if0_gt_f, c_if2_gt_t, c_if2_gt_f, c_if0_le_t, c_if0_le_f, c_if2_le_t, c_if2_le_f, w_nil, uI_s, uA_r, uA_s, uD_d, mPut_0, mCl_own, mCv_go, mCl_min, mCl_cpy, mCv_obj, mAct_len, mAct_chrc, mAft_v, mAft_n, mAft_x, mGet_0, mSet_0, mGet_1, mSet_1, mGet_2, mSet_2, mGet_3, mSet_3, mGet_4, mSet_4, mGet_5, mSet_5, mGet_6, mSet_6, mGet_7, mSet_7, mGet_8, mSet_8, mGet_9, mSet_9, mGet_10, mSet_10, mGet_11, mSet_11, mGet_12, mSet_12, mGet_13, mSet_13, a_Mo_asks_85, bk_Mo_asks_85, a_Mo_asks_96, bk_Mo_asks_96, a_Mo_asks_110, bk_Mo_asks_110]
              exact k'
            · rw [if_neg c5] at k'
              simp (disch := first | omega | exact Nat.le_of_ble_eq_true rfl) only [w_iconst, w_bipush, w_sipush, w_ldc_s, w_ldcw_s, w_ldc_i, w_ldcw_i, w_lconst, w_fconst, w_dconst, w_iload, w_iload_n, w_aload, w_aload_n, w_dload, w_istore, w_istore_n, w_astore_r, w_astore_s, w_astore_n_r, w_astore_n_s, w_dstore, w_iinc, w_iadd, w_isub, w_imul, w_iand, w_iushr, v_idiv, v_irem, w_ineg, w_i2l, w_i2c, w_i2f, w_i2d, v_f2d, w_lcmp, w_dcmp, v_fdiv, v_ddiv, w_dup_i, w_dup_r, w_dup2, w_dup_x2, w_pop_i, w_pop_r, w_goto, w_switch, w_ret_i, v_ret_z, v_ret_c, w_ret_a, w_ret_s, w_ret_f, w_ret_d, w_ret_v, v_iaload, v_baload, v_caload, v_laload, v_aaload, v_iastore, v_bastore, v_castore, v_lastore, v_aastore, v_alen, v_newa, v_anewa, w_new, w_throw, w_dead, v_getf_i, v_getf_z, v_getf_r, v_putf_i, v_putf_z, v_putf_r, w_call0, w_call1, w_callv1, w_calli1, w_callt1, w_call2, w_callv2, w_calli2, w_callt2, w_call3, w_callv3, w_calli3, w_call4, w_callv4, w_calli4, w_call5, w_callv5, w_calli5, w_call6, w_callv6, w_calli6, w_call7, w_callv7, w_calli7, w_call8, w_callv8, w_calli8, c_if0_eq_t, c_if0_eq_f, c_if2_eq_t, c_if2_eq_f, c_if0_ne_t, c_if0_ne_f, c_if2_ne_t, c_if2_ne_f, c_if0_lt_t, c_if0_lt_f, c_if2_lt_t, c_if2_lt_f, c_if0_ge_t, c_if0_ge_f, c_if2_ge_t, c_if2_ge_f, c_if0_gt_t, c_if0_gt_f, c_if2_gt_t, c_if2_gt_f, c_if0_le_t, c_if0_le_f, c_if2_le_t, c_if2_le_f, w_nil, uI_s, uA_r, uA_s, uD_d, mPut_0, mCl_own, mCv_go, mCl_min, mCl_cpy, mCv_obj, mAct_len, mAct_chrc, mAft_v, mAft_n, mAft_x, mGet_0, mSet_0, mGet_1, mSet_1, mGet_2, mSet_2, mGet_3, mSet_3, mGet_4, mSet_4, mGet_5, mSet_5, mGet_6, mSet_6, mGet_7, mSet_7, mGet_8, mSet_8, mGet_9, mSet_9, mGet_10, mSet_10, mGet_11, mSet_11, mGet_12, mSet_12, mGet_13, mSet_13, a_Mo_asks_85, bk_Mo_asks_85, a_Mo_asks_96, bk_Mo_asks_96, a_Mo_asks_108, bk_Mo_asks_108, a_Mo_asks_110, bk_Mo_asks_110]
              exact k'
    · rw [if_pos (Or.inl c1)] at k
      have k' := k I z hk0
      simp (disch := first | omega | exact Nat.le_of_ble_eq_true rfl | (simp (disch := omega) only [hkz, hlz] <;> omega)) only [w_iconst, w_bipush, w_sipush, w_ldc_s, w_ldcw_s, w_ldc_i, w_ldcw_i, w_lconst, w_fconst, w_dconst, w_iload, w_iload_n, w_aload, w_aload_n, w_dload, w_istore, w_istore_n, w_astore_r, w_astore_s, w_astore_n_r, w_astore_n_s, w_dstore, w_iinc, w_iadd, w_isub, w_imul, w_iand, w_iushr, v_idiv, v_irem, w_ineg, w_i2l, w_i2c, w_i2f, w_i2d, v_f2d, w_lcmp, w_dcmp, v_fdiv, v_ddiv, w_dup_i, w_dup_r, w_dup2, w_dup_x2, w_pop_i, w_pop_r, w_goto, w_switch, w_ret_i, v_ret_z, v_ret_c, w_ret_a, w_ret_s, w_ret_f, w_ret_d, w_ret_v, v_iaload, v_baload, v_caload, v_laload, v_aaload, v_iastore, v_bastore, v_castore, v_lastore, v_aastore, v_alen, v_newa, v_anewa, w_new, w_throw, w_dead, v_getf_i, v_getf_z, v_getf_r, v_putf_i, v_putf_z, v_putf_r, w_call0, w_call1, w_callv1, w_calli1, w_callt1, w_call2, w_callv2, w_calli2, w_callt2, w_call3, w_callv3, w_calli3, w_call4, w_callv4, w_calli4, w_call5, w_callv5, w_calli5, w_call6, w_callv6, w_calli6, w_call7, w_callv7, w_calli7, w_call8, w_callv8, w_calli8, c_if0_eq_t, c_if0_eq_f, c_if2_eq_t, c_if2_eq_f, c_if0_ne_t, c_if0_ne_f, c_if2_ne_t, c_if2_ne_f, c_if0_lt_t, c_if0_lt_f, c_if2_lt_t, c_if2_lt_f, c_if0_ge_t, c_if0_ge_f, c_if2_ge_t, c_if2_ge_f, c_if0_gt_t, c_if0_gt_f, c_if2_gt_t, c_if2_gt_f, c_if0_le_t, c_if0_le_f, c_if2_le_t, c_if2_le_f, w_nil, uI_s, uA_r, uA_s, uD_d, mPut_0, mCl_own, mCv_go, mCl_min, mCl_cpy, mCv_obj, mAct_len, mAct_chrc, mAft_v, mAft_n, mAft_x, mGet_0, mSet_0, mGet_1, mSet_1, mGet_2, mSet_2, mGet_3, mSet_3, mGet_4, mSet_4, mGet_5, mSet_5, mGet_6, mSet_6, mGet_7, mSet_7, mGet_8, mSet_8, mGet_9, mSet_9, mGet_10, mSet_10, mGet_11, mSet_11, mGet_12, mSet_12, mGet_13, mSet_13, e_Mo_asks, a_Mo_asks_0, bk_Mo_asks_0, a_Mo_asks_22, bk_Mo_asks_22, a_Mo_asks_47, bk_Mo_asks_47, hkz, hlz, e0, hrc, e6, wr]
      exact k'
end VA
