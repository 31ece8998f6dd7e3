/-! A change, from its beginning to its end. -/
section XK
variable {S : mH} {I : mN} {x m z : Int} {π : Int → Int → Int} {G : gT} {Q : mQ} (D : Nat)
theorem xBef {τ : sT} (hg : gWf G) (hw : sWf τ) (hz : sZ τ) (h : xQ S I x π (gPush G τ)) : mRun (D + 2) 175 [mR x] I S Q = Q (.inl (some (mR ((x + (4 + 744 * ((G.1 1))) + 106 * π ((G.1 1)) (gK G - 1)))))) I S := by
  have hK := gK_b hg
  have e1 := gPush_C (τ := τ) hg
  have e2 := gPush_U (τ := τ) hg (gJ_b hg).1.1 (gJ_b hg).1.2.1
  rw [if_pos rfl] at e2
  have h9 := r_before (Q := Q) D (gWf_push hg hw hz) h (by rw [e1, e2]; exact hK.1)
  rw [e1, e2] at h9
  exact h9
theorem xFin {τ : sT} {ans : Int} (hg : gWf G) (hw : sWf τ) (hz : sZ τ) (h : xQ S I x π (gPush G τ)) (kk : ∀ I' : mN, xR S I' x (gPush G τ) → xF I I' x → Q (.inl (some (mI ans))) I' S) : mRun (D + 41) 176 [mR x, mR ((x + (4 + 744 * ((G.1 1))) + 106 * π ((G.1 1)) (gK G - 1))), mI ans] I S Q := by
  have e1 := gPush_C (τ := τ) hg
  have e2 := gPush_U (τ := τ) hg (gJ_b hg).1.1 (gJ_b hg).1.2.1
  rw [if_pos rfl] at e2
  refine p_endC D (gWf_push hg hw hz) h (by rw [gPush_Lb, e1]) ?_ kk
  rw [e1, e2, gPush_La, show gK G + -1 = gK G - 1 by omega]
theorem p_startC2 (hg : gWf G) (h : xQ S I x π G) (kk : ∀ (I' : mN) (S' : mH) (π' : Int → Int → Int) (b : Int), xQ S' I' x π' (gPush G ((G.2.1 (G.1 1) (G.1 (10 + G.1 1))))) → xF I I' x → hE S S' x → b = (x + (4 + 744 * ((G.1 1))) + 106 * π' ((G.1 1)) (gK G)) → (∀ s : Int, 0 ≤ s → s < 3 → I' (b + 4) s = 0) → I' b 8 = 0 → (∀ a : Int, x + 2234 ≤ a → I' a = I a) → Q (.inl (some (mR b))) I' S') : mRun (D + 5) 174 [mR x] I S Q := by
  obtain ⟨⟨c0, c1, c2⟩, u0, u1, u2⟩ := gJ_b hg
  have hK := gK_b hg
  have hN3 := hg.1.2
  have h1 := h.1
  have hc := h.2.1.2
  simp (disch := first | omega | exact Nat.le_of_ble_eq_true rfl | (simp (disch := omega) only [yx_k h1, yx_0 h1, yx_4 h1, yx_5 h1, yx_6 h1, yx_7 h1, yx_8 h1, yx_9 h1, yx_10 h1, yx_k1 h1, yx_l1 h1, yx_b h1, yx_bk h1, yx_bs h1, yx_sk h1, yx_sl h1, yx_s h1, yx_e h1, yx_k9 h1, yx_l9 h1, yx_k10 h1, yx_l10 h1, hc] <;> omega)) only [w_iconst, w_bipush, w_sipush, w_ldc_s, w_ldcw_s, w_ldc_i, w_ldcw_i, w_lconst, w_fconst, w_dconst, w_iload, w_iload_n, w_aload, w_aload_n, w_dload, w_istore, w_istore_n, w_astore_r, w_astore_s, w_astore_n_r, w_astore_n_s, w_dstore, w_iinc, w_iadd, w_isub, w_imul, w_iand, w_iushr, v_idiv, v_irem, w_ineg, w_i2l, w_i2c, w_i2f, w_i2d, v_f2d, w_lcmp, w_dcmp, v_fdiv, v_ddiv, w_dup_i, w_dup_r, w_dup2, w_dup_x2, w_pop_i, w_pop_r, w_goto, w_switch, w_ret_i, v_ret_z, v_ret_c, w_ret_a, w_ret_s, w_ret_f, w_ret_d, w_ret_v, v_iaload, v_baload, v_caload, v_laload, v_aaload, v_iastore, v_bastore, v_castore, v_lastore, v_aastore, v_alen, v_newa, v_anewa, w_new, w_throw, w_dead, v_getf_i, v_getf_z, v_getf_r, v_putf_i, v_putf_z, v_putf_r, w_call0, w_call1, w_callv1, w_calli1, w_callt1, w_call2, w_callv2, w_calli2, w_callt2, w_call3, w_callv3, w_calli3, w_call4, w_callv4, w_calli4, w_call5, w_callv5, w_calli5, w_call6, w_callv6, w_calli6, w_call7, w_callv7, w_calli7, w_call8, w_callv8, w_calli8, c_if0_eq_t, c_if0_eq_f, c_if2_eq_t, c_if2_eq_f, c_if0_ne_t, c_if0_ne_f, c_if2_ne_t, c_if2_ne_f, c_if0_lt_t, c_if0_lt_f, c_if2_lt_t, c_if2_lt_f, c_if0_ge_t, c_if0_ge_f, c_if2_ge_t, c_if2_ge_f, c_if0_gt_t, c_if0_gt_f, c_if2_gt_t, c_if2_gt_f, c_if0_le_t, c_if0_le_f, c_if2_le_t, c_if2_le_f, w_nil, uI_s, uA_r, uA_s, uD_d, mPut_0, mCl_own, mCv_go, mCl_min, mCl_cpy, mCv_obj, mAct_len, mAct_chrc, mAft_v, mAft_n, mAft_x, mGet_0, mSet_0, mGet_1, mSet_1, mGet_2, mSet_2, mGet_3, mSet_3, mGet_4, mSet_4, mGet_5, mSet_5, mGet_6, mSet_6, mGet_7, mSet_7, mGet_8, mSet_8, mGet_9, mSet_9, mGet_10, mSet_10, mGet_11, mSet_11, mGet_12, mSet_12, mGet_13, mSet_13, e_RS_startChange, a_RS_startChange_0, bk_RS_startChange_0, yx_k h1, yx_0 h1, yx_4 h1, yx_5 h1, yx_6 h1, yx_7 h1, yx_8 h1, yx_9 h1, yx_10 h1, yx_k1 h1, yx_l1 h1, yx_b h1, yx_bk h1, yx_bs h1, yx_sk h1, yx_sl h1, yx_s h1, yx_e h1, yx_k9 h1, yx_l9 h1, yx_k10 h1, yx_l10 h1, hc]
  refine p_BrSt D hg h (fun I1 S1 π' hX e1 p1 p2 f1 v1 v2 hs ho => ?_)
  have hpb := yx_pi hX c0 c1 (show 0 ≤ gK G by omega) (show gK G < 7 by omega)
  have hB := yx_B hX c0 c1 hpb.1 hpb.2
  simp (disch := first | omega | exact Nat.le_of_ble_eq_true rfl | (simp (disch := omega) only [yb_k hB] <;> omega)) only [w_iconst, w_bipush, w_sipush, w_ldc_s, w_ldcw_s, w_ldc_i, w_ldcw_i, w_lconst, w_fconst, w_dconst, w_iload, w_iload_n, w_aload, w_aload_n, w_dload, w_istore, w_istore_n, w_astore_r, w_astore_s, w_astore_n_r, w_astore_n_s, w_dstore, w_iinc, w_iadd, w_isub, w_imul, w_iand, w_iushr, v_idiv, v_irem, w_ineg, w_i2l, w_i2c, w_i2f, w_i2d, v_f2d, w_lcmp, w_dcmp, v_fdiv, v_ddiv, w_dup_i, w_dup_r, w_dup2, w_dup_x2, w_pop_i, w_pop_r, w_goto, w_switch, w_ret_i, v_ret_z, v_ret_c, w_ret_a, w_ret_s, w_ret_f, w_ret_d, w_ret_v, v_iaload, v_baload, v_caload, v_laload, v_aaload, v_iastore, v_bastore, v_castore, v_lastore, v_aastore, v_alen, v_newa, v_anewa, w_new, w_throw, w_dead, v_getf_i, v_getf_z, v_getf_r, v_putf_i, v_putf_z, v_putf_r, w_call0, w_call1, w_callv1, w_calli1, w_callt1, w_call2, w_callv2, w_calli2, w_callt2, w_call3, w_callv3, w_calli3, w_call4, w_callv4, w_calli4, w_call5, w_callv5, w_calli5, w_call6, w_callv6, w_calli6, w_call7, w_callv7, w_calli7, w_call8, w_callv8, w_calli8, c_if0_eq_t, c_if0_eq_f, c_if2_eq_t, c_if2_eq_f, c_if0_ne_t, c_if0_ne_f, c_if2_ne_t, c_if2_ne_f, c_if0_lt_t, c_if0_lt_f, c_if2_lt_t, c_if2_lt_f, c_if0_ge_t, c_if0_ge_f, c_if2_ge_t, c_if2_ge_f, c_if0_gt_t, c_if0_gt_f, c_if2_gt_t, c_if2_gt_f, c_if0_le_t, c_if0_le_f, c_if2_le_t, c_if2_le_f, w_nil, uI_s, uA_r, uA_s, uD_d, mPut_0, mCl_own, mCv_go, mCl_min, mCl_cpy, mCv_obj, mAct_len, mAct_chrc, mAft_v, mAft_n, mAft_x, mGet_0, mSet_0, mGet_1, mSet_1, mGet_2, mSet_2, mGet_3, mSet_3, mGet_4, mSet_4, mGet_5, mSet_5, mGet_6, mSet_6, mGet_7, mSet_7, mGet_8, mSet_8, mGet_9, mSet_9, mGet_10, mSet_10, mGet_11, mSet_11, mGet_12, mSet_12, mGet_13, mSet_13, yb_k hB, r_forgetP (D + 3) hB]
  generalize hJ : mUp (mUp (mUp (mUp I1 ((x + (4 + 744 * ((G.1 1))) + 106 * π' ((G.1 1)) (gK G)) + 4) 0 0) ((x + (4 + 744 * ((G.1 1))) + 106 * π' ((G.1 1)) (gK G)) + 4) 1 0) ((x + (4 + 744 * ((G.1 1))) + 106 * π' ((G.1 1)) (gK G)) + 4) 2 0) ((x + (4 + 744 * ((G.1 1))) + 106 * π' ((G.1 1)) (gK G))) 8 0 = J
  obtain ⟨jo, js, jn, j4, j8, -⟩ := yFg ho hs hJ.symm
  have fJ : ∀ a : Int, a ≠ x + (2 + 744 * (G.1 1)) → (a < (x + (4 + 744 * ((G.1 1))) + 106 * π' ((G.1 1)) (gK G)) ∨ (x + (4 + 744 * ((G.1 1))) + 106 * π' ((G.1 1)) (gK G)) + 106 ≤ a) → J a = I a := fun a a1 a2 => by rw [jn a (by omega) (by omega)]; exact f1 a a1 a2
  have hbr : J (x + (2 + 744 * (G.1 1))) = I1 (x + (2 + 744 * (G.1 1))) := jn _ (by omega) (by omega)
  refine kk J S1 π' _ ?_ (fun a ha => fJ a (by omega) (by omega)) e1 rfl j4 j8 (fun a ha => fJ a (by omega) (by omega))
  obtain ⟨-, h2, h3, h4, h5, h6, h7, h8, h9, h10, h11⟩ := h
  have e5 : ∀ a : Int, x + 2234 ≤ a → J a = I a := fun a ha => fJ a (by omega) (by omega)
  have ok6 : yOk J (x + 2234) := yOk_k h6 (fun a a0 a1 => e5 a (by omega))
  have oq7 : nOldQ J (x + 2341) := by
    unfold nOldQ at h7 ⊢
    rw [e5 _ (by omega), e5 (x + 2341 + 10) (by omega), e5 (x + 2341 + 11) (by omega)]; exact h7
  have eT : ((gPush G ((G.2.1 (G.1 1) (G.1 (10 + G.1 1))))).1 2) = (G.1 2) := gPush_1 (by omega) (by omega) (by omega) (by omega)
  have eR : ((gPush G ((G.2.1 (G.1 1) (G.1 (10 + G.1 1))))).1 3) = (G.1 3) := gPush_1 (by omega) (by omega) (by omega) (by omega)
  have eW : ((gPush G ((G.2.1 (G.1 1) (G.1 (10 + G.1 1))))).1 4) = (G.1 4) := gPush_1 (by omega) (by omega) (by omega) (by omega)
  refine ⟨hX, ?_, fun k k0 k1 => ?_, fun k j k0 k1 j0 j1 => ?_, fun k j k0 k1 j0 j1 => ?_, ok6, oq7, ?_, ?_, ?_, ?_⟩
  · rw [gPush_N hg, gPush_C hg, fJ x (by omega) (by omega)]; exact h2
  · rw [gPush_U hg k0 k1, gPush_E hg k0 k1]
    by_cases c : k = (G.1 1)
    · rw [if_pos c, if_pos c, c, hbr, v1, v2]; exact ⟨rfl, by omega⟩
    · rw [if_neg c, if_neg c, fJ (x + (2 + 744 * k)) (by omega) (by first | omega | exact xSep1 (by omega) (by omega))]; exact h3 k k0 k1
  · by_cases c : k = (G.1 1) ∧ j = π' ((G.1 1)) (gK G)
    · rw [c.1, c.2]; exact jo
    · exact yOk_k (h4 k j k0 k1 j0 j1) (fun a a0 a1 => fJ a (xOut a0 a1 k0 k1 j0 j1) (by first | omega | exact xSep2 a0 a1 (by omega) (by omega) (by omega) (by omega) (by omega)))
  · rw [gPush_N hg] at k1
    rw [gPush_E hg k0 (by omega)] at j1
    rw [gPush_S]
    by_cases c : k = (G.1 1)
    · rw [if_pos c] at j1 ⊢
      subst c
      by_cases cj : j = gK G
      · rw [if_pos cj, cj]; exact js
      · rw [if_neg cj]
        have hpj := p2 j j0 (by omega)
        have hp' := yx_pi hX c0 c1 j0 (show j < 7 by omega)
        have hne : π' ((G.1 1)) j ≠ π' ((G.1 1)) (gK G) := fun e => cj (yx_inj hX c0 c1 j0 (by omega) (by omega) (by omega) e)
        have hk : ∀ a : Int, x + (4 + 744 * (G.1 1)) + 106 * π' ((G.1 1)) j ≤ a → a < x + (4 + 744 * (G.1 1)) + 106 * π' ((G.1 1)) j + 106 → J a = I a := fun a a0 a1 => fJ a (by omega) (by first | omega | exact xSep2 a0 a1 (by omega) (by omega) (by omega) (by omega) (by omega))
        by_cases c6 : (G.1 (10 + G.1 1)) < 6
        · rw [if_pos c6] at hpj ⊢
          rw [hpj] at hk ⊢
          have hj9 : j ≤ (G.1 (20 + ((G.1 1)))) := by have := hK.2.2.1 c6; omega
          exact yS_k (hg.2.2.2.1 _ j c0 c2 j0 hj9).1 (h5 _ j c0 c2 j0 hj9) hk
        · rw [if_neg c6] at hpj ⊢
          rw [hpj] at hk ⊢
          have hj9 : j + 1 ≤ (G.1 (20 + ((G.1 1)))) := by have := hK.2.2.2 c6; omega
          exact yS_k (hg.2.2.2.1 _ (j + 1) c0 c2 (by omega) hj9).1 (h5 _ (j + 1) c0 c2 (by omega) hj9) hk
    · rw [if_neg c] at j1 ⊢
      rw [p1 k j c]
      have hp' := yx_pi h1 k0 (show k < 3 by omega) j0 (by have := (hg.2.2.1 k k0 (by omega)).1; omega)
      exact yS_k (hg.2.2.2.1 k j k0 k1 j0 j1).1 (h5 k j k0 k1 j0 j1) (fun a a0 a1 => fJ a (xOut a0 a1 k0 (by omega) hp'.1 hp'.2) (by first | omega | exact xSep2 a0 a1 (by omega) (by omega) (by omega) (by omega) (by omega)))
  · rw [e5 _ (by omega)]; exact h8
  · rw [e5 (x + 2359) (by omega), e5 (x + 2360) (by omega), eT, eR]; exact h9
  · rw [e5 (x + 2364) (by omega), e5 (x + 2357) (by omega), e5 (x + 2358) (by omega)]; exact h10
  · rw [e5 (x + 2365) (by omega), e5 (x + 2366) (by omega), eW]; exact h11
theorem p_start2 (hg : gWf G) (h : xQ S I x π G) (kk : ∀ (I1 : mN) (S1 : mH) (π1 : Int → Int → Int) (b1 b0 : Int), yX S1 x π1 → yB S1 b1 → yS I1 b1 ((G.2.1 (G.1 1) (G.1 (10 + G.1 1)))) → yOk I1 b1 → yF0 I1 b1 → (x < b1 ∧ b1 + 106 ≤ x + 2234) →
    (∀ (τ : sT) (I2 : mN), sWf τ → sZ τ → yS I2 b1 τ → yOk I2 b1 → (∀ a : Int, (a < b1 ∨ b1 + 106 ≤ a) → (a < x + 2234 ∨ x + 2356 ≤ a) → a ≠ x + 2368 → I2 a = I1 a) → yOk I2 (x + 2234) → nOldQ I2 (x + 2341) → (∀ (D : Nat) (Q : mQ), mRun (D + 2) 175 [mR x] I2 S1 Q = Q (.inl (some (mR b0))) I2 S1) ∧ ∀ (D : Nat) (Q : mQ) (ans : Int), (∀ I3 : mN, xR S1 I3 x (gPush G τ) → xEnd S I S1 I3 x → Q (.inl (some (mI ans))) I3 S1) → mRun (D + 41) 176 [mR x, mR b0, mI ans] I2 S1 Q) →
    (yOk I1 (x + 2234) ∧ nOldQ I1 (x + 2341) ∧ xF I I1 x ∧ hE S S1 x ∧ (∀ a : Int, x + 2234 ≤ a → I1 a = I a)) → Q (.inl (some (mR b1))) I1 S1) : mRun (D + 5) 174 [mR x] I S Q := by
  have hJ := gJ_b hg
  have hK := gK_b hg
  have hO := gO_w hg
  refine p_startC2 D hg h (fun I1 S1 π1 b1 hq f1 e1 hb1 h4 h8 hT => ?_)
  have hp := yx_pi hq.1 hJ.1.1 hJ.1.2.1 (show 0 ≤ gK G by omega) (show gK G < 7 by omega)
  have hB := yx_B hq.1 hJ.1.1 hJ.1.2.1 hp.1 hp.2
  have ho := hq.2.2.2.1 ((G.1 1)) (π1 ((G.1 1)) (gK G)) hJ.1.1 hJ.1.2.1 hp.1 hp.2
  have hs := hq.2.2.2.2.1 ((G.1 1)) (gK G) hJ.1.1 (by rw [gPush_N hg]; exact hJ.1.2.2) (by omega) (by rw [gPush_E hg hJ.1.1 hJ.1.2.1, if_pos rfl]; exact Int.le_refl _)
  rw [gPush_S, if_pos rfl, if_pos rfl] at hs
  rw [← hb1] at hs ho hB
  have hb1' := hb1
  refine kk I1 S1 π1 b1 ((x + (4 + 744 * ((G.1 1))) + 106 * π1 ((G.1 1)) (gK G - 1))) hq.1 hB hs ho ⟨h4, h8⟩ (by omega) (fun τ I2 hw hz hs2 ho2 hf2 ht2 hn2 => ?_) ⟨hq.2.2.2.2.2.1, hq.2.2.2.2.2.2.1, f1, e1, hT⟩
  rw [hb1] at hs2 ho2 hf2
  have hq2 : xQ S1 I2 x π1 (gPush G τ) := xQ_set hg hO.1 hO.2 hq hf2 ht2 hn2 ho2 hs2
  refine ⟨fun D Q => xBef D hg hw hz hq2, fun D Q ans k => xFin D hg hw hz hq2 (fun I3 hR f3 => k I3 hR (xEnd_E e1 (xF_t f1 (xF_t (fun a ha => hf2 a (by omega) (by omega) (by omega)) f3))))⟩
/-- the model has written what a change writes -/
theorem oFin {τ : sT} {I1 I2 : mN} {v : Int} {l : List Nat} (hg : gWf G) (hR : oR (mSx S m z) I1 m (gPush G ((G.2.1 (G.1 1) (G.1 (10 + G.1 1)))))) (f1 : oFm I I1 m) (h16 : ∀ s : Int, 0 ≤ s → s < 3 → I1 (m + 16) s = 0) (h17 : I1 m 17 = 0) (h1 : I1 m 1 = 0) (hs : I2 (m + 1) = τ) (hI : ∀ a : Int, a ≠ m + 1 → I2 a = I1 a) (kk : oK S I m Q l (.inl (some (mI v)), gPush G τ)) : Q (.inl (some (mI v))) I2 (mSx S m z) := by
  refine kk I2 z v (oR_set hg hR (fun a _ a2 _ _ _ _ _ => hI a a2) ?_ hs (by rw [hI _ (by omega)]; exact h16) (by rw [hI m (by omega)]; exact h17) (fun c hc => ?_)) (oFm_t f1 (fun a ha => hI a (by omega))) (by rw [hI m (by omega), h1]; rfl) (fun u hu => oV hu)
  · rw [hI m (by omega)]; exact ⟨rfl, rfl, rfl, rfl, rfl, rfl, rfl⟩
  · rw [hI (m + 42) (by omega), hI (m + 44) (by omega)]; exact (hR.2.2.2.2.2.2.2.2 c hc).2
theorem oCur {I1 : mN} (hg : gWf G) (hR : oR S I1 m (gPush G ((G.2.1 (G.1 1) (G.1 (10 + G.1 1)))))) : I1 (m + 1) = (G.2.1 (G.1 1) (G.1 (10 + G.1 1))) := by
  have h := hR.2.1.1
  have e := gPush_O (τ := (G.2.1 (G.1 1) (G.1 (10 + G.1 1)))) hg
  exact h.trans e
end XK
