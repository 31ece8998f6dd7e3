/-! A change of the office: begun, ended. -/
def gK (G : gT) : Int := if (G.1 (10 + G.1 1)) < 6 then (G.1 (10 + G.1 1)) + 1 else 6
def gPush (G : gT) (τ : sT) : gT := (fun i => if i = 5 then (G.1 1) else if i = 6 then -1 else if i = 10 + (G.1 1) ∨ i = 20 + (G.1 1) then gK G else G.1 i, fun k j => if k = (G.1 1) then (if j = gK G then τ else if (G.1 (10 + G.1 1)) < 6 then (G.2.1 k j) else (G.2.1 k (j + 1))) else (G.2.1 k j), G.2.2)
section GP
variable {G : gT} {τ : sT}
theorem gK_b (hg : gWf G) : 1 ≤ gK G ∧ gK G ≤ 6 ∧ ((G.1 (10 + G.1 1)) < 6 → gK G = (G.1 (10 + G.1 1)) + 1) ∧ (¬ (G.1 (10 + G.1 1)) < 6 → gK G = 6 ∧ (G.1 (10 + G.1 1)) = 6) := by
  have h := gJ_b hg
  unfold gK
  by_cases c : (G.1 (10 + G.1 1)) < 6
  · rw [if_pos c]; omega
  · rw [if_neg c]; omega
theorem gPush_1 {i : Int} (h5 : i ≠ 5) (h6 : i ≠ 6) (h : i ≠ 10 + (G.1 1)) (h' : i ≠ 20 + (G.1 1)) : (gPush G τ).1 i = G.1 i := by
  unfold gPush
  dsimp only
  rw [if_neg h5, if_neg h6, if_neg (by omega)]
theorem gPush_N (hg : gWf G) : ((gPush G τ).1 0) = (G.1 0) := by have := (gJ_b hg).1; exact gPush_1 (by omega) (by omega) (by omega) (by omega)
theorem gPush_C (hg : gWf G) : ((gPush G τ).1 1) = (G.1 1) := by have := (gJ_b hg).1; exact gPush_1 (by omega) (by omega) (by omega) (by omega)
theorem gPush_Lb : ((gPush G τ).1 5) = (G.1 1) := by
  unfold gPush
  dsimp only
  rw [if_pos rfl]
theorem gPush_La : ((gPush G τ).1 6) = -1 := by
  unfold gPush
  dsimp only
  rw [if_neg (by decide), if_pos rfl]
theorem gPush_U (hg : gWf G) {k : Int} (k0 : 0 ≤ k) (k1 : k < 3) : ((gPush G τ).1 (10 + k)) = if k = (G.1 1) then gK G else (G.1 (10 + k)) := by
  have := (gJ_b hg).1
  by_cases c : k = (G.1 1)
  · rw [if_pos c]
    show (gPush G τ).1 (10 + k) = _
    unfold gPush
    dsimp only
    rw [if_neg (by omega), if_neg (by omega), if_pos (by omega)]
  · rw [if_neg c]
    exact gPush_1 (by omega) (by omega) (by omega) (by omega)
theorem gPush_E (hg : gWf G) {k : Int} (k0 : 0 ≤ k) (k1 : k < 3) : ((gPush G τ).1 (20 + k)) = if k = (G.1 1) then gK G else (G.1 (20 + k)) := by
  have := (gJ_b hg).1
  by_cases c : k = (G.1 1)
  · rw [if_pos c]
    show (gPush G τ).1 (20 + k) = _
    unfold gPush
    dsimp only
    rw [if_neg (by omega), if_neg (by omega), if_pos (by omega)]
  · rw [if_neg c]
    exact gPush_1 (by omega) (by omega) (by omega) (by omega)
theorem gPush_J (hg : gWf G) : ((gPush G τ).1 (10 + (gPush G τ).1 1)) = gK G := by
  have h := (gJ_b hg).1
  show ((gPush G τ).1 (10 + (((gPush G τ).1 1)))) = _
  rw [gPush_C hg, gPush_U hg h.1 h.2.1, if_pos rfl]
theorem gPush_S {k j : Int} : ((gPush G τ).2.1 k j) = if k = (G.1 1) then (if j = gK G then τ else if (G.1 (10 + G.1 1)) < 6 then (G.2.1 k j) else (G.2.1 k (j + 1))) else (G.2.1 k j) := rfl
theorem gPush_O (hg : gWf G) : ((gPush G τ).2.1 ((gPush G τ).1 1) ((gPush G τ).1 (10 + (gPush G τ).1 1))) = τ := by
  have e1 := gPush_C (τ := τ) hg
  have e2 := gPush_U (τ := τ) hg (gJ_b hg).1.1 (gJ_b hg).1.2.1
  rw [if_pos rfl] at e2
  show ((gPush G τ).2.1 (((gPush G τ).1 1)) (((gPush G τ).1 (10 + (gPush G τ).1 1)))) = τ
  rw [e1, e2, gPush_S, if_pos rfl, if_pos rfl]
theorem gPush_B (hg : gWf G) : ((gPush G τ).2.1 ((G.1 1)) (gK G - 1)) = (G.2.1 (G.1 1) (G.1 (10 + G.1 1))) := by
  have h := gK_b hg
  rw [gPush_S, if_pos rfl, if_neg (by omega)]
  by_cases c : (G.1 (10 + G.1 1)) < 6
  · rw [if_pos c, h.2.2.1 c, show (G.1 (10 + G.1 1)) + 1 - 1 = (G.1 (10 + G.1 1)) by omega]
  · have := h.2.2.2 c
    rw [if_neg c, show gK G - 1 + 1 = (G.1 (10 + G.1 1)) by omega]
theorem gWf_push (hg : gWf G) (hw : sWf τ) (hz : sZ τ) : gWf (gPush G τ) := by
  have hJ := gJ_b hg
  have hK := gK_b hg
  obtain ⟨g1, g2, g3, g4, g5, g6, g7, g8⟩ := id hg
  have e2 : ((gPush G τ).1 2) = (G.1 2) := gPush_1 (by omega) (by omega) (by omega) (by omega)
  have e4 : ((gPush G τ).1 4) = (G.1 4) := gPush_1 (by omega) (by omega) (by omega) (by omega)
  refine ⟨by rw [gPush_N hg]; exact g1, by rw [gPush_N hg, gPush_C hg]; exact g2, fun k k0 k1 => ?_, fun k j k0 k1 j0 j1 => ?_, ?_, g6, by rw [e4]; exact g7, ?_⟩
  · rw [gPush_U hg k0 k1, gPush_E hg k0 k1, gPush_N hg]
    by_cases c : k = (G.1 1)
    · rw [if_pos c, if_pos c]; omega
    · rw [if_neg c, if_neg c]; exact g3 k k0 k1
  · rw [gPush_N hg] at k1
    rw [gPush_E hg k0 (by omega)] at j1
    rw [gPush_S]
    by_cases c : k = (G.1 1)
    · rw [if_pos c] at j1 ⊢
      subst c
      by_cases c2 : j = gK G
      · rw [if_pos c2]; exact ⟨hw, hz⟩
      · rw [if_neg c2]
        by_cases c3 : (G.1 (10 + G.1 1)) < 6
        · rw [if_pos c3]; exact g4 _ j k0 k1 j0 (by omega)
        · rw [if_neg c3]; exact g4 _ (j + 1) k0 k1 (by omega) (by omega)
    · rw [if_neg c] at j1 ⊢
      exact g4 k j k0 k1 j0 j1
  · rw [e2]; exact g5
  · right
    rw [gPush_Lb, gPush_La, gPush_N hg, gPush_U hg hJ.1.1 hJ.1.2.1, if_pos rfl]
    exact ⟨g2, Or.inl ⟨rfl, hK.1⟩⟩
theorem gPush_ch (hg : gWf G) : gCh (gPush G τ) = zCt ((G.2.1 (G.1 1) (G.1 (10 + G.1 1)))) τ := by
  have hJ := gJ_b hg
  unfold gCh
  rw [gPush_Lb, if_neg (by omega), gPush_La, gPush_U hg hJ.1.1 hJ.1.2.1, if_pos rfl]
  rw [show gK G + -1 = gK G - 1 by omega, gPush_B hg, gPush_S, if_pos rfl, if_pos rfl]
end GP
/-- objects: the branches' rows alone may have changed -/
def hE (S S' : mH) (x : Int) : Prop := S'.2 = S.2 ∧ ∀ a : Int, (a < x ∨ x + 2369 ≤ a) → S'.1 a = S.1 a
section XS
variable {S : mH} {I : mN} {x : Int} {π : Int → Int → Int} {G : gT} {Q : mQ} (D : Nat)
theorem hE_r : hE S S x := ⟨rfl, fun _ _ => rfl⟩
/-- the present state of a change is another one -/
theorem xQ_set {τ τ' : sT} {I' : mN} (hg : gWf G) (hw : sWf τ) (hz : sZ τ) (h : xQ S I x π (gPush G τ)) (hf : ∀ a : Int, (a < (x + (4 + 744 * ((G.1 1))) + 106 * π ((G.1 1)) (gK G)) ∨ (x + (4 + 744 * ((G.1 1))) + 106 * π ((G.1 1)) (gK G)) + 106 ≤ a) → (a < x + 2234 ∨ x + 2356 ≤ a) → a ≠ x + 2368 → I' a = I a)
    (ht : yOk I' (x + 2234)) (hq : nOldQ I' (x + 2341)) (ho : yOk I' ((x + (4 + 744 * ((G.1 1))) + 106 * π ((G.1 1)) (gK G)))) (hs : yS I' ((x + (4 + 744 * ((G.1 1))) + 106 * π ((G.1 1)) (gK G))) τ') : xQ S I' x π (gPush G τ') := by
  have hJ := gJ_b hg
  have hK := gK_b hg
  have hgp : gWf (gPush G τ) := gWf_push hg hw hz
  have hp := yx_pi h.1 hJ.1.1 hJ.1.2.1 (show 0 ≤ gK G by omega) (show gK G < 7 by omega)
  obtain ⟨h1, h2, h3, h4, h5, h6, h7, h8, h9, h10, h11⟩ := h
  refine ⟨h1, ?_, fun k' q0 q1 => ?_, fun k' j' q0 q1 q2 q3 => ?_, fun k' j' q0 q1 q2 q3 => ?_, ht, hq, ?_, ?_, ?_, ?_⟩
  · rw [hf x (by omega) (by omega) (by omega)]; exact h2
  · rw [hf (x + (2 + 744 * k')) (by first | omega | exact xSep1 (by omega) (by omega)) (by omega) (by omega)]; exact h3 k' q0 q1
  · by_cases c : k' = (G.1 1) ∧ j' = π ((G.1 1)) (gK G)
    · rw [c.1, c.2]; exact ho
    · exact yOk_k (h4 k' j' q0 q1 q2 q3) (fun a a0 a1 => hf a (by first | omega | exact xSep2 a0 a1 (by omega) (by omega) (by omega) (by omega) (by omega)) (by omega) (by omega))
  · by_cases c : k' = (G.1 1) ∧ j' = gK G
    · obtain ⟨rfl, rfl⟩ := c
      rw [gPush_S, if_pos rfl, if_pos rfl]; exact hs
    · have es : ((gPush G τ').2.1 k' j') = ((gPush G τ).2.1 k' j') := by
        rw [gPush_S, gPush_S]
        by_cases c1 : k' = (G.1 1)
        · rw [if_pos c1, if_pos c1, if_neg (fun c2 => c ⟨c1, c2⟩), if_neg (fun c2 => c ⟨c1, c2⟩)]
        · rw [if_neg c1, if_neg c1]
      rw [es]
      have g3 := hgp.2.2.1 k' q0 (by have := hgp.1.2; exact Int.lt_of_lt_of_le q1 this)
      have k3 : k' < 3 := by have := hgp.1.2; exact Int.lt_of_lt_of_le q1 this
      have j7 : j' < 7 := by have := g3.1.2.2; exact Int.lt_of_le_of_lt (Int.le_trans q3 this) (by decide)
      have hp' := yx_pi h1 q0 k3 q2 j7
      have hne : k' = (G.1 1) → π k' j' ≠ π ((G.1 1)) (gK G) := fun e e2 => by
        rw [e] at e2
        exact c ⟨e, yx_inj h1 hJ.1.1 hJ.1.2.1 q2 j7 (by omega) (by omega) e2⟩
      exact yS_k (hgp.2.2.2.1 k' j' q0 q1 q2 q3).1 (h5 k' j' q0 q1 q2 q3) (fun a a0 a1 => hf a (xSep2 a0 a1 hp.1 hp.2 hp'.1 hp'.2 (fun e => hne e.1 (by rw [e.2]))) (by omega) (by omega))
  · rw [hf (x + 2367) (by omega) (by omega) (by omega)]; exact h8
  · rw [hf (x + 2359) (by omega) (by omega) (by omega), hf (x + 2360) (by omega) (by omega) (by omega)]; exact h9
  · rw [hf (x + 2364) (by omega) (by omega) (by omega), hf (x + 2357) (by omega) (by omega) (by omega), hf (x + 2358) (by omega) (by omega) (by omega)]; exact h10
  · rw [hf (x + 2365) (by omega) (by omega) (by omega), hf (x + 2366) (by omega) (by omega) (by omega)]; exact h11
theorem p_forgetO (h : yX S x π) {k : Int} (k0 : 0 ≤ k) (k1 : k < 3) (kk : ∀ S' : mH, S'.2 = S.2 → (∀ a : Int, a ≠ x + (2 + 744 * k) + 1 → S'.1 a = S.1 a) → (∀ j : Int, 0 ≤ j → j < 6 → S'.1 (x + (2 + 744 * k) + 1) j = (x + (4 + 744 * k) + 106 * π k (j + 1))) → S'.1 (x + (2 + 744 * k) + 1) 6 = (x + (4 + 744 * k) + 106 * π k 0) → Q (.inl none) I S') : mRun (D + 1) 25 [mR (x + (2 + 744 * k))] I S Q := by
  have hs : ∀ j : Int, 0 ≤ j → j < 7 → S.1 (x + (2 + 744 * k) + 1) j = (x + (4 + 744 * k) + 106 * π k j) := fun j j0 j1 => yx_s h k0 k1 j0 j1
  have hk : ∀ j : Int, 0 ≤ j → j < 7 → S.2.1 ((x + (4 + 744 * k) + 106 * π k j)) = 1 := fun j j0 j1 => yb_k (yx_B h k0 k1 (yx_pi h k0 k1 j0 j1).1 (yx_pi h k0 k1 j0 j1).2)
  have h0 := yx_bs h k0 k1
  have hl := yx_sl h k0 k1
  have hd := yx_sk h k0 k1
  have hb := yx_bk h k0 k1
  generalize hbr : x + (2 + 744 * k) = br at h0 hl hd hb hs kk
  have hv : ∀ (c : Nat) {j : Int} {T : mH}, 0 ≤ j → j + c = 6 → T.2 = S.2 → (∀ a : Int, a ≠ br + 1 → T.1 a = S.1 a) → (∀ i : Int, 0 ≤ i → i < j → T.1 (br + 1) i = (x + (4 + 744 * k) + 106 * π k (i + 1))) → (∀ i : Int, j ≤ i → i < 7 → T.1 (br + 1) i = (x + (4 + 744 * k) + 106 * π k i)) → mAt (mRun D) 25 9 ([some (mR br), some (mR ((x + (4 + 744 * k) + 106 * π k 0))), some (mI j)], [], I, T) Q := by
    intro c
    induction c with
    | zero =>
      intro j T j0 j1 e2 e1 a1 a2
      obtain rfl : j = 6 := by omega
      have t0 : T.1 br 0 = br + 1 := by rw [e1 br (by omega)]; exact h0
      have tb : T.2.1 br = 2 := by rw [e2]; exact hb
      have tk : T.2.1 (br + 1) = 60 := by rw [e2]; exact hd
      have tl : T.2.2.1 (br + 1) = 7 := by rw [e2]; exact hl
      have tv : T.2.1 ((x + (4 + 744 * k) + 106 * π k 0)) = 1 := by rw [e2]; exact hk 0 (by decide) (by decide)
      simp (disch := first | omega | exact Nat.le_of_ble_eq_true rfl | (simp (disch := omega) only [t0, tb, tk, tl, tv] <;> omega)) only [w_iconst, w_bipush, w_sipush, w_ldc_s, w_ldcw_s, w_ldc_i, w_ldcw_i, w_lconst, w_fconst, w_dconst, w_iload, w_iload_n, w_aload, w_aload_n, w_dload, w_istore, w_istore_n, w_astore_r, w_astore_s, w_astore_n_r, w_astore_n_s, w_dstore, w_iinc, w_iadd, w_isub, w_imul, w_iand, w_iushr, v_idiv, v_irem, w_ineg, w_i2l, w_i2c, w_i2f, w_i2d, v_f2d, w_lcmp, w_dcmp, v_fdiv, v_ddiv, w_dup_i, w_dup_r, w_dup2, w_dup_x2, w_pop_i, w_pop_r, w_goto, w_switch, w_ret_i, v_ret_z, v_ret_c, w_ret_a, w_ret_s, w_ret_f, w_ret_d, w_ret_v, v_iaload, v_baload, v_caload, v_laload, v_aaload, v_iastore, v_bastore, v_castore, v_lastore, v_aastore, v_alen, v_newa, v_anewa, w_new, w_throw, w_dead, v_getf_i, v_getf_z, v_getf_r, v_putf_i, v_putf_z, v_putf_r, w_call0, w_call1, w_callv1, w_calli1, w_callt1, w_call2, w_callv2, w_calli2, w_callt2, w_call3, w_callv3, w_calli3, w_call4, w_callv4, w_calli4, w_call5, w_callv5, w_calli5, w_call6, w_callv6, w_calli6, w_call7, w_callv7, w_calli7, w_call8, w_callv8, w_calli8, c_if0_eq_t, c_if0_eq_f, c_if2_eq_t, c_if2_eq_f, c_if0_ne_t, c_if0_ne_f, c_if2_ne_t, c_if2_ne_f, c_if0_lt_t, c_if0_lt_f, c_if2_lt_t, c_if2_lt_f, c_if0_ge_t, c_if0_ge_f, c_if2_ge_t, c_if2_ge_f, c_if0_gt_t, c_if0_gt_f, c_if2_gt_t, c_if2_gt_f, c_if0_le_t, c_if0_le_f, c_if2_le_t, c_if2_le_f, w_nil, uI_s, uA_r, uA_s, uD_d, mPut_0, mCl_own, mCv_go, mCl_min, mCl_cpy, mCv_obj, mAct_len, mAct_chrc, mAft_v, mAft_n, mAft_x, mGet_0, mSet_0, mGet_1, mSet_1, mGet_2, mSet_2, mGet_3, mSet_3, mGet_4, mSet_4, mGet_5, mSet_5, mGet_6, mSet_6, mGet_7, mSet_7, mGet_8, mSet_8, mGet_9, mSet_9, mGet_10, mSet_10, mGet_11, mSet_11, mGet_12, mSet_12, mGet_13, mSet_13, a_Br_forgetOldest_9, bk_Br_forgetOldest_9, a_Br_forgetOldest_35, bk_Br_forgetOldest_35, t0, tb, tk, tl]
      refine kk _ e2 (fun a ha => ?_) (fun i i0 i1 => ?_) ?_
      · show mUp T.1 (br + 1) 6 _ a = _
        rw [up_fa ha]; exact e1 a ha
      · show mUp T.1 (br + 1) 6 _ (br + 1) i = _
        rw [up_nk (by omega)]; exact a1 i i0 i1
      · show mUp T.1 (br + 1) 6 _ (br + 1) 6 = _
        rw [up_eq rfl rfl]
    | succ c ih =>
      intro j T j0 j1 e2 e1 a1 a2
      have t0 : T.1 br 0 = br + 1 := by rw [e1 br (by omega)]; exact h0
      have tb : T.2.1 br = 2 := by rw [e2]; exact hb
      have tk : T.2.1 (br + 1) = 60 := by rw [e2]; exact hd
      have tl : T.2.2.1 (br + 1) = 7 := by rw [e2]; exact hl
      have tn : T.1 (br + 1) (j + 1) = (x + (4 + 744 * k) + 106 * π k (j + 1)) := a2 (j + 1) (by omega) (by omega)
      have tv : T.2.1 ((x + (4 + 744 * k) + 106 * π k (j + 1))) = 1 := by rw [e2]; exact hk (j + 1) (by omega) (by omega)
      rw [a_Br_forgetOldest_9]
      simp (disch := first | omega | exact Nat.le_of_ble_eq_true rfl | (simp (disch := omega) only [t0, tb, tk, tl, tv] <;> omega)) only [w_iconst, w_bipush, w_sipush, w_ldc_s, w_ldcw_s, w_ldc_i, w_ldcw_i, w_lconst, w_fconst, w_dconst, w_iload, w_iload_n, w_aload, w_aload_n, w_dload, w_istore, w_istore_n, w_astore_r, w_astore_s, w_astore_n_r, w_astore_n_s, w_dstore, w_iinc, w_iadd, w_isub, w_imul, w_iand, w_iushr, v_idiv, v_irem, w_ineg, w_i2l, w_i2c, w_i2f, w_i2d, v_f2d, w_lcmp, w_dcmp, v_fdiv, v_ddiv, w_dup_i, w_dup_r, w_dup2, w_dup_x2, w_pop_i, w_pop_r, w_goto, w_switch, w_ret_i, v_ret_z, v_ret_c, w_ret_a, w_ret_s, w_ret_f, w_ret_d, w_ret_v, v_iaload, v_baload, v_caload, v_laload, v_aaload, v_iastore, v_bastore, v_castore, v_lastore, v_aastore, v_alen, v_newa, v_anewa, w_new, w_throw, w_dead, v_getf_i, v_getf_z, v_getf_r, v_putf_i, v_putf_z, v_putf_r, w_call0, w_call1, w_callv1, w_calli1, w_callt1, w_call2, w_callv2, w_calli2, w_callt2, w_call3, w_callv3, w_calli3, w_call4, w_callv4, w_calli4, w_call5, w_callv5, w_calli5, w_call6, w_callv6, w_calli6, w_call7, w_callv7, w_calli7, w_call8, w_callv8, w_calli8, c_if0_eq_t, c_if0_eq_f, c_if2_eq_t, c_if2_eq_f, c_if0_ne_t, c_if0_ne_f, c_if2_ne_t, c_if2_ne_f, c_if0_lt_t, c_if0_lt_f, c_if2_lt_t, c_if2_lt_f, c_if0_ge_t, c_if0_ge_f, c_if2_ge_t, c_if2_ge_f, c_if0_gt_t, c_if0_gt_f, c_if2_gt_t, c_if2_gt_f, c_if0_le_t, c_if0_le_f, c_if2_le_t, c_if2_le_f, w_nil, uI_s, uA_r, uA_s, uD_d, mPut_0, mCl_own, mCv_go, mCl_min, mCl_cpy, mCv_obj, mAct_len, mAct_chrc, mAft_v, mAft_n, mAft_x, mGet_0, mSet_0, mGet_1, mSet_1, mGet_2, mSet_2, mGet_3, mSet_3, mGet_4, mSet_4, mGet_5, mSet_5, mGet_6, mSet_6, mGet_7, mSet_7, mGet_8, mSet_8, mGet_9, mSet_9, mGet_10, mSet_10, mGet_11, mSet_11, mGet_12, mSet_12, mGet_13, mSet_13, bk_Br_forgetOldest_9, t0, tb, tk, tl, tn, wr]
      refine ih (by omega) (by omega) e2 (fun a ha => ?_) (fun i i0 i1 => ?_) (fun i i0 i1 => ?_)
      · show mUp T.1 (br + 1) j _ a = _
        rw [up_fa ha]; exact e1 a ha
      · show mUp T.1 (br + 1) j _ (br + 1) i = _
        by_cases c : i = j
        · rw [up_eq rfl c, c]
        · rw [up_nk c]; exact a1 i i0 (by omega)
      · show mUp T.1 (br + 1) j _ (br + 1) i = _
        rw [up_nk (by omega)]; exact a2 i (by omega) i1
  have s0 := hs 0 (by decide) (by decide)
  have hgo := hv 6 (T := S) (Int.le_refl 0) (by omega) rfl (fun _ _ => rfl) (fun i i0 i1 => by omega) (fun i i0 i1 => hs i i0 i1)
  simp (disch := first | omega | exact Nat.le_of_ble_eq_true rfl | (simp (disch := omega) only [h0, hb, hd, hl] <;> omega)) only [w_iconst, w_bipush, w_sipush, w_ldc_s, w_ldcw_s, w_ldc_i, w_ldcw_i, w_lconst, w_fconst, w_dconst, w_iload, w_iload_n, w_aload, w_aload_n, w_dload, w_istore, w_istore_n, w_astore_r, w_astore_s, w_astore_n_r, w_astore_n_s, w_dstore, w_iinc, w_iadd, w_isub, w_imul, w_iand, w_iushr, v_idiv, v_irem, w_ineg, w_i2l, w_i2c, w_i2f, w_i2d, v_f2d, w_lcmp, w_dcmp, v_fdiv, v_ddiv, w_dup_i, w_dup_r, w_dup2, w_dup_x2, w_pop_i, w_pop_r, w_goto, w_switch, w_ret_i, v_ret_z, v_ret_c, w_ret_a, w_ret_s, w_ret_f, w_ret_d, w_ret_v, v_iaload, v_baload, v_caload, v_laload, v_aaload, v_iastore, v_bastore, v_castore, v_lastore, v_aastore, v_alen, v_newa, v_anewa, w_new, w_throw, w_dead, v_getf_i, v_getf_z, v_getf_r, v_putf_i, v_putf_z, v_putf_r, w_call0, w_call1, w_callv1, w_calli1, w_callt1, w_call2, w_callv2, w_calli2, w_callt2, w_call3, w_callv3, w_calli3, w_call4, w_callv4, w_calli4, w_call5, w_callv5, w_calli5, w_call6, w_callv6, w_calli6, w_call7, w_callv7, w_calli7, w_call8, w_callv8, w_calli8, c_if0_eq_t, c_if0_eq_f, c_if2_eq_t, c_if2_eq_f, c_if0_ne_t, c_if0_ne_f, c_if2_ne_t, c_if2_ne_f, c_if0_lt_t, c_if0_lt_f, c_if2_lt_t, c_if2_lt_f, c_if0_ge_t, c_if0_ge_f, c_if2_ge_t, c_if2_ge_f, c_if0_gt_t, c_if0_gt_f, c_if2_gt_t, c_if2_gt_f, c_if0_le_t, c_if0_le_f, c_if2_le_t, c_if2_le_f, w_nil, uI_s, uA_r, uA_s, uD_d, mPut_0, mCl_own, mCv_go, mCl_min, mCl_cpy, mCv_obj, mAct_len, mAct_chrc, mAft_v, mAft_n, mAft_x, mGet_0, mSet_0, mGet_1, mSet_1, mGet_2, mSet_2, mGet_3, mSet_3, mGet_4, mSet_4, mGet_5, mSet_5, mGet_6, mSet_6, mGet_7, mSet_7, mGet_8, mSet_8, mGet_9, mSet_9, mGet_10, mSet_10, mGet_11, mSet_11, mGet_12, mSet_12, mGet_13, mSet_13, e_Br_forgetOldest, a_Br_forgetOldest_0, bk_Br_forgetOldest_0, h0, hb, hd, hl, s0]
  exact hgo
theorem p_BrSt (hg : gWf G) (h : xQ S I x π G) (kk : ∀ (I' : mN) (S' : mH) (π' : Int → Int → Int), yX S' x π' → hE S S' x → (∀ k j : Int, k ≠ (G.1 1) → π' k j = π k j) → (∀ j : Int, 0 ≤ j → j < gK G → π' ((G.1 1)) j = if (G.1 (10 + G.1 1)) < 6 then π ((G.1 1)) j else π ((G.1 1)) (j + 1)) → (∀ a : Int, a ≠ x + (2 + 744 * (G.1 1)) → (a < (x + (4 + 744 * ((G.1 1))) + 106 * π' ((G.1 1)) (gK G)) ∨ (x + (4 + 744 * ((G.1 1))) + 106 * π' ((G.1 1)) (gK G)) + 106 ≤ a) → I' a = I a) → I' (x + (2 + 744 * (G.1 1))) 1 = gK G → I' (x + (2 + 744 * (G.1 1))) 2 = 0 → yS I' ((x + (4 + 744 * ((G.1 1))) + 106 * π' ((G.1 1)) (gK G))) ((G.2.1 (G.1 1) (G.1 (10 + G.1 1)))) → yOk I' ((x + (4 + 744 * ((G.1 1))) + 106 * π' ((G.1 1)) (gK G))) → Q (.inl (some (mR ((x + (4 + 744 * ((G.1 1))) + 106 * π' ((G.1 1)) (gK G)))))) I' S') : mRun (D + 4) 24 [mR (x + (2 + 744 * (G.1 1)))] I S Q := by
  obtain ⟨⟨c0, c1, c2⟩, u0, u1, u2⟩ := gJ_b hg
  have hK := gK_b hg
  have h1 := h.1
  have hu : I (x + (2 + 744 * (G.1 1))) 1 = (G.1 (10 + G.1 1)) := (h.2.2.1 ((G.1 1)) c0 c1).1
  have hs0 := h.2.2.2.2.1 ((G.1 1)) ((G.1 (10 + G.1 1))) c0 c2 u0 u1
  have hok : ∀ j : Int, 0 ≤ j → j < 7 → yOk I ((x + (4 + 744 * ((G.1 1))) + 106 * π ((G.1 1)) j)) := fun j j0 j1 => h.2.2.2.1 ((G.1 1)) (π ((G.1 1)) j) c0 c1 (yx_pi h1 c0 c1 j0 j1).1 (yx_pi h1 c0 c1 j0 j1).2
  have hBj : ∀ j : Int, 0 ≤ j → j < 7 → yB S ((x + (4 + 744 * ((G.1 1))) + 106 * π ((G.1 1)) j)) := fun j j0 j1 => yx_B h1 c0 c1 (yx_pi h1 c0 c1 j0 j1).1 (yx_pi h1 c0 c1 j0 j1).2
  have hdis : ∀ i j : Int, 0 ≤ i → i < 7 → 0 ≤ j → j < 7 → i ≠ j → ((x + (4 + 744 * ((G.1 1))) + 106 * π ((G.1 1)) i) + 106 ≤ (x + (4 + 744 * ((G.1 1))) + 106 * π ((G.1 1)) j) ∨ (x + (4 + 744 * ((G.1 1))) + 106 * π ((G.1 1)) j) + 106 ≤ (x + (4 + 744 * ((G.1 1))) + 106 * π ((G.1 1)) i)) := fun i j i0 i1 j0 j1 hne => by
    have a1 := yx_pi h1 c0 c1 i0 i1
    have a2 := yx_pi h1 c0 c1 j0 j1
    have a3 : π ((G.1 1)) i ≠ π ((G.1 1)) j := fun e => hne (yx_inj h1 c0 c1 i0 i1 j0 j1 e)
    omega
  have hout : ∀ j : Int, 0 ≤ j → j < 7 → (x + (2 + 744 * (G.1 1)) < (x + (4 + 744 * ((G.1 1))) + 106 * π ((G.1 1)) j) ∧ (x + (4 + 744 * ((G.1 1))) + 106 * π ((G.1 1)) j) + 106 ≤ x + 2234) := fun j j0 j1 => by
    have a1 := yx_pi h1 c0 c1 j0 j1
    omega
  have hnow : ∀ (Q : mQ), mRun (D + 3) 22 [mR (x + (2 + 744 * (G.1 1)))] I S Q = Q (.inl (some (mR ((x + (4 + 744 * ((G.1 1))) + 106 * π ((G.1 1)) ((G.1 (10 + G.1 1)))))))) I S := fun Q => r_Brnow (D + 2) h1 c0 c1 hu u0 (by omega)
  by_cases c6 : (G.1 (10 + G.1 1)) < 6
  · have eK := hK.2.2.1 c6
    simp (disch := first | omega | exact Nat.le_of_ble_eq_true rfl | (simp (disch := omega) only [yx_k h1, yx_0 h1, yx_4 h1, yx_5 h1, yx_6 h1, yx_7 h1, yx_8 h1, yx_9 h1, yx_10 h1, yx_k1 h1, yx_l1 h1, yx_b h1, yx_bk h1, yx_bs h1, yx_sk h1, yx_sl h1, yx_s h1, yx_e h1, yx_k9 h1, yx_l9 h1, yx_k10 h1, yx_l10 h1] <;> omega)) only [w_iconst, w_bipush, w_sipush, w_ldc_s, w_ldcw_s, w_ldc_i, w_ldcw_i, w_lconst, w_fconst, w_dconst, w_iload, w_iload_n, w_aload, w_aload_n, w_dload, w_istore, w_istore_n, w_astore_r, w_astore_s, w_astore_n_r, w_astore_n_s, w_dstore, w_iinc, w_iadd, w_isub, w_imul, w_iand, w_iushr, v_idiv, v_irem, w_ineg, w_i2l, w_i2c, w_i2f, w_i2d, v_f2d, w_lcmp, w_dcmp, v_fdiv, v_ddiv, w_dup_i, w_dup_r, w_dup2, w_dup_x2, w_pop_i, w_pop_r, w_goto, w_switch, w_ret_i, v_ret_z, v_ret_c, w_ret_a, w_ret_s, w_ret_f, w_ret_d, w_ret_v, v_iaload, v_baload, v_caload, v_laload, v_aaload, v_iastore, v_bastore, v_castore, v_lastore, v_aastore, v_alen, v_newa, v_anewa, w_new, w_throw, w_dead, v_getf_i, v_getf_z, v_getf_r, v_putf_i, v_putf_z, v_putf_r, w_call0, w_call1, w_callv1, w_calli1, w_callt1, w_call2, w_callv2, w_calli2, w_callt2, w_call3, w_callv3, w_calli3, w_call4, w_callv4, w_calli4, w_call5, w_callv5, w_calli5, w_call6, w_callv6, w_calli6, w_call7, w_callv7, w_calli7, w_call8, w_callv8, w_calli8, c_if0_eq_t, c_if0_eq_f, c_if2_eq_t, c_if2_eq_f, c_if0_ne_t, c_if0_ne_f, c_if2_ne_t, c_if2_ne_f, c_if0_lt_t, c_if0_lt_f, c_if2_lt_t, c_if2_lt_f, c_if0_ge_t, c_if0_ge_f, c_if2_ge_t, c_if2_ge_f, c_if0_gt_t, c_if0_gt_f, c_if2_gt_t, c_if2_gt_f, c_if0_le_t, c_if0_le_f, c_if2_le_t, c_if2_le_f, w_nil, uI_s, uA_r, uA_s, uD_d, mPut_0, mCl_own, mCv_go, mCl_min, mCl_cpy, mCv_obj, mAct_len, mAct_chrc, mAft_v, mAft_n, mAft_x, mGet_0, mSet_0, mGet_1, mSet_1, mGet_2, mSet_2, mGet_3, mSet_3, mGet_4, mSet_4, mGet_5, mSet_5, mGet_6, mSet_6, mGet_7, mSet_7, mGet_8, mSet_8, mGet_9, mSet_9, mGet_10, mSet_10, mGet_11, mSet_11, mGet_12, mSet_12, mGet_13, mSet_13, e_Br_startChange, a_Br_startChange_0, bk_Br_startChange_0, a_Br_startChange_31, bk_Br_startChange_31, yx_k h1, yx_0 h1, yx_4 h1, yx_5 h1, yx_6 h1, yx_7 h1, yx_8 h1, yx_9 h1, yx_10 h1, yx_k1 h1, yx_l1 h1, yx_b h1, yx_bk h1, yx_bs h1, yx_sk h1, yx_sl h1, yx_s h1, yx_e h1, yx_k9 h1, yx_l9 h1, yx_k10 h1, yx_l10 h1, hnow, hu, wr, up_nk, up_fa]
    generalize hJ1 : mUp (mUp I (x + (2 + 744 * (G.1 1))) 1 ((G.1 (10 + G.1 1)) + 1)) (x + (2 + 744 * (G.1 1))) 2 0 = J1
    have jne : ∀ a : Int, a ≠ x + (2 + 744 * (G.1 1)) → J1 a = I a := fun a ha => by rw [← hJ1, up_fa ha, up_fa ha]
    have j1 : J1 (x + (2 + 744 * (G.1 1))) 1 = (G.1 (10 + G.1 1)) + 1 := by rw [← hJ1, up_nk (by decide), up_eq rfl rfl]
    have j2 : J1 (x + (2 + 744 * (G.1 1))) 2 = 0 := by rw [← hJ1, up_eq rfl rfl]
    rw [r_Brnow (D + 2) h1 c0 c1 j1 (by omega) (by omega)]
    have hB1 := hBj ((G.1 (10 + G.1 1)) + 1) (by omega) (by omega)
    simp (disch := first | omega | exact Nat.le_of_ble_eq_true rfl | (simp (disch := omega) only [yb_k hB1] <;> omega)) only [w_iconst, w_bipush, w_sipush, w_ldc_s, w_ldcw_s, w_ldc_i, w_ldcw_i, w_lconst, w_fconst, w_dconst, w_iload, w_iload_n, w_aload, w_aload_n, w_dload, w_istore, w_istore_n, w_astore_r, w_astore_s, w_astore_n_r, w_astore_n_s, w_dstore, w_iinc, w_iadd, w_isub, w_imul, w_iand, w_iushr, v_idiv, v_irem, w_ineg, w_i2l, w_i2c, w_i2f, w_i2d, v_f2d, w_lcmp, w_dcmp, v_fdiv, v_ddiv, w_dup_i, w_dup_r, w_dup2, w_dup_x2, w_pop_i, w_pop_r, w_goto, w_switch, w_ret_i, v_ret_z, v_ret_c, w_ret_a, w_ret_s, w_ret_f, w_ret_d, w_ret_v, v_iaload, v_baload, v_caload, v_laload, v_aaload, v_iastore, v_bastore, v_castore, v_lastore, v_aastore, v_alen, v_newa, v_anewa, w_new, w_throw, w_dead, v_getf_i, v_getf_z, v_getf_r, v_putf_i, v_putf_z, v_putf_r, w_call0, w_call1, w_callv1, w_calli1, w_callt1, w_call2, w_callv2, w_calli2, w_callt2, w_call3, w_callv3, w_calli3, w_call4, w_callv4, w_calli4, w_call5, w_callv5, w_calli5, w_call6, w_callv6, w_calli6, w_call7, w_callv7, w_calli7, w_call8, w_callv8, w_calli8, c_if0_eq_t, c_if0_eq_f, c_if2_eq_t, c_if2_eq_f, c_if0_ne_t, c_if0_ne_f, c_if2_ne_t, c_if2_ne_f, c_if0_lt_t, c_if0_lt_f, c_if2_lt_t, c_if2_lt_f, c_if0_ge_t, c_if0_ge_f, c_if2_ge_t, c_if2_ge_f, c_if0_gt_t, c_if0_gt_f, c_if2_gt_t, c_if2_gt_f, c_if0_le_t, c_if0_le_f, c_if2_le_t, c_if2_le_f, w_nil, uI_s, uA_r, uA_s, uD_d, mPut_0, mCl_own, mCv_go, mCl_min, mCl_cpy, mCv_obj, mAct_len, mAct_chrc, mAft_v, mAft_n, mAft_x, mGet_0, mSet_0, mGet_1, mSet_1, mGet_2, mSet_2, mGet_3, mSet_3, mGet_4, mSet_4, mGet_5, mSet_5, mGet_6, mSet_6, mGet_7, mSet_7, mGet_8, mSet_8, mGet_9, mSet_9, mGet_10, mSet_10, mGet_11, mSet_11, mGet_12, mSet_12, mGet_13, mSet_13, yb_k hB1]
    have hin : ∀ j a : Int, 0 ≤ j → j < 7 → (x + (4 + 744 * ((G.1 1))) + 106 * π ((G.1 1)) j) ≤ a → a < (x + (4 + 744 * ((G.1 1))) + 106 * π ((G.1 1)) j) + 106 → J1 a = I a := fun j a q0 q1 a0 a1 => jne a (by have := hout j q0 q1; omega)
    have ok1 : ∀ j : Int, 0 ≤ j → j < 7 → yOk J1 ((x + (4 + 744 * ((G.1 1))) + 106 * π ((G.1 1)) j)) := fun j q0 q1 => yOk_k (hok j q0 q1) (fun a a0 a1 => hin j a q0 q1 a0 a1)
    have hd9 := hdis ((G.1 (10 + G.1 1)) + 1) ((G.1 (10 + G.1 1))) (by omega) (by omega) (by omega) (by omega) (by omega)
    refine p_Ba_copy D hB1 (hBj ((G.1 (10 + G.1 1))) u0 (by omega)) hd9 (ok1 ((G.1 (10 + G.1 1))) u0 (by omega)) (fun I' hc => ?_)
    have hf := hc.1.1.1
    have i1 : I' (x + (2 + 744 * (G.1 1))) = J1 (x + (2 + 744 * (G.1 1))) := hf _ (by have := hout ((G.1 (10 + G.1 1)) + 1) (by omega) (by omega); omega)
    have hnow2 : ∀ (Q : mQ), mRun (D + 3) 22 [mR (x + (2 + 744 * (G.1 1)))] I' S Q = Q (.inl (some (mR ((x + (4 + 744 * ((G.1 1))) + 106 * π ((G.1 1)) ((G.1 (10 + G.1 1)) + 1)))))) I' S := fun Q => r_Brnow (D + 2) h1 c0 c1 (by rw [i1]; exact j1) (by omega) (by omega)
    simp (disch := first | omega | exact Nat.le_of_ble_eq_true rfl | (simp (disch := omega) only [yx_k h1, yx_0 h1, yx_4 h1, yx_5 h1, yx_6 h1, yx_7 h1, yx_8 h1, yx_9 h1, yx_10 h1, yx_k1 h1, yx_l1 h1, yx_b h1, yx_bk h1, yx_bs h1, yx_sk h1, yx_sl h1, yx_s h1, yx_e h1, yx_k9 h1, yx_l9 h1, yx_k10 h1, yx_l10 h1] <;> omega)) only [w_iconst, w_bipush, w_sipush, w_ldc_s, w_ldcw_s, w_ldc_i, w_ldcw_i, w_lconst, w_fconst, w_dconst, w_iload, w_iload_n, w_aload, w_aload_n, w_dload, w_istore, w_istore_n, w_astore_r, w_astore_s, w_astore_n_r, w_astore_n_s, w_dstore, w_iinc, w_iadd, w_isub, w_imul, w_iand, w_iushr, v_idiv, v_irem, w_ineg, w_i2l, w_i2c, w_i2f, w_i2d, v_f2d, w_lcmp, w_dcmp, v_fdiv, v_ddiv, w_dup_i, w_dup_r, w_dup2, w_dup_x2, w_pop_i, w_pop_r, w_goto, w_switch, w_ret_i, v_ret_z, v_ret_c, w_ret_a, w_ret_s, w_ret_f, w_ret_d, w_ret_v, v_iaload, v_baload, v_caload, v_laload, v_aaload, v_iastore, v_bastore, v_castore, v_lastore, v_aastore, v_alen, v_newa, v_anewa, w_new, w_throw, w_dead, v_getf_i, v_getf_z, v_getf_r, v_putf_i, v_putf_z, v_putf_r, w_call0, w_call1, w_callv1, w_calli1, w_callt1, w_call2, w_callv2, w_calli2, w_callt2, w_call3, w_callv3, w_calli3, w_call4, w_callv4, w_calli4, w_call5, w_callv5, w_calli5, w_call6, w_callv6, w_calli6, w_call7, w_callv7, w_calli7, w_call8, w_callv8, w_calli8, c_if0_eq_t, c_if0_eq_f, c_if2_eq_t, c_if2_eq_f, c_if0_ne_t, c_if0_ne_f, c_if2_ne_t, c_if2_ne_f, c_if0_lt_t, c_if0_lt_f, c_if2_lt_t, c_if2_lt_f, c_if0_ge_t, c_if0_ge_f, c_if2_ge_t, c_if2_ge_f, c_if0_gt_t, c_if0_gt_f, c_if2_gt_t, c_if2_gt_f, c_if0_le_t, c_if0_le_f, c_if2_le_t, c_if2_le_f, w_nil, uI_s, uA_r, uA_s, uD_d, mPut_0, mCl_own, mCv_go, mCl_min, mCl_cpy, mCv_obj, mAct_len, mAct_chrc, mAft_v, mAft_n, mAft_x, mGet_0, mSet_0, mGet_1, mSet_1, mGet_2, mSet_2, mGet_3, mSet_3, mGet_4, mSet_4, mGet_5, mSet_5, mGet_6, mSet_6, mGet_7, mSet_7, mGet_8, mSet_8, mGet_9, mSet_9, mGet_10, mSet_10, mGet_11, mSet_11, mGet_12, mSet_12, mGet_13, mSet_13, yx_k h1, yx_0 h1, yx_4 h1, yx_5 h1, yx_6 h1, yx_7 h1, yx_8 h1, yx_9 h1, yx_10 h1, yx_k1 h1, yx_l1 h1, yx_b h1, yx_bk h1, yx_bs h1, yx_sk h1, yx_sl h1, yx_s h1, yx_e h1, yx_k9 h1, yx_l9 h1, yx_k10 h1, yx_l10 h1, hnow2]
    have e1 : (x + (4 + 744 * ((G.1 1))) + 106 * π ((G.1 1)) ((G.1 (10 + G.1 1)) + 1)) = (x + (4 + 744 * ((G.1 1))) + 106 * π ((G.1 1)) (gK G)) := by rw [eK]
    rw [e1]
    rw [e1] at hc hf hd9
    have ok9 := ok1 (gK G) (by omega) (by omega)
    exact kk I' S π h1 hE_r (fun _ _ _ => rfl) (fun j q0 q1 => by rw [if_pos c6]) (fun a a1 a2 => by rw [hf a a2]; exact jne a a1) (by rw [i1, j1, eK]) (by rw [i1, j2]) (yS_cp (gO_w hg).1 (yS_k (gO_w hg).1 hs0 (fun a a0 a1 => hin ((G.1 (10 + G.1 1))) a u0 (by omega) a0 a1)) hc) (yOk_cp hd9 (ok1 ((G.1 (10 + G.1 1))) u0 (by omega)) ok9 hc)
  · have eK := hK.2.2.2 c6
    have hu6 : I (x + (2 + 744 * (G.1 1))) 1 = 6 := by rw [hu]; exact eK.2
    simp (disch := first | omega | exact Nat.le_of_ble_eq_true rfl | (simp (disch := omega) only [yx_k h1, yx_0 h1, yx_4 h1, yx_5 h1, yx_6 h1, yx_7 h1, yx_8 h1, yx_9 h1, yx_10 h1, yx_k1 h1, yx_l1 h1, yx_b h1, yx_bk h1, yx_bs h1, yx_sk h1, yx_sl h1, yx_s h1, yx_e h1, yx_k9 h1, yx_l9 h1, yx_k10 h1, yx_l10 h1] <;> omega)) only [w_iconst, w_bipush, w_sipush, w_ldc_s, w_ldcw_s, w_ldc_i, w_ldcw_i, w_lconst, w_fconst, w_dconst, w_iload, w_iload_n, w_aload, w_aload_n, w_dload, w_istore, w_istore_n, w_astore_r, w_astore_s, w_astore_n_r, w_astore_n_s, w_dstore, w_iinc, w_iadd, w_isub, w_imul, w_iand, w_iushr, v_idiv, v_irem, w_ineg, w_i2l, w_i2c, w_i2f, w_i2d, v_f2d, w_lcmp, w_dcmp, v_fdiv, v_ddiv, w_dup_i, w_dup_r, w_dup2, w_dup_x2, w_pop_i, w_pop_r, w_goto, w_switch, w_ret_i, v_ret_z, v_ret_c, w_ret_a, w_ret_s, w_ret_f, w_ret_d, w_ret_v, v_iaload, v_baload, v_caload, v_laload, v_aaload, v_iastore, v_bastore, v_castore, v_lastore, v_aastore, v_alen, v_newa, v_anewa, w_new, w_throw, w_dead, v_getf_i, v_getf_z, v_getf_r, v_putf_i, v_putf_z, v_putf_r, w_call0, w_call1, w_callv1, w_calli1, w_callt1, w_call2, w_callv2, w_calli2, w_callt2, w_call3, w_callv3, w_calli3, w_call4, w_callv4, w_calli4, w_call5, w_callv5, w_calli5, w_call6, w_callv6, w_calli6, w_call7, w_callv7, w_calli7, w_call8, w_callv8, w_calli8, c_if0_eq_t, c_if0_eq_f, c_if2_eq_t, c_if2_eq_f, c_if0_ne_t, c_if0_ne_f, c_if2_ne_t, c_if2_ne_f, c_if0_lt_t, c_if0_lt_f, c_if2_lt_t, c_if2_lt_f, c_if0_ge_t, c_if0_ge_f, c_if2_ge_t, c_if2_ge_f, c_if0_gt_t, c_if0_gt_f, c_if2_gt_t, c_if2_gt_f, c_if0_le_t, c_if0_le_f, c_if2_le_t, c_if2_le_f, w_nil, uI_s, uA_r, uA_s, uD_d, mPut_0, mCl_own, mCv_go, mCl_min, mCl_cpy, mCv_obj, mAct_len, mAct_chrc, mAft_v, mAft_n, mAft_x, mGet_0, mSet_0, mGet_1, mSet_1, mGet_2, mSet_2, mGet_3, mSet_3, mGet_4, mSet_4, mGet_5, mSet_5, mGet_6, mSet_6, mGet_7, mSet_7, mGet_8, mSet_8, mGet_9, mSet_9, mGet_10, mSet_10, mGet_11, mSet_11, mGet_12, mSet_12, mGet_13, mSet_13, e_Br_startChange, a_Br_startChange_0, bk_Br_startChange_0, a_Br_startChange_27, bk_Br_startChange_27, yx_k h1, yx_0 h1, yx_4 h1, yx_5 h1, yx_6 h1, yx_7 h1, yx_8 h1, yx_9 h1, yx_10 h1, yx_k1 h1, yx_l1 h1, yx_b h1, yx_bk h1, yx_bs h1, yx_sk h1, yx_sl h1, yx_s h1, yx_e h1, yx_k9 h1, yx_l9 h1, yx_k10 h1, yx_l10 h1, hnow, hu6]
    refine p_forgetO (D + 2) h1 c0 c1 (fun S1 e2 e1 a1 a2 => ?_)
    have p0 := yx_pi h1 c0 c1 (show (0 : Int) ≤ 0 by decide) (by decide)
    have hX1 : yX S1 x (fun k j => if k = (G.1 1) then (if j < 6 then π k (j + 1) else π k 0) else π k j) := by
      refine yX_h h1 (fun a _ _ a3 => e1 a (a3 ((G.1 1)) c0 c1)) (fun a _ _ => by rw [e2]; exact ⟨rfl, rfl⟩) (fun k j k0 k1 j0 j1 => ?_) (fun k j j' k0 k1 j0 j1 j0' j1' e => ?_)
      · by_cases ck : k = (G.1 1)
        · rw [if_pos ck, ck]
          by_cases cj : j < 6
          · rw [if_pos cj]
            exact ⟨a1 j j0 cj, yx_pi h1 c0 c1 (by omega) (by omega)⟩
          · rw [if_neg cj]
            obtain rfl : j = 6 := by omega
            exact ⟨a2, yx_pi h1 c0 c1 (by decide) (by decide)⟩
        · rw [if_neg ck, e1 _ (by omega)]
          exact ⟨yx_s h1 k0 k1 j0 j1, yx_pi h1 k0 k1 j0 j1⟩
      · by_cases ck : k = (G.1 1)
        · rw [if_pos ck, if_pos ck] at e
          by_cases cj : j < 6
          · rw [if_pos cj] at e
            by_cases cj' : j' < 6
            · rw [if_pos cj'] at e
              have := yx_inj h1 k0 k1 (by omega) (by omega) (by omega) (by omega) e
              omega
            · rw [if_neg cj'] at e
              have := yx_inj h1 k0 k1 (by omega) (by omega) (by omega) (by omega) e
              omega
          · rw [if_neg cj] at e
            by_cases cj' : j' < 6
            · rw [if_pos cj'] at e
              have := yx_inj h1 k0 k1 (by omega) (by omega) (by omega) (by omega) e
              omega
            · omega
        · rw [if_neg ck, if_neg ck] at e
          exact yx_inj h1 k0 k1 j0 j1 j0' j1' e
    generalize hπ : (fun k j => if k = (G.1 1) then (if j < 6 then π k (j + 1) else π k 0) else π k j : Int → Int → Int) = π' at hX1
    have q6 : π' ((G.1 1)) 6 = π ((G.1 1)) 0 := by rw [← hπ]; dsimp only; rw [if_pos rfl, if_neg (by decide)]
    have qj : ∀ j : Int, j < 6 → π' ((G.1 1)) j = π ((G.1 1)) (j + 1) := fun j hj => by rw [← hπ]; dsimp only; rw [if_pos rfl, if_pos hj]
    have b6 : (x + (4 + 744 * ((G.1 1))) + 106 * π' ((G.1 1)) 6) = (x + (4 + 744 * ((G.1 1))) + 106 * π ((G.1 1)) 0) := by show _ + 106 * π' ((G.1 1)) 6 = _ + 106 * π ((G.1 1)) 0; rw [q6]
    generalize hJ1 : mUp I (x + (2 + 744 * (G.1 1))) 2 0 = J1
    have jne : ∀ a : Int, a ≠ x + (2 + 744 * (G.1 1)) → J1 a = I a := fun a ha => by rw [← hJ1, up_fa ha]
    have j1 : J1 (x + (2 + 744 * (G.1 1))) 1 = 6 := by rw [← hJ1, up_nk (by decide)]; exact hu6
    have j2 : J1 (x + (2 + 744 * (G.1 1))) 2 = 0 := by rw [← hJ1, up_eq rfl rfl]
    have hnow1 : ∀ (Q : mQ), mRun (D + 3) 22 [mR (x + (2 + 744 * (G.1 1)))] J1 S1 Q = Q (.inl (some (mR ((x + (4 + 744 * ((G.1 1))) + 106 * π' ((G.1 1)) 6))))) J1 S1 := fun Q => r_Brnow (D + 2) hX1 c0 c1 j1 (by decide) (by decide)
    have hB6 : yB S1 ((x + (4 + 744 * ((G.1 1))) + 106 * π' ((G.1 1)) 6)) := yx_B hX1 c0 c1 (yx_pi hX1 c0 c1 (by decide) (by decide)).1 (yx_pi hX1 c0 c1 (by decide) (by decide)).2
    have hB5 : yB S1 ((x + (4 + 744 * ((G.1 1))) + 106 * π ((G.1 1)) ((G.1 (10 + G.1 1))))) := yx_B hX1 c0 c1 (yx_pi h1 c0 c1 u0 (by omega)).1 (yx_pi h1 c0 c1 u0 (by omega)).2
    simp (disch := first | omega | exact Nat.le_of_ble_eq_true rfl | (simp (disch := omega) only [yx_k hX1, yx_0 hX1, yx_4 hX1, yx_5 hX1, yx_6 hX1, yx_7 hX1, yx_8 hX1, yx_9 hX1, yx_10 hX1, yx_k1 hX1, yx_l1 hX1, yx_b hX1, yx_bk hX1, yx_bs hX1, yx_sk hX1, yx_sl hX1, yx_s hX1, yx_e hX1, yx_k9 hX1, yx_l9 hX1, yx_k10 hX1, yx_l10 hX1, yb_k hB6] <;> omega)) only [w_iconst, w_bipush, w_sipush, w_ldc_s, w_ldcw_s, w_ldc_i, w_ldcw_i, w_lconst, w_fconst, w_dconst, w_iload, w_iload_n, w_aload, w_aload_n, w_dload, w_istore, w_istore_n, w_astore_r, w_astore_s, w_astore_n_r, w_astore_n_s, w_dstore, w_iinc, w_iadd, w_isub, w_imul, w_iand, w_iushr, v_idiv, v_irem, w_ineg, w_i2l, w_i2c, w_i2f, w_i2d, v_f2d, w_lcmp, w_dcmp, v_fdiv, v_ddiv, w_dup_i, w_dup_r, w_dup2, w_dup_x2, w_pop_i, w_pop_r, w_goto, w_switch, w_ret_i, v_ret_z, v_ret_c, w_ret_a, w_ret_s, w_ret_f, w_ret_d, w_ret_v, v_iaload, v_baload, v_caload, v_laload, v_aaload, v_iastore, v_bastore, v_castore, v_lastore, v_aastore, v_alen, v_newa, v_anewa, w_new, w_throw, w_dead, v_getf_i, v_getf_z, v_getf_r, v_putf_i, v_putf_z, v_putf_r, w_call0, w_call1, w_callv1, w_calli1, w_callt1, w_call2, w_callv2, w_calli2, w_callt2, w_call3, w_callv3, w_calli3, w_call4, w_callv4, w_calli4, w_call5, w_callv5, w_calli5, w_call6, w_callv6, w_calli6, w_call7, w_callv7, w_calli7, w_call8, w_callv8, w_calli8, c_if0_eq_t, c_if0_eq_f, c_if2_eq_t, c_if2_eq_f, c_if0_ne_t, c_if0_ne_f, c_if2_ne_t, c_if2_ne_f, c_if0_lt_t, c_if0_lt_f, c_if2_lt_t, c_if2_lt_f, c_if0_ge_t, c_if0_ge_f, c_if2_ge_t, c_if2_ge_f, c_if0_gt_t, c_if0_gt_f, c_if2_gt_t, c_if2_gt_f, c_if0_le_t, c_if0_le_f, c_if2_le_t, c_if2_le_f, w_nil, uI_s, uA_r, uA_s, uD_d, mPut_0, mCl_own, mCv_go, mCl_min, mCl_cpy, mCv_obj, mAct_len, mAct_chrc, mAft_v, mAft_n, mAft_x, mGet_0, mSet_0, mGet_1, mSet_1, mGet_2, mSet_2, mGet_3, mSet_3, mGet_4, mSet_4, mGet_5, mSet_5, mGet_6, mSet_6, mGet_7, mSet_7, mGet_8, mSet_8, mGet_9, mSet_9, mGet_10, mSet_10, mGet_11, mSet_11, mGet_12, mSet_12, mGet_13, mSet_13, a_Br_startChange_31, bk_Br_startChange_31, yx_k hX1, yx_0 hX1, yx_4 hX1, yx_5 hX1, yx_6 hX1, yx_7 hX1, yx_8 hX1, yx_9 hX1, yx_10 hX1, yx_k1 hX1, yx_l1 hX1, yx_b hX1, yx_bk hX1, yx_bs hX1, yx_sk hX1, yx_sl hX1, yx_s hX1, yx_e hX1, yx_k9 hX1, yx_l9 hX1, yx_k10 hX1, yx_l10 hX1, hJ1, hnow1]
    have hin : ∀ j a : Int, 0 ≤ j → j < 7 → (x + (4 + 744 * ((G.1 1))) + 106 * π ((G.1 1)) j) ≤ a → a < (x + (4 + 744 * ((G.1 1))) + 106 * π ((G.1 1)) j) + 106 → J1 a = I a := fun j a q0 q1 a0 a1 => jne a (by have := hout j q0 q1; omega)
    have ok1 : ∀ j : Int, 0 ≤ j → j < 7 → yOk J1 ((x + (4 + 744 * ((G.1 1))) + 106 * π ((G.1 1)) j)) := fun j q0 q1 => yOk_k (hok j q0 q1) (fun a a0 a1 => hin j a q0 q1 a0 a1)
    have hd9 := hdis 0 ((G.1 (10 + G.1 1))) (by omega) (by omega) (by omega) (by omega) (by omega)
    have ho0 := hout 0 (by decide) (by decide)
    rw [← b6] at hd9 ho0
    refine p_Ba_copy D hB6 hB5 hd9 (ok1 ((G.1 (10 + G.1 1))) u0 (by omega)) (fun I' hc => ?_)
    have hf := hc.1.1.1
    have i1 : I' (x + (2 + 744 * (G.1 1))) = J1 (x + (2 + 744 * (G.1 1))) := hf _ (by omega)
    have hnow2 : ∀ (Q : mQ), mRun (D + 3) 22 [mR (x + (2 + 744 * (G.1 1)))] I' S1 Q = Q (.inl (some (mR ((x + (4 + 744 * ((G.1 1))) + 106 * π' ((G.1 1)) 6))))) I' S1 := fun Q => r_Brnow (D + 2) hX1 c0 c1 (by rw [i1]; exact j1) (by decide) (by decide)
    simp (disch := first | omega | exact Nat.le_of_ble_eq_true rfl | (simp (disch := omega) only [yx_k hX1, yx_0 hX1, yx_4 hX1, yx_5 hX1, yx_6 hX1, yx_7 hX1, yx_8 hX1, yx_9 hX1, yx_10 hX1, yx_k1 hX1, yx_l1 hX1, yx_b hX1, yx_bk hX1, yx_bs hX1, yx_sk hX1, yx_sl hX1, yx_s hX1, yx_e hX1, yx_k9 hX1, yx_l9 hX1, yx_k10 hX1, yx_l10 hX1] <;> omega)) only [w_iconst, w_bipush, w_sipush, w_ldc_s, w_ldcw_s, w_ldc_i, w_ldcw_i, w_lconst, w_fconst, w_dconst, w_iload, w_iload_n, w_aload, w_aload_n, w_dload, w_istore, w_istore_n, w_astore_r, w_astore_s, w_astore_n_r, w_astore_n_s, w_dstore, w_iinc, w_iadd, w_isub, w_imul, w_iand, w_iushr, v_idiv, v_irem, w_ineg, w_i2l, w_i2c, w_i2f, w_i2d, v_f2d, w_lcmp, w_dcmp, v_fdiv, v_ddiv, w_dup_i, w_dup_r, w_dup2, w_dup_x2, w_pop_i, w_pop_r, w_goto, w_switch, w_ret_i, v_ret_z, v_ret_c, w_ret_a, w_ret_s, w_ret_f, w_ret_d, w_ret_v, v_iaload, v_baload, v_caload, v_laload, v_aaload, v_iastore, v_bastore, v_castore, v_lastore, v_aastore, v_alen, v_newa, v_anewa, w_new, w_throw, w_dead, v_getf_i, v_getf_z, v_getf_r, v_putf_i, v_putf_z, v_putf_r, w_call0, w_call1, w_callv1, w_calli1, w_callt1, w_call2, w_callv2, w_calli2, w_callt2, w_call3, w_callv3, w_calli3, w_call4, w_callv4, w_calli4, w_call5, w_callv5, w_calli5, w_call6, w_callv6, w_calli6, w_call7, w_callv7, w_calli7, w_call8, w_callv8, w_calli8, c_if0_eq_t, c_if0_eq_f, c_if2_eq_t, c_if2_eq_f, c_if0_ne_t, c_if0_ne_f, c_if2_ne_t, c_if2_ne_f, c_if0_lt_t, c_if0_lt_f, c_if2_lt_t, c_if2_lt_f, c_if0_ge_t, c_if0_ge_f, c_if2_ge_t, c_if2_ge_f, c_if0_gt_t, c_if0_gt_f, c_if2_gt_t, c_if2_gt_f, c_if0_le_t, c_if0_le_f, c_if2_le_t, c_if2_le_f, w_nil, uI_s, uA_r, uA_s, uD_d, mPut_0, mCl_own, mCv_go, mCl_min, mCl_cpy, mCv_obj, mAct_len, mAct_chrc, mAft_v, mAft_n, mAft_x, mGet_0, mSet_0, mGet_1, mSet_1, mGet_2, mSet_2, mGet_3, mSet_3, mGet_4, mSet_4, mGet_5, mSet_5, mGet_6, mSet_6, mGet_7, mSet_7, mGet_8, mSet_8, mGet_9, mSet_9, mGet_10, mSet_10, mGet_11, mSet_11, mGet_12, mSet_12, mGet_13, mSet_13, yx_k hX1, yx_0 hX1, yx_4 hX1, yx_5 hX1, yx_6 hX1, yx_7 hX1, yx_8 hX1, yx_9 hX1, yx_10 hX1, yx_k1 hX1, yx_l1 hX1, yx_b hX1, yx_bk hX1, yx_bs hX1, yx_sk hX1, yx_sl hX1, yx_s hX1, yx_e hX1, yx_k9 hX1, yx_l9 hX1, yx_k10 hX1, yx_l10 hX1, hnow2]
    have ok9 := ok1 0 (by decide) (by decide)
    rw [← b6] at ok9
    have kk' := kk I' S1 π' hX1 ⟨e2, fun a ha => e1 a (by omega)⟩
    rw [eK.1] at kk'
    refine kk' (fun k j hk => by rw [← hπ]; dsimp only; rw [if_neg hk]) (fun j q0 q1 => by rw [if_neg c6]; exact qj j q1) (fun a a1 a2 => by rw [hf a a2]; exact jne a a1) (by rw [i1, j1]) (by rw [i1, j2]) (yS_cp (gO_w hg).1 (yS_k (gO_w hg).1 hs0 (fun a a0 a1 => hin ((G.1 (10 + G.1 1))) a u0 (by omega) a0 a1)) hc) (yOk_cp hd9 (ok1 ((G.1 (10 + G.1 1))) u0 (by omega)) ok9 hc)
/-- plans forgotten -/
theorem yFg {I : mN} {b : Int} {σ : sT} (ho : yOk I b) (h : yS I b σ) {J : mN} (hJ : J = mUp (mUp (mUp (mUp I (b + 4) 0 0) (b + 4) 1 0) (b + 4) 2 0) b 8 0) : yOk J b ∧ yS J b σ ∧ (∀ a : Int, a ≠ b → a ≠ b + 4 → J a = I a) ∧ (∀ s : Int, 0 ≤ s → s < 3 → J (b + 4) s = 0) ∧ J b 8 = 0 ∧ ∀ j : Int, j ≠ 8 → J b j = I b j := by
  have ne : ∀ a : Int, a ≠ b → a ≠ b + 4 → J a = I a := fun a a1 a2 => by rw [hJ, up_fa a1, up_fa a2, up_fa a2, up_fa a2]
  have h4 : ∀ s : Int, 0 ≤ s → s < 3 → J (b + 4) s = 0 := fun s s0 s1 => by
    rw [hJ, up_fa (by omega)]
    have h9 : s = 0 ∨ s = 1 ∨ s = 2 := by omega
    rcases h9 with rfl | rfl | rfl <;> simp (disch := first | omega | exact Nat.le_of_ble_eq_true rfl) only [up_eq, up_nk]
  have h8 : J b 8 = 0 := by rw [hJ, up_eq rfl rfl]
  have hb : ∀ j : Int, j ≠ 8 → J b j = I b j := fun j hj => by rw [hJ, up_nk hj, up_fa (by omega), up_fa (by omega), up_fa (by omega)]
  refine ⟨?_, ?_, ne, h4, h8, hb⟩
  · obtain ⟨⟨g1, g2, g3, g4⟩, k2, k3, k4, k5⟩ := ho
    refine ⟨⟨by rw [hb 0 (by decide), hb 1 (by decide), hb 2 (by decide), hb 3 (by decide)]; exact g1, fun p p0 p1 => ?_, fun r r0 r1 => ?_, fun r r0 r1 => ?_⟩, fun r r0 r1 => ?_, fun r r0 r1 => ?_, fun s s0 s1 => Or.inl (h4 s s0 s1), Or.inl h8⟩
    · rw [ne (b + (5 + 4 * p)) (by omega) (by omega), ne (b + (5 + 4 * p) + 1) (by omega) (by omega), ne (b + (5 + 4 * p) + 3) (by omega) (by omega)]; exact g2 p p0 p1
    · rw [ne (b + (29 + 3 * r)) (by omega) (by omega), ne (b + (29 + 3 * r) + 1) (by omega) (by omega), ne (b + (29 + 3 * r) + 2) (by omega) (by omega)]; exact g3 r r0 r1
    · rw [hb 2 (by decide)] at r1
      rw [hb 1 (by decide), ne (b + (29 + 3 * r)) (by omega) (by omega)]; exact g4 r r0 r1
    · rw [ne (b + (56 + 5 * r)) (by omega) (by omega), ne (b + (56 + 5 * r) + 3) (by omega) (by omega), ne (b + (56 + 5 * r) + 4) (by omega) (by omega)]; exact k2 r r0 r1
    · rw [hb 3 (by decide)] at r1
      rw [hb 1 (by decide), ne (b + (56 + 5 * r)) (by omega) (by omega)]; exact k3 r r0 r1
  · obtain ⟨y1, y2, y3, y4, y5, y6⟩ := h
    refine ⟨by rw [hb 0 (by decide), hb 1 (by decide), hb 2 (by decide), hb 3 (by decide)]; exact y1, fun p p0 p1 => ?_, fun r r0 r1 => ?_, fun i i0 i1 => ?_, fun s' q0 q1 hs => ?_, fun h8' => ?_⟩
    · rw [ne (b + (5 + 4 * p)) (by omega) (by omega), ne (b + (5 + 4 * p) + 1) (by omega) (by omega), ne (b + (5 + 4 * p) + 2) (by omega) (by omega), ne (b + (5 + 4 * p) + 3) (by omega) (by omega)]; exact y2 p p0 p1
    · rw [ne (b + (29 + 3 * r)) (by omega) (by omega), ne (b + (29 + 3 * r) + 1) (by omega) (by omega), ne (b + (29 + 3 * r) + 2) (by omega) (by omega)]; exact y3 r r0 r1
    · rw [ne (b + (56 + 5 * i)) (by omega) (by omega), ne (b + (56 + 5 * i) + 1) (by omega) (by omega), ne (b + (56 + 5 * i) + 2) (by omega) (by omega), ne (b + (56 + 5 * i) + 3) (by omega) (by omega), ne (b + (56 + 5 * i) + 4) (by omega) (by omega)]; exact y4 i i0 i1
    · rw [h4 s' q0 q1] at hs
      exact absurd hs (by decide)
    · rw [h8] at h8'
      exact absurd h8' (by decide)
theorem p_startC (hg : gWf G) (h : xQ S I x π G) (kk : ∀ (I' : mN) (S' : mH) (π' : Int → Int → Int) (b : Int), xQ S' I' x π' (gPush G ((G.2.1 (G.1 1) (G.1 (10 + G.1 1))))) → xF I I' x → hE S S' x → b = (x + (4 + 744 * ((G.1 1))) + 106 * π' ((G.1 1)) (gK G)) → (∀ s : Int, 0 ≤ s → s < 3 → I' (b + 4) s = 0) → I' b 8 = 0 → Q (.inl (some (mR b))) I' S') : mRun (D + 5) 174 [mR x] I S Q := by
  obtain ⟨⟨c0, c1, c2⟩, u0, u1, u2⟩ := gJ_b hg
  have hK := gK_b hg
  have hN3 := hg.1.2
  have h1 := h.1
  have hc := h.2.1.2
  simp (disch := first | omega | exact Nat.le_of_ble_eq_true rfl | (simp (disch := omega) only [yx_k h1, yx_0 h1, yx_4 h1, yx_5 h1, yx_6 h1, yx_7 h1, yx_8 h1, yx_9 h1, yx_10 h1, yx_k1 h1, yx_l1 h1, yx_b h1, yx_bk h1, yx_bs h1, yx_sk h1, yx_sl h1, yx_s h1, yx_e h1, yx_k9 h1, yx_l9 h1, yx_k10 h1, yx_l10 h1, hc] <;> omega)) only [w_iconst, w_bipush, w_sipush, w_ldc_s, w_ldcw_s, w_ldc_i, w_ldcw_i, w_lconst, w_fconst, w_dconst, w_iload, w_iload_n, w_aload, w_aload_n, w_dload, w_istore, w_istore_n, w_astore_r, w_astore_s, w_astore_n_r, w_astore_n_s, w_dstore, w_iinc, w_iadd, w_isub, w_imul, w_iand, w_iushr, v_idiv, v_irem, w_ineg, w_i2l, w_i2c, w_i2f, w_i2d, v_f2d, w_lcmp, w_dcmp, v_fdiv, v_ddiv, w_dup_i, w_dup_r, w_dup2, w_dup_x2, w_pop_i, w_pop_r, w_goto, w_switch, w_ret_i, v_ret_z, v_ret_c, w_ret_a, w_ret_s, w_ret_f, w_ret_d, w_ret_v, v_iaload, v_baload, v_caload, v_laload, v_aaload, v_iastore, v_bastore, v_castore, v_lastore, v_aastore, v_alen, v_newa, v_anewa, w_new, w_throw, w_dead, v_getf_i, v_getf_z, v_getf_r, v_putf_i, v_putf_z, v_putf_r, w_call0, w_call1, w_callv1, w_calli1, w_callt1, w_call2, w_callv2, w_calli2, w_callt2, w_call3, w_callv3, w_calli3, w_call4, w_callv4, w_calli4, w_call5, w_callv5, w_calli5, w_call6, w_callv6, w_calli6, w_call7, w_callv7, w_calli7, w_call8, w_callv8, w_calli8, c_if0_eq_t, c_if0_eq_f, c_if2_eq_t, c_if2_eq_f, c_if0_ne_t, c_if0_ne_f, c_if2_ne_t, c_if2_ne_f, c_if0_lt_t, c_if0_lt_f, c_if2_lt_t, c_if2_lt_f, c_if0_ge_t, c_if0_ge_f, c_if2_ge_t, c_if2_ge_f, c_if0_gt_t, c_if0_gt_f, c_if2_gt_t, c_if2_gt_f, c_if0_le_t, c_if0_le_f, c_if2_le_t, c_if2_le_f, w_nil, uI_s, uA_r, uA_s, uD_d, mPut_0, mCl_own, mCv_go, mCl_min, mCl_cpy, mCv_obj, mAct_len, mAct_chrc, mAft_v, mAft_n, mAft_x, mGet_0, mSet_0, mGet_1, mSet_1, mGet_2, mSet_2, mGet_3, mSet_3, mGet_4, mSet_4, mGet_5, mSet_5, mGet_6, mSet_6, mGet_7, mSet_7, mGet_8, mSet_8, mGet_9, mSet_9, mGet_10, mSet_10, mGet_11, mSet_11, mGet_12, mSet_12, mGet_13, mSet_13, e_RS_startChange, a_RS_startChange_0, bk_RS_startChange_0, yx_k h1, yx_0 h1, yx_4 h1, yx_5 h1, yx_6 h1, yx_7 h1, yx_8 h1, yx_9 h1, yx_10 h1, yx_k1 h1, yx_l1 h1, yx_b h1, yx_bk h1, yx_bs h1, yx_sk h1, yx_sl h1, yx_s h1, yx_e h1, yx_k9 h1, yx_l9 h1, yx_k10 h1, yx_l10 h1, hc]
  refine p_BrSt D hg h (fun I1 S1 π' hX e1 p1 p2 f1 v1 v2 hs ho => ?_)
  have hpb := yx_pi hX c0 c1 (show 0 ≤ gK G by omega) (show gK G < 7 by omega)
  have hB := yx_B hX c0 c1 hpb.1 hpb.2
  simp (disch := first | omega | exact Nat.le_of_ble_eq_true rfl | (simp (disch := omega) only [yb_k hB] <;> omega)) only [w_iconst, w_bipush, w_sipush, w_ldc_s, w_ldcw_s, w_ldc_i, w_ldcw_i, w_lconst, w_fconst, w_dconst, w_iload, w_iload_n, w_aload, w_aload_n, w_dload, w_istore, w_istore_n, w_astore_r, w_astore_s, w_astore_n_r, w_astore_n_s, w_dstore, w_iinc, w_iadd, w_isub, w_imul, w_iand, w_iushr, v_idiv, v_irem, w_ineg, w_i2l, w_i2c, w_i2f, w_i2d, v_f2d, w_lcmp, w_dcmp, v_fdiv, v_ddiv, w_dup_i, w_dup_r, w_dup2, w_dup_x2, w_pop_i, w_pop_r, w_goto, w_switch, w_ret_i, v_ret_z, v_ret_c, w_ret_a, w_ret_s, w_ret_f, w_ret_d, w_ret_v, v_iaload, v_baload, v_caload, v_laload, v_aaload, v_iastore, v_bastore, v_castore, v_lastore, v_aastore, v_alen, v_newa, v_anewa, w_new, w_throw, w_dead, v_getf_i, v_getf_z, v_getf_r, v_putf_i, v_putf_z, v_putf_r, w_call0, w_call1, w_callv1, w_calli1, w_callt1, w_call2, w_callv2, w_calli2, w_callt2, w_call3, w_callv3, w_calli3, w_call4, w_callv4, w_calli4, w_call5, w_callv5, w_calli5, w_call6, w_callv6, w_calli6, w_call7, w_callv7, w_calli7, w_call8, w_callv8, w_calli8, c_if0_eq_t, c_if0_eq_f, c_if2_eq_t, c_if2_eq_f, c_if0_ne_t, c_if0_ne_f, c_if2_ne_t, c_if2_ne_f, c_if0_lt_t, c_if0_lt_f, c_if2_lt_t, c_if2_lt_f, c_if0_ge_t, c_if0_ge_f, c_if2_ge_t, c_if2_ge_f, c_if0_gt_t, c_if0_gt_f, c_if2_gt_t, c_if2_gt_f, c_if0_le_t, c_if0_le_f, c_if2_le_t, c_if2_le_f, w_nil, uI_s, uA_r, uA_s, uD_d, mPut_0, mCl_own, mCv_go, mCl_min, mCl_cpy, mCv_obj, mAct_len, mAct_chrc, mAft_v, mAft_n, mAft_x, mGet_0, mSet_0, mGet_1, mSet_1, mGet_2, mSet_2, mGet_3, mSet_3, mGet_4, mSet_4, mGet_5, mSet_5, mGet_6, mSet_6, mGet_7, mSet_7, mGet_8, mSet_8, mGet_9, mSet_9, mGet_10, mSet_10, mGet_11, mSet_11, mGet_12, mSet_12, mGet_13, mSet_13, yb_k hB, r_forgetP (D + 3) hB]
  generalize hJ : mUp (mUp (mUp (mUp I1 ((x + (4 + 744 * ((G.1 1))) + 106 * π' ((G.1 1)) (gK G)) + 4) 0 0) ((x + (4 + 744 * ((G.1 1))) + 106 * π' ((G.1 1)) (gK G)) + 4) 1 0) ((x + (4 + 744 * ((G.1 1))) + 106 * π' ((G.1 1)) (gK G)) + 4) 2 0) ((x + (4 + 744 * ((G.1 1))) + 106 * π' ((G.1 1)) (gK G))) 8 0 = J
  obtain ⟨jo, js, jn, j4, j8, -⟩ := yFg ho hs hJ.symm
  have fJ : ∀ a : Int, a ≠ x + (2 + 744 * (G.1 1)) → (a < (x + (4 + 744 * ((G.1 1))) + 106 * π' ((G.1 1)) (gK G)) ∨ (x + (4 + 744 * ((G.1 1))) + 106 * π' ((G.1 1)) (gK G)) + 106 ≤ a) → J a = I a := fun a a1 a2 => by rw [jn a (by omega) (by omega)]; exact f1 a a1 a2
  have hbr : J (x + (2 + 744 * (G.1 1))) = I1 (x + (2 + 744 * (G.1 1))) := jn _ (by omega) (by omega)
  refine kk J S1 π' _ ?_ (fun a ha => fJ a (by omega) (by omega)) e1 rfl j4 j8
  obtain ⟨-, h2, h3, h4, h5, h6, h7, h8, h9, h10, h11⟩ := h
  have e5 : ∀ a : Int, x + 2234 ≤ a → J a = I a := fun a ha => fJ a (by omega) (by omega)
  have ok6 : yOk J (x + 2234) := yOk_k h6 (fun a a0 a1 => e5 a (by omega))
  have oq7 : nOldQ J (x + 2341) := by
    unfold nOldQ at h7 ⊢
    rw [e5 _ (by omega), e5 (x + 2341 + 10) (by omega), e5 (x + 2341 + 11) (by omega)]; exact h7
  have eT : ((gPush G ((G.2.1 (G.1 1) (G.1 (10 + G.1 1))))).1 2) = (G.1 2) := gPush_1 (by omega) (by omega) (by omega) (by omega)
  have eR : ((gPush G ((G.2.1 (G.1 1) (G.1 (10 + G.1 1))))).1 3) = (G.1 3) := gPush_1 (by omega) (by omega) (by omega) (by omega)
  have eW : ((gPush G ((G.2.1 (G.1 1) (G.1 (10 + G.1 1))))).1 4) = (G.1 4) := gPush_1 (by omega) (by omega) (by omega) (by omega)
  refine ⟨hX, ?_, fun k k0 k1 => ?_, fun k j k0 k1 j0 j1 => ?_, fun k j k0 k1 j0 j1 => ?_, ok6, oq7, ?_, ?_, ?_, ?_⟩
  · rw [gPush_N hg, gPush_C hg, fJ x (by omega) (by omega)]; exact h2
  · rw [gPush_U hg k0 k1, gPush_E hg k0 k1]
    by_cases c : k = (G.1 1)
    · rw [if_pos c, if_pos c, c, hbr, v1, v2]; exact ⟨rfl, by omega⟩
    · rw [if_neg c, if_neg c, fJ (x + (2 + 744 * k)) (by omega) (by first | omega | exact xSep1 (by omega) (by omega))]; exact h3 k k0 k1
  · by_cases c : k = (G.1 1) ∧ j = π' ((G.1 1)) (gK G)
    · rw [c.1, c.2]; exact jo
    · exact yOk_k (h4 k j k0 k1 j0 j1) (fun a a0 a1 => fJ a (xOut a0 a1 k0 k1 j0 j1) (by first | omega | exact xSep2 a0 a1 (by omega) (by omega) (by omega) (by omega) (by omega)))
  · rw [gPush_N hg] at k1
    rw [gPush_E hg k0 (by omega)] at j1
    rw [gPush_S]
    by_cases c : k = (G.1 1)
    · rw [if_pos c] at j1 ⊢
      subst c
      by_cases cj : j = gK G
      · rw [if_pos cj, cj]; exact js
      · rw [if_neg cj]
        have hpj := p2 j j0 (by omega)
        have hp' := yx_pi hX c0 c1 j0 (show j < 7 by omega)
        have hne : π' ((G.1 1)) j ≠ π' ((G.1 1)) (gK G) := fun e => cj (yx_inj hX c0 c1 j0 (by omega) (by omega) (by omega) e)
        have hk : ∀ a : Int, x + (4 + 744 * (G.1 1)) + 106 * π' ((G.1 1)) j ≤ a → a < x + (4 + 744 * (G.1 1)) + 106 * π' ((G.1 1)) j + 106 → J a = I a := fun a a0 a1 => fJ a (by omega) (by first | omega | exact xSep2 a0 a1 (by omega) (by omega) (by omega) (by omega) (by omega))
        by_cases c6 : (G.1 (10 + G.1 1)) < 6
        · rw [if_pos c6] at hpj ⊢
          rw [hpj] at hk ⊢
          have hj9 : j ≤ (G.1 (20 + ((G.1 1)))) := by have := hK.2.2.1 c6; omega
          exact yS_k (hg.2.2.2.1 _ j c0 c2 j0 hj9).1 (h5 _ j c0 c2 j0 hj9) hk
        · rw [if_neg c6] at hpj ⊢
          rw [hpj] at hk ⊢
          have hj9 : j + 1 ≤ (G.1 (20 + ((G.1 1)))) := by have := hK.2.2.2 c6; omega
          exact yS_k (hg.2.2.2.1 _ (j + 1) c0 c2 (by omega) hj9).1 (h5 _ (j + 1) c0 c2 (by omega) hj9) hk
    · rw [if_neg c] at j1 ⊢
      rw [p1 k j c]
      have hp' := yx_pi h1 k0 (show k < 3 by omega) j0 (by have := (hg.2.2.1 k k0 (by omega)).1; omega)
      exact yS_k (hg.2.2.2.1 k j k0 k1 j0 j1).1 (h5 k j k0 k1 j0 j1) (fun a a0 a1 => fJ a (xOut a0 a1 k0 (by omega) hp'.1 hp'.2) (by first | omega | exact xSep2 a0 a1 (by omega) (by omega) (by omega) (by omega) (by omega)))
  · rw [e5 _ (by omega)]; exact h8
  · rw [e5 (x + 2359) (by omega), e5 (x + 2360) (by omega), eT, eR]; exact h9
  · rw [e5 (x + 2364) (by omega), e5 (x + 2357) (by omega), e5 (x + 2358) (by omega)]; exact h10
  · rw [e5 (x + 2365) (by omega), e5 (x + 2366) (by omega), eW]; exact h11
end XS
