/-! The model moves water along the way that was found. -/
def kBh (fr to nx : Int → Int) (v : Int) : Int := if fr (nx v) = v then to (nx v) else fr (nx v)
def kLe (fr rm fl : Int → Int) (u a : Int) : Int := if fr a = u then rm a - fl a else fl a
def kTr (fr to rm fl fx nx se ord : Int → Int) (goal : Int) : Prop := ∀ v : Int, 0 ≤ v → v < 49 → se v = 1 → v ≠ goal → ((0 ≤ kBh fr to nx v ∧ kBh fr to nx v < 49) ∧ se (kBh fr to nx v) = 1 ∧ (0 ≤ ord (kBh fr to nx v) ∧ ord (kBh fr to nx v) < ord v ∧ ord v < 49)) ∧ kH fr to rm fl fx v (kBh fr to nx v) (nx v)
def kCap (rm fl : Int → Int) : Prop := ∀ a : Int, 0 ≤ a → a < 168 → 0 < rm a → 0 ≤ fl a ∧ fl a ≤ rm a
def kN (fr to fl : Int → Int) (w : Int) : Int := sm 168 (fun a => (if to a = w then fl a else 0) - (if fr a = w then fl a else 0))
theorem kN_U {fr to fl : Int → Int} {a v w : Int} (a0 : 0 ≤ a) (a1 : a < 168) : kN fr to (zU fl a v) w = kN fr to fl w + ((if to a = w then v - fl a else 0) - (if fr a = w then v - fl a else 0)) := by
  unfold kN
  rw [sm_upd (f := fun a => (if to a = w then fl a else 0) - (if fr a = w then fl a else 0)) (k := a) a0 a1 (fun i _ _ hi => by rw [zU_ne hi])]
  dsimp only
  rw [zU_eq rfl]
  by_cases c1 : to a = w
  · by_cases c2 : fr a = w
    · simp only [if_pos c1, if_pos c2]; omega
    · simp only [if_pos c1, if_neg c2]; omega
  · by_cases c2 : fr a = w
    · simp only [if_neg c1, if_pos c2]; omega
    · simp only [if_neg c1, if_neg c2]; omega
section KS
variable {fr to rm fl fx : Int → Int} {m goal : Int} {I : mN}
theorem kH_bh {nx : Int → Int} {v w : Int} (hw : kWf fr to rm) (h : kH fr to rm fl fx v w (nx v)) : kBh fr to nx v = w := by
  obtain ⟨⟨a0, a1⟩, -, h2, h3⟩ := h
  have hne := (hw _ a0 a1 h2).2.2
  unfold kBh
  rcases h3 with ⟨g1, g2, -⟩ | ⟨g1, g2, -⟩
  · rw [if_pos g1]; exact g2
  · rw [if_neg (fun h9 => hne (h9.trans g1.symm))]; exact g2
theorem kQ_tree {many : Int} (hw : kWf fr to rm) (h : kQ fr to rm fl fx I m goal many) : ∃ ord : Int → Int, (∀ i : Int, 0 ≤ i → i < many → ord (I (m + 11) i) = i) ∧ kTr fr to rm fl fx (I (m + 10)) (I (m + 9)) ord goal := by
  obtain ⟨⟨q1, q2⟩, q3, q4, q5, q6, q7, q8, q9⟩ := h
  have hex : ∃ ord : Int → Int, ∀ i : Int, 0 ≤ i → i < many → ord (I (m + 11) i) = i := by
    refine ⟨fun v => sm 49 (fun i => if i < many ∧ I (m + 11) i = v then i else 0), fun i i0 i1 => ?_⟩
    show sm 49 (fun i' => if i' < many ∧ I (m + 11) i' = I (m + 11) i then i' else 0) = i
    rw [sm_one (k := i) i0 (by omega) (fun j j0 j1 hj => if_neg (fun h9 => ?_)), if_pos ⟨i1, rfl⟩]
    rcases Int.lt_or_gt_of_ne hj with h8 | h8
    · exact q8 j i j0 h8 i1 h9.2
    · exact q8 i j i0 h8 h9.1 h9.2.symm
  obtain ⟨ord, ho⟩ := hex
  refine ⟨ord, ho, fun v v0 v1 hv hne => ?_⟩
  obtain ⟨i, i0, i1, rfl⟩ := q7 v v0 v1 hv
  have hi : 1 ≤ i := by
    by_cases h9 : 1 ≤ i
    · exact h9
    · exact absurd (by rw [show i = 0 by omega]; exact q3) hne
  obtain ⟨j, j0, j1, k2⟩ := q9 i hi i1
  have hb := kH_bh hw k2
  rw [hb, ho i i0 i1, ho j j0 (by omega)]
  exact ⟨⟨(q6 j j0 (by omega)).1, (q6 j j0 (by omega)).2, j0, j1, by omega⟩, k2⟩
end KS
section KP
variable {m : Int} {S : mH} {Q : mQ} (D : Nat) {fr to rm fl fx nx se ord : Int → Int} {goal src most : Int}
theorem r_behind {I : mN} (hm : yM S m) (hw : kWf fr to rm) (h2 : I (m + 2) = fr) (h3 : I (m + 3) = to) (hnx : I (m + 10) = nx) {v : Int} (v0 : 0 ≤ v) (v1 : v < 49) (a0 : 0 ≤ nx v) (a1 : nx v < 168) : mRun (D + 1) 217 [mR m, mI v] I S Q = Q (.inl (some (mI (kBh fr to nx v)))) I S := by
  unfold kBh
  by_cases h : fr (nx v) = v
  · rw [if_pos h]
    simp (disch := first | omega | exact Nat.le_of_ble_eq_true rfl | (simp (disch := omega) only [ym_k hm, ym_2 hm, ym_k2 hm, ym_l2 hm, ym_3 hm, ym_k3 hm, ym_l3 hm, ym_10 hm, ym_k10 hm, ym_l10 hm, h2, h3, hnx] <;> omega)) only [w_iconst, w_bipush, w_sipush, w_ldc_s, w_ldcw_s, w_ldc_i, w_ldcw_i, w_lconst, w_fconst, w_dconst, w_iload, w_iload_n, w_aload, w_aload_n, w_dload, w_istore, w_istore_n, w_astore_r, w_astore_s, w_astore_n_r, w_astore_n_s, w_dstore, w_iinc, w_iadd, w_isub, w_imul, w_iand, w_iushr, v_idiv, v_irem, w_ineg, w_i2l, w_i2c, w_i2f, w_i2d, v_f2d, w_lcmp, w_dcmp, v_fdiv, v_ddiv, w_dup_i, w_dup_r, w_dup2, w_dup_x2, w_pop_i, w_pop_r, w_goto, w_switch, w_ret_i, v_ret_z, v_ret_c, w_ret_a, w_ret_s, w_ret_f, w_ret_d, w_ret_v, v_iaload, v_baload, v_caload, v_laload, v_aaload, v_iastore, v_bastore, v_castore, v_lastore, v_aastore, v_alen, v_newa, v_anewa, w_new, w_throw, w_dead, v_getf_i, v_getf_z, v_getf_r, v_putf_i, v_putf_z, v_putf_r, w_call0, w_call1, w_callv1, w_calli1, w_callt1, w_call2, w_callv2, w_calli2, w_callt2, w_call3, w_callv3, w_calli3, w_call4, w_callv4, w_calli4, w_call5, w_callv5, w_calli5, w_call6, w_callv6, w_calli6, w_call7, w_callv7, w_calli7, w_call8, w_callv8, w_calli8, c_if0_eq_t, c_if0_eq_f, c_if2_eq_t, c_if2_eq_f, c_if0_ne_t, c_if0_ne_f, c_if2_ne_t, c_if2_ne_f, c_if0_lt_t, c_if0_lt_f, c_if2_lt_t, c_if2_lt_f, c_if0_ge_t, c_if0_ge_f, c_if2_ge_t, c_if2_ge_f, c_if0_gt_t, c_if0_gt_f, c_if2_gt_t, c_if2_gt_f, c_if0_le_t, c_if0_le_f, c_if2_le_t, c_if2_le_f, w_nil, uI_s, uA_r, uA_s, uD_d, mPut_0, mCl_own, mCv_go, mCl_min, mCl_cpy, mCv_obj, mAct_len, mAct_chrc, mAft_v, mAft_n, mAft_x, mGet_0, mSet_0, mGet_1, mSet_1, mGet_2, mSet_2, mGet_3, mSet_3, mGet_4, mSet_4, mGet_5, mSet_5, mGet_6, mSet_6, mGet_7, mSet_7, mGet_8, mSet_8, mGet_9, mSet_9, mGet_10, mSet_10, mGet_11, mSet_11, mGet_12, mSet_12, mGet_13, mSet_13, e_Mo_nBehind, a_Mo_nBehind_0, bk_Mo_nBehind_0, a_Mo_nBehind_26, bk_Mo_nBehind_26, a_Mo_nBehind_32, bk_Mo_nBehind_32, ym_k hm, ym_2 hm, ym_k2 hm, ym_l2 hm, ym_3 hm, ym_k3 hm, ym_l3 hm, ym_10 hm, ym_k10 hm, ym_l10 hm, h2, h3, hnx]
  · rw [if_neg h]
    simp (disch := first | omega | exact Nat.le_of_ble_eq_true rfl | (simp (disch := omega) only [ym_k hm, ym_2 hm, ym_k2 hm, ym_l2 hm, ym_3 hm, ym_k3 hm, ym_l3 hm, ym_10 hm, ym_k10 hm, ym_l10 hm, h2, h3, hnx] <;> omega)) only [w_iconst, w_bipush, w_sipush, w_ldc_s, w_ldcw_s, w_ldc_i, w_ldcw_i, w_lconst, w_fconst, w_dconst, w_iload, w_iload_n, w_aload, w_aload_n, w_dload, w_istore, w_istore_n, w_astore_r, w_astore_s, w_astore_n_r, w_astore_n_s, w_dstore, w_iinc, w_iadd, w_isub, w_imul, w_iand, w_iushr, v_idiv, v_irem, w_ineg, w_i2l, w_i2c, w_i2f, w_i2d, v_f2d, w_lcmp, w_dcmp, v_fdiv, v_ddiv, w_dup_i, w_dup_r, w_dup2, w_dup_x2, w_pop_i, w_pop_r, w_goto, w_switch, w_ret_i, v_ret_z, v_ret_c, w_ret_a, w_ret_s, w_ret_f, w_ret_d, w_ret_v, v_iaload, v_baload, v_caload, v_laload, v_aaload, v_iastore, v_bastore, v_castore, v_lastore, v_aastore, v_alen, v_newa, v_anewa, w_new, w_throw, w_dead, v_getf_i, v_getf_z, v_getf_r, v_putf_i, v_putf_z, v_putf_r, w_call0, w_call1, w_callv1, w_calli1, w_callt1, w_call2, w_callv2, w_calli2, w_callt2, w_call3, w_callv3, w_calli3, w_call4, w_callv4, w_calli4, w_call5, w_callv5, w_calli5, w_call6, w_callv6, w_calli6, w_call7, w_callv7, w_calli7, w_call8, w_callv8, w_calli8, c_if0_eq_t, c_if0_eq_f, c_if2_eq_t, c_if2_eq_f, c_if0_ne_t, c_if0_ne_f, c_if2_ne_t, c_if2_ne_f, c_if0_lt_t, c_if0_lt_f, c_if2_lt_t, c_if2_lt_f, c_if0_ge_t, c_if0_ge_f, c_if2_ge_t, c_if2_ge_f, c_if0_gt_t, c_if0_gt_f, c_if2_gt_t, c_if2_gt_f, c_if0_le_t, c_if0_le_f, c_if2_le_t, c_if2_le_f, w_nil, uI_s, uA_r, uA_s, uD_d, mPut_0, mCl_own, mCv_go, mCl_min, mCl_cpy, mCv_obj, mAct_len, mAct_chrc, mAft_v, mAft_n, mAft_x, mGet_0, mSet_0, mGet_1, mSet_1, mGet_2, mSet_2, mGet_3, mSet_3, mGet_4, mSet_4, mGet_5, mSet_5, mGet_6, mSet_6, mGet_7, mSet_7, mGet_8, mSet_8, mGet_9, mSet_9, mGet_10, mSet_10, mGet_11, mSet_11, mGet_12, mSet_12, mGet_13, mSet_13, e_Mo_nBehind, a_Mo_nBehind_0, bk_Mo_nBehind_0, a_Mo_nBehind_26, bk_Mo_nBehind_26, a_Mo_nBehind_32, bk_Mo_nBehind_32, ym_k hm, ym_2 hm, ym_k2 hm, ym_l2 hm, ym_3 hm, ym_k3 hm, ym_l3 hm, ym_10 hm, ym_k10 hm, ym_l10 hm, h2, h3, hnx]
theorem l_ms1 {I : mN} (hm : yM S m) (hw : kWf fr to rm) (h2 : I (m + 2) = fr) (h3 : I (m + 3) = to) (h4 : I (m + 4) = rm) (h5 : I (m + 5) = fl) (hnx : I (m + 10) = nx) (hT : kTr fr to rm fl fx nx se ord goal) (hc : kCap rm fl) (hrm : ∀ a : Int, 0 ≤ a → a < 168 → rm a ≤ 100000) :
    ∀ (c t : Nat) {un : Int} {x6 : Option mV}, se (nPth (kBh fr to nx) src t) = 1 → (0 ≤ nPth (kBh fr to nx) src t ∧ nPth (kBh fr to nx) src t < 49) → (nPth (kBh fr to nx) src t ≠ goal → ord (nPth (kBh fr to nx) src t) ≤ c) → 1 ≤ un → un ≤ 1000000 → (∀ s : Nat, s < t → nPth (kBh fr to nx) src s ≠ goal ∧ un ≤ kLe fr rm fl (nPth (kBh fr to nx) src s) (nx (nPth (kBh fr to nx) src s))) →
    (∀ (T : Nat) (un' : Int) (x5 x6 : Option mV), nPth (kBh fr to nx) src T = goal → 1 ≤ un' → un' ≤ un → (∀ s : Nat, s < T → nPth (kBh fr to nx) src s ≠ goal ∧ un' ≤ kLe fr rm fl (nPth (kBh fr to nx) src s) (nx (nPth (kBh fr to nx) src s))) → mAt (mRun (D + 1)) 216 76 ([some (mR m), some (mI src), some (mI goal), some (mI most), some (mI un'), x5, x6], [], I, S) Q) →
    mAt (mRun (D + 1)) 216 6 ([some (mR m), some (mI src), some (mI goal), some (mI most), some (mI un), some (mI (nPth (kBh fr to nx) src t)), x6], [], I, S) Q
  | c, t, un, x6, hse, ⟨p0, p1⟩, ho, u1, u2, hd, k => by
    by_cases hg : nPth (kBh fr to nx) src t = goal
    · simp (disch := first | omega | exact Nat.le_of_ble_eq_true rfl) only [w_iconst, w_bipush, w_sipush, w_ldc_s, w_ldcw_s, w_ldc_i, w_ldcw_i, w_lconst, w_fconst, w_dconst, w_iload, w_iload_n, w_aload, w_aload_n, w_dload, w_istore, w_istore_n, w_astore_r, w_astore_s, w_astore_n_r, w_astore_n_s, w_dstore, w_iinc, w_iadd, w_isub, w_imul, w_iand, w_iushr, v_idiv, v_irem, w_ineg, w_i2l, w_i2c, w_i2f, w_i2d, v_f2d, w_lcmp, w_dcmp, v_fdiv, v_ddiv, w_dup_i, w_dup_r, w_dup2, w_dup_x2, w_pop_i, w_pop_r, w_goto, w_switch, w_ret_i, v_ret_z, v_ret_c, w_ret_a, w_ret_s, w_ret_f, w_ret_d, w_ret_v, v_iaload, v_baload, v_caload, v_laload, v_aaload, v_iastore, v_bastore, v_castore, v_lastore, v_aastore, v_alen, v_newa, v_anewa, w_new, w_throw, w_dead, v_getf_i, v_getf_z, v_getf_r, v_putf_i, v_putf_z, v_putf_r, w_call0, w_call1, w_callv1, w_calli1, w_callt1, w_call2, w_callv2, w_calli2, w_callt2, w_call3, w_callv3, w_calli3, w_call4, w_callv4, w_calli4, w_call5, w_callv5, w_calli5, w_call6, w_callv6, w_calli6, w_call7, w_callv7, w_calli7, w_call8, w_callv8, w_calli8, c_if0_eq_t, c_if0_eq_f, c_if2_eq_t, c_if2_eq_f, c_if0_ne_t, c_if0_ne_f, c_if2_ne_t, c_if2_ne_f, c_if0_lt_t, c_if0_lt_f, c_if2_lt_t, c_if2_lt_f, c_if0_ge_t, c_if0_ge_f, c_if2_ge_t, c_if2_ge_f, c_if0_gt_t, c_if0_gt_f, c_if2_gt_t, c_if2_gt_f, c_if0_le_t, c_if0_le_f, c_if2_le_t, c_if2_le_f, w_nil, uI_s, uA_r, uA_s, uD_d, mPut_0, mCl_own, mCv_go, mCl_min, mCl_cpy, mCv_obj, mAct_len, mAct_chrc, mAft_v, mAft_n, mAft_x, mGet_0, mSet_0, mGet_1, mSet_1, mGet_2, mSet_2, mGet_3, mSet_3, mGet_4, mSet_4, mGet_5, mSet_5, mGet_6, mSet_6, mGet_7, mSet_7, mGet_8, mSet_8, mGet_9, mSet_9, mGet_10, mSet_10, mGet_11, mSet_11, mGet_12, mSet_12, mGet_13, mSet_13, a_Mo_nSend_6, bk_Mo_nSend_6, hg]
      exact k t un _ _ hg u1 (Int.le_refl _) hd
    · obtain ⟨⟨w0, w1, w2, w3, w4⟩, hh⟩ := hT _ p0 p1 hse hg
      have hol := ho hg
      generalize hv : nPth (kBh fr to nx) src t = v at hse p0 p1 hg w0 w1 w2 w3 w4 hh hol
      have hnext : nPth (kBh fr to nx) src (t + 1) = kBh fr to nx v := by show kBh fr to nx (nPth (kBh fr to nx) src t) = _; rw [hv]
      obtain ⟨⟨a0, a1⟩, hfx, hr, hcase⟩ := id hh
      obtain ⟨c0, c1⟩ := hc _ a0 a1 hr
      have hrb := hrm _ a0 a1
      have hne := (hw _ a0 a1 hr).2.2
      match c, hol with
      | 0, hol => omega
      | c + 1, hol =>
      have go : ∀ un' : Int, 1 ≤ un' → un' ≤ un → un' ≤ kLe fr rm fl v (nx v) → mAt (mRun (D + 1)) 216 6 ([some (mR m), some (mI src), some (mI goal), some (mI most), some (mI un'), some (mI (kBh fr to nx v)), some (mI (nx v))], [], I, S) Q := fun un' z1 z2 z3 => by
        rw [← hnext]
        refine l_ms1 hm hw h2 h3 h4 h5 hnx hT hc hrm c (t + 1) (by rw [hnext]; exact w1) (by rw [hnext]; exact w0) (fun _ => by rw [hnext]; omega) z1 (by omega) (fun s hs => ?_) (fun T un'' x5 x6 y1 y2 y3 y4 => k T un'' x5 x6 y1 y2 (by omega) y4)
        by_cases hst : s = t
        · rw [hst, hv]; exact ⟨hg, z3⟩
        · obtain ⟨g1, g2⟩ := hd s (by omega)
          exact ⟨g1, by omega⟩
      have hb : ∀ Q : mQ, mRun (D + 1) 217 [mR m, mI v] I S Q = Q (.inl (some (mI (kBh fr to nx v)))) I S := fun Q => r_behind D hm hw h2 h3 hnx p0 p1 a0 a1
      rw [a_Mo_nSend_6]
      by_cases hf : fr (nx v) = v
      · have e1 : kLe fr rm fl v (nx v) = rm (nx v) - fl (nx v) := by unfold kLe; rw [if_pos hf]
        have hpos : 1 ≤ rm (nx v) - fl (nx v) := by
          rcases hcase with ⟨-, -, g⟩ | ⟨g, -, -⟩
          · omega
          · exact absurd (hf.trans g.symm) hne
        by_cases hle : un ≤ rm (nx v) - fl (nx v)
        · simp (disch := first | omega | exact Nat.le_of_ble_eq_true rfl | (simp (disch := omega) only [ym_k hm, ym_2 hm, ym_k2 hm, ym_l2 hm, ym_3 hm, ym_k3 hm, ym_l3 hm, ym_4 hm, ym_k4 hm, ym_l4 hm, ym_5 hm, ym_k5 hm, ym_l5 hm, ym_10 hm, ym_k10 hm, ym_l10 hm, h2, h3, h4, h5, hnx] <;> omega)) only [w_iconst, w_bipush, w_sipush, w_ldc_s, w_ldcw_s, w_ldc_i, w_ldcw_i, w_lconst, w_fconst, w_dconst, w_iload, w_iload_n, w_aload, w_aload_n, w_dload, w_istore, w_istore_n, w_astore_r, w_astore_s, w_astore_n_r, w_astore_n_s, w_dstore, w_iinc, w_iadd, w_isub, w_imul, w_iand, w_iushr, v_idiv, v_irem, w_ineg, w_i2l, w_i2c, w_i2f, w_i2d, v_f2d, w_lcmp, w_dcmp, v_fdiv, v_ddiv, w_dup_i, w_dup_r, w_dup2, w_dup_x2, w_pop_i, w_pop_r, w_goto, w_switch, w_ret_i, v_ret_z, v_ret_c, w_ret_a, w_ret_s, w_ret_f, w_ret_d, w_ret_v, v_iaload, v_baload, v_caload, v_laload, v_aaload, v_iastore, v_bastore, v_castore, v_lastore, v_aastore, v_alen, v_newa, v_anewa, w_new, w_throw, w_dead, v_getf_i, v_getf_z, v_getf_r, v_putf_i, v_putf_z, v_putf_r, w_call0, w_call1, w_callv1, w_calli1, w_callt1, w_call2, w_callv2, w_calli2, w_callt2, w_call3, w_callv3, w_calli3, w_call4, w_callv4, w_calli4, w_call5, w_callv5, w_calli5, w_call6, w_callv6, w_calli6, w_call7, w_callv7, w_calli7, w_call8, w_callv8, w_calli8, c_if0_eq_t, c_if0_eq_f, c_if2_eq_t, c_if2_eq_f, c_if0_ne_t, c_if0_ne_f, c_if2_ne_t, c_if2_ne_f, c_if0_lt_t, c_if0_lt_f, c_if2_lt_t, c_if2_lt_f, c_if0_ge_t, c_if0_ge_f, c_if2_ge_t, c_if2_ge_f, c_if0_gt_t, c_if0_gt_f, c_if2_gt_t, c_if2_gt_f, c_if0_le_t, c_if0_le_f, c_if2_le_t, c_if2_le_f, w_nil, uI_s, uA_r, uA_s, uD_d, mPut_0, mCl_own, mCv_go, mCl_min, mCl_cpy, mCv_obj, mAct_len, mAct_chrc, mAft_v, mAft_n, mAft_x, mGet_0, mSet_0, mGet_1, mSet_1, mGet_2, mSet_2, mGet_3, mSet_3, mGet_4, mSet_4, mGet_5, mSet_5, mGet_6, mSet_6, mGet_7, mSet_7, mGet_8, mSet_8, mGet_9, mSet_9, mGet_10, mSet_10, mGet_11, mSet_11, mGet_12, mSet_12, mGet_13, mSet_13, bk_Mo_nSend_6, a_Mo_nSend_60, bk_Mo_nSend_60, ym_k hm, ym_2 hm, ym_k2 hm, ym_l2 hm, ym_3 hm, ym_k3 hm, ym_l3 hm, ym_4 hm, ym_k4 hm, ym_l4 hm, ym_5 hm, ym_k5 hm, ym_l5 hm, ym_10 hm, ym_k10 hm, ym_l10 hm, h2, h3, h4, h5, hnx, hv, hb, wr, if_pos hle]
          exact go un u1 (Int.le_refl _) (by omega)
        · simp (disch := first | omega | exact Nat.le_of_ble_eq_true rfl | (simp (disch := omega) only [ym_k hm, ym_2 hm, ym_k2 hm, ym_l2 hm, ym_3 hm, ym_k3 hm, ym_l3 hm, ym_4 hm, ym_k4 hm, ym_l4 hm, ym_5 hm, ym_k5 hm, ym_l5 hm, ym_10 hm, ym_k10 hm, ym_l10 hm, h2, h3, h4, h5, hnx] <;> omega)) only [w_iconst, w_bipush, w_sipush, w_ldc_s, w_ldcw_s, w_ldc_i, w_ldcw_i, w_lconst, w_fconst, w_dconst, w_iload, w_iload_n, w_aload, w_aload_n, w_dload, w_istore, w_istore_n, w_astore_r, w_astore_s, w_astore_n_r, w_astore_n_s, w_dstore, w_iinc, w_iadd, w_isub, w_imul, w_iand, w_iushr, v_idiv, v_irem, w_ineg, w_i2l, w_i2c, w_i2f, w_i2d, v_f2d, w_lcmp, w_dcmp, v_fdiv, v_ddiv, w_dup_i, w_dup_r, w_dup2, w_dup_x2, w_pop_i, w_pop_r, w_goto, w_switch, w_ret_i, v_ret_z, v_ret_c, w_ret_a, w_ret_s, w_ret_f, w_ret_d, w_ret_v, v_iaload, v_baload, v_caload, v_laload, v_aaload, v_iastore, v_bastore, v_castore, v_lastore, v_aastore, v_alen, v_newa, v_anewa, w_new, w_throw, w_dead, v_getf_i, v_getf_z, v_getf_r, v_putf_i, v_putf_z, v_putf_r, w_call0, w_call1, w_callv1, w_calli1, w_callt1, w_call2, w_callv2, w_calli2, w_callt2, w_call3, w_callv3, w_calli3, w_call4, w_callv4, w_calli4, w_call5, w_callv5, w_calli5, w_call6, w_callv6, w_calli6, w_call7, w_callv7, w_calli7, w_call8, w_callv8, w_calli8, c_if0_eq_t, c_if0_eq_f, c_if2_eq_t, c_if2_eq_f, c_if0_ne_t, c_if0_ne_f, c_if2_ne_t, c_if2_ne_f, c_if0_lt_t, c_if0_lt_f, c_if2_lt_t, c_if2_lt_f, c_if0_ge_t, c_if0_ge_f, c_if2_ge_t, c_if2_ge_f, c_if0_gt_t, c_if0_gt_f, c_if2_gt_t, c_if2_gt_f, c_if0_le_t, c_if0_le_f, c_if2_le_t, c_if2_le_f, w_nil, uI_s, uA_r, uA_s, uD_d, mPut_0, mCl_own, mCv_go, mCl_min, mCl_cpy, mCv_obj, mAct_len, mAct_chrc, mAft_v, mAft_n, mAft_x, mGet_0, mSet_0, mGet_1, mSet_1, mGet_2, mSet_2, mGet_3, mSet_3, mGet_4, mSet_4, mGet_5, mSet_5, mGet_6, mSet_6, mGet_7, mSet_7, mGet_8, mSet_8, mGet_9, mSet_9, mGet_10, mSet_10, mGet_11, mSet_11, mGet_12, mSet_12, mGet_13, mSet_13, bk_Mo_nSend_6, a_Mo_nSend_60, bk_Mo_nSend_60, ym_k hm, ym_2 hm, ym_k2 hm, ym_l2 hm, ym_3 hm, ym_k3 hm, ym_l3 hm, ym_4 hm, ym_k4 hm, ym_l4 hm, ym_5 hm, ym_k5 hm, ym_l5 hm, ym_10 hm, ym_k10 hm, ym_l10 hm, h2, h3, h4, h5, hnx, hv, hb, wr, if_neg hle]
          exact go _ hpos (by omega) (by omega)
      · have e1 : kLe fr rm fl v (nx v) = fl (nx v) := by unfold kLe; rw [if_neg hf]
        have hpos : 1 ≤ fl (nx v) := by
          rcases hcase with ⟨g, -, -⟩ | ⟨-, -, g⟩
          · exact absurd g hf
          · omega
        by_cases hle : un ≤ fl (nx v)
        · simp (disch := first | omega | exact Nat.le_of_ble_eq_true rfl | (simp (disch := omega) only [ym_k hm, ym_2 hm, ym_k2 hm, ym_l2 hm, ym_3 hm, ym_k3 hm, ym_l3 hm, ym_4 hm, ym_k4 hm, ym_l4 hm, ym_5 hm, ym_k5 hm, ym_l5 hm, ym_10 hm, ym_k10 hm, ym_l10 hm, h2, h3, h4, h5, hnx] <;> omega)) only [w_iconst, w_bipush, w_sipush, w_ldc_s, w_ldcw_s, w_ldc_i, w_ldcw_i, w_lconst, w_fconst, w_dconst, w_iload, w_iload_n, w_aload, w_aload_n, w_dload, w_istore, w_istore_n, w_astore_r, w_astore_s, w_astore_n_r, w_astore_n_s, w_dstore, w_iinc, w_iadd, w_isub, w_imul, w_iand, w_iushr, v_idiv, v_irem, w_ineg, w_i2l, w_i2c, w_i2f, w_i2d, v_f2d, w_lcmp, w_dcmp, v_fdiv, v_ddiv, w_dup_i, w_dup_r, w_dup2, w_dup_x2, w_pop_i, w_pop_r, w_goto, w_switch, w_ret_i, v_ret_z, v_ret_c, w_ret_a, w_ret_s, w_ret_f, w_ret_d, w_ret_v, v_iaload, v_baload, v_caload, v_laload, v_aaload, v_iastore, v_bastore, v_castore, v_lastore, v_aastore, v_alen, v_newa, v_anewa, w_new, w_throw, w_dead, v_getf_i, v_getf_z, v_getf_r, v_putf_i, v_putf_z, v_putf_r, w_call0, w_call1, w_callv1, w_calli1, w_callt1, w_call2, w_callv2, w_calli2, w_callt2, w_call3, w_callv3, w_calli3, w_call4, w_callv4, w_calli4, w_call5, w_callv5, w_calli5, w_call6, w_callv6, w_calli6, w_call7, w_callv7, w_calli7, w_call8, w_callv8, w_calli8, c_if0_eq_t, c_if0_eq_f, c_if2_eq_t, c_if2_eq_f, c_if0_ne_t, c_if0_ne_f, c_if2_ne_t, c_if2_ne_f, c_if0_lt_t, c_if0_lt_f, c_if2_lt_t, c_if2_lt_f, c_if0_ge_t, c_if0_ge_f, c_if2_ge_t, c_if2_ge_f, c_if0_gt_t, c_if0_gt_f, c_if2_gt_t, c_if2_gt_f, c_if0_le_t, c_if0_le_f, c_if2_le_t, c_if2_le_f, w_nil, uI_s, uA_r, uA_s, uD_d, mPut_0, mCl_own, mCv_go, mCl_min, mCl_cpy, mCv_obj, mAct_len, mAct_chrc, mAft_v, mAft_n, mAft_x, mGet_0, mSet_0, mGet_1, mSet_1, mGet_2, mSet_2, mGet_3, mSet_3, mGet_4, mSet_4, mGet_5, mSet_5, mGet_6, mSet_6, mGet_7, mSet_7, mGet_8, mSet_8, mGet_9, mSet_9, mGet_10, mSet_10, mGet_11, mSet_11, mGet_12, mSet_12, mGet_13, mSet_13, bk_Mo_nSend_6, a_Mo_nSend_53, bk_Mo_nSend_53, a_Mo_nSend_60, bk_Mo_nSend_60, ym_k hm, ym_2 hm, ym_k2 hm, ym_l2 hm, ym_3 hm, ym_k3 hm, ym_l3 hm, ym_4 hm, ym_k4 hm, ym_l4 hm, ym_5 hm, ym_k5 hm, ym_l5 hm, ym_10 hm, ym_k10 hm, ym_l10 hm, h2, h3, h4, h5, hnx, hv, hb, wr, if_pos hle]
          exact go un u1 (Int.le_refl _) (by omega)
        · simp (disch := first | omega | exact Nat.le_of_ble_eq_true rfl | (simp (disch := omega) only [ym_k hm, ym_2 hm, ym_k2 hm, ym_l2 hm, ym_3 hm, ym_k3 hm, ym_l3 hm, ym_4 hm, ym_k4 hm, ym_l4 hm, ym_5 hm, ym_k5 hm, ym_l5 hm, ym_10 hm, ym_k10 hm, ym_l10 hm, h2, h3, h4, h5, hnx] <;> omega)) only [w_iconst, w_bipush, w_sipush, w_ldc_s, w_ldcw_s, w_ldc_i, w_ldcw_i, w_lconst, w_fconst, w_dconst, w_iload, w_iload_n, w_aload, w_aload_n, w_dload, w_istore, w_istore_n, w_astore_r, w_astore_s, w_astore_n_r, w_astore_n_s, w_dstore, w_iinc, w_iadd, w_isub, w_imul, w_iand, w_iushr, v_idiv, v_irem, w_ineg, w_i2l, w_i2c, w_i2f, w_i2d, v_f2d, w_lcmp, w_dcmp, v_fdiv, v_ddiv, w_dup_i, w_dup_r, w_dup2, w_dup_x2, w_pop_i, w_pop_r, w_goto, w_switch, w_ret_i, v_ret_z, v_ret_c, w_ret_a, w_ret_s, w_ret_f, w_ret_d, w_ret_v, v_iaload, v_baload, v_caload, v_laload, v_aaload, v_iastore, v_bastore, v_castore, v_lastore, v_aastore, v_alen, v_newa, v_anewa, w_new, w_throw, w_dead, v_getf_i, v_getf_z, v_getf_r, v_putf_i, v_putf_z, v_putf_r, w_call0, w_call1, w_callv1, w_calli1, w_callt1, w_call2, w_callv2, w_calli2, w_callt2, w_call3, w_callv3, w_calli3, w_call4, w_callv4, w_calli4, w_call5, w_callv5, w_calli5, w_call6, w_callv6, w_calli6, w_call7, w_callv7, w_calli7, w_call8, w_callv8, w_calli8, c_if0_eq_t, c_if0_eq_f, c_if2_eq_t, c_if2_eq_f, c_if0_ne_t, c_if0_ne_f, c_if2_ne_t, c_if2_ne_f, c_if0_lt_t, c_if0_lt_f, c_if2_lt_t, c_if2_lt_f, c_if0_ge_t, c_if0_ge_f, c_if2_ge_t, c_if2_ge_f, c_if0_gt_t, c_if0_gt_f, c_if2_gt_t, c_if2_gt_f, c_if0_le_t, c_if0_le_f, c_if2_le_t, c_if2_le_f, w_nil, uI_s, uA_r, uA_s, uD_d, mPut_0, mCl_own, mCv_go, mCl_min, mCl_cpy, mCv_obj, mAct_len, mAct_chrc, mAft_v, mAft_n, mAft_x, mGet_0, mSet_0, mGet_1, mSet_1, mGet_2, mSet_2, mGet_3, mSet_3, mGet_4, mSet_4, mGet_5, mSet_5, mGet_6, mSet_6, mGet_7, mSet_7, mGet_8, mSet_8, mGet_9, mSet_9, mGet_10, mSet_10, mGet_11, mSet_11, mGet_12, mSet_12, mGet_13, mSet_13, bk_Mo_nSend_6, a_Mo_nSend_53, bk_Mo_nSend_53, a_Mo_nSend_60, bk_Mo_nSend_60, ym_k hm, ym_2 hm, ym_k2 hm, ym_l2 hm, ym_3 hm, ym_k3 hm, ym_l3 hm, ym_4 hm, ym_k4 hm, ym_l4 hm, ym_5 hm, ym_k5 hm, ym_l5 hm, ym_10 hm, ym_k10 hm, ym_l10 hm, h2, h3, h4, h5, hnx, hv, hb, wr, if_neg hle]
          exact go _ hpos (by omega) (by omega)
set_option maxRecDepth 8000 in
theorem l_ms2 (hm : yM S m) (hw : kWf fr to rm) (hT : kTr fr to rm fl fx nx se ord goal) (hc : kCap rm fl) (hrm : ∀ a : Int, 0 ≤ a → a < 168 → rm a ≤ 100000) {un : Int} (u1 : 1 ≤ un) {T : Nat} (hTg : nPth (kBh fr to nx) src T = goal) (hd : ∀ s : Nat, s < T → nPth (kBh fr to nx) src s ≠ goal ∧ un ≤ kLe fr rm fl (nPth (kBh fr to nx) src s) (nx (nPth (kBh fr to nx) src s))) :
    ∀ (c t : Nat) {g : Int → Int} {I : mN} {x6 : Option mV}, t + c = T → I (m + 2) = fr → I (m + 3) = to → I (m + 5) = g → I (m + 10) = nx → se (nPth (kBh fr to nx) src t) = 1 → (0 ≤ nPth (kBh fr to nx) src t ∧ nPth (kBh fr to nx) src t < 49) → kCap rm g → (∀ w : Int, kN fr to g w = kN fr to fl w + ((if nPth (kBh fr to nx) src t = w then un else 0) - (if src = w then un else 0))) → (∀ x : Int, 0 ≤ x → x < 49 → se x = 1 → x ≠ goal → (nPth (kBh fr to nx) src t ≠ goal ∧ ord x ≤ ord (nPth (kBh fr to nx) src t)) → g (nx x) = fl (nx x)) → (∀ a : Int, g a = fl a ∨ ((0 ≤ a ∧ a < 168) ∧ fx a = 0 ∧ 0 < rm a)) →
    (∀ (g' : Int → Int) (I' : mN), (∀ a : Int, a ≠ m + 5 → I' a = I a) → I' (m + 5) = g' → kCap rm g' → (∀ w : Int, kN fr to g' w = kN fr to fl w + ((if goal = w then un else 0) - (if src = w then un else 0))) → (∀ a : Int, g' a = fl a ∨ ((0 ≤ a ∧ a < 168) ∧ fx a = 0 ∧ 0 < rm a)) → Q (.inl (some (mI un))) I' S) →
    mAt (mRun (D + 1)) 216 79 ([some (mR m), some (mI src), some (mI goal), some (mI most), some (mI un), some (mI (nPth (kBh fr to nx) src t)), x6], [], I, S) Q
  | 0, t, g, I, x6, ht, h2, h3, h5, hnx, hse, hp, hcg, hN, hold, hch, k => by
    obtain rfl : t = T := by omega
    rw [hTg] at hN ⊢
    simp (disch := first | omega | exact Nat.le_of_ble_eq_true rfl) only [w_iconst, w_bipush, w_sipush, w_ldc_s, w_ldcw_s, w_ldc_i, w_ldcw_i, w_lconst, w_fconst, w_dconst, w_iload, w_iload_n, w_aload, w_aload_n, w_dload, w_istore, w_istore_n, w_astore_r, w_astore_s, w_astore_n_r, w_astore_n_s, w_dstore, w_iinc, w_iadd, w_isub, w_imul, w_iand, w_iushr, v_idiv, v_irem, w_ineg, w_i2l, w_i2c, w_i2f, w_i2d, v_f2d, w_lcmp, w_dcmp, v_fdiv, v_ddiv, w_dup_i, w_dup_r, w_dup2, w_dup_x2, w_pop_i, w_pop_r, w_goto, w_switch, w_ret_i, v_ret_z, v_ret_c, w_ret_a, w_ret_s, w_ret_f, w_ret_d, w_ret_v, v_iaload, v_baload, v_caload, v_laload, v_aaload, v_iastore, v_bastore, v_castore, v_lastore, v_aastore, v_alen, v_newa, v_anewa, w_new, w_throw, w_dead, v_getf_i, v_getf_z, v_getf_r, v_putf_i, v_putf_z, v_putf_r, w_call0, w_call1, w_callv1, w_calli1, w_callt1, w_call2, w_callv2, w_calli2, w_callt2, w_call3, w_callv3, w_calli3, w_call4, w_callv4, w_calli4, w_call5, w_callv5, w_calli5, w_call6, w_callv6, w_calli6, w_call7, w_callv7, w_calli7, w_call8, w_callv8, w_calli8, c_if0_eq_t, c_if0_eq_f, c_if2_eq_t, c_if2_eq_f, c_if0_ne_t, c_if0_ne_f, c_if2_ne_t, c_if2_ne_f, c_if0_lt_t, c_if0_lt_f, c_if2_lt_t, c_if2_lt_f, c_if0_ge_t, c_if0_ge_f, c_if2_ge_t, c_if2_ge_f, c_if0_gt_t, c_if0_gt_f, c_if2_gt_t, c_if2_gt_f, c_if0_le_t, c_if0_le_f, c_if2_le_t, c_if2_le_f, w_nil, uI_s, uA_r, uA_s, uD_d, mPut_0, mCl_own, mCv_go, mCl_min, mCl_cpy, mCv_obj, mAct_len, mAct_chrc, mAft_v, mAft_n, mAft_x, mGet_0, mSet_0, mGet_1, mSet_1, mGet_2, mSet_2, mGet_3, mSet_3, mGet_4, mSet_4, mGet_5, mSet_5, mGet_6, mSet_6, mGet_7, mSet_7, mGet_8, mSet_8, mGet_9, mSet_9, mGet_10, mSet_10, mGet_11, mSet_11, mGet_12, mSet_12, mGet_13, mSet_13, a_Mo_nSend_79, bk_Mo_nSend_79, a_Mo_nSend_135, bk_Mo_nSend_135]
    exact k g I (fun _ _ => rfl) h5 hcg hN hch
  | c + 1, t, g, I, x6, ht, h2, h3, h5, hnx, hse, ⟨p0, p1⟩, hcg, hN, hold, hch, k => by
    obtain ⟨hg, hun⟩ := hd t (by omega)
    obtain ⟨⟨w0, w1, w2, w3, w4⟩, hh⟩ := hT _ p0 p1 hse hg
    have hga := hold _ p0 p1 hse hg ⟨hg, Int.le_refl _⟩
    generalize hv : nPth (kBh fr to nx) src t = v at hse p0 p1 hg w0 w1 w2 w3 w4 hh hun hN hold hga
    have hnext : nPth (kBh fr to nx) src (t + 1) = kBh fr to nx v := by show kBh fr to nx (nPth (kBh fr to nx) src t) = _; rw [hv]
    obtain ⟨⟨a0, a1⟩, hfx, hr, hcase⟩ := id hh
    obtain ⟨c0, c1⟩ := hc _ a0 a1 hr
    have hrb := hrm _ a0 a1
    have hne := (hw _ a0 a1 hr).2.2
    have go : ∀ z : Int, z = (if fr (nx v) = v then g (nx v) + un else g (nx v) - un) → mAt (mRun (D + 1)) 216 79 ([some (mR m), some (mI src), some (mI goal), some (mI most), some (mI un), some (mI (kBh fr to nx v)), some (mI (nx v))], [], mUp I (m + 5) (nx v) z, S) Q := fun z hz => by
      have e5 : (mUp I (m + 5) (nx v) z) (m + 5) = zU g (nx v) z := by rw [up_zU, h5]
      rw [← hnext]
      refine l_ms2 hm hw hT hc hrm u1 hTg hd c (t + 1) (by omega) (by rw [up_fa (by omega)]; exact h2) (by rw [up_fa (by omega)]; exact h3) e5 (by rw [up_fa (by omega)]; exact hnx) (by rw [hnext]; exact w1) (by rw [hnext]; exact w0) (fun a q0 q1 q2 => ?_) (fun w => ?_) (fun x x0 x1 x2 x3 x4 => ?_) (fun a => ?_) (fun g' I' y1 y2 y3 y4 y5 => k g' I' (fun a ha => by rw [y1 a ha, up_fa ha]) y2 y3 y4 y5)
      · by_cases haa : a = nx v
        · rw [haa, zU_eq rfl, hz]
          unfold kLe at hun
          by_cases hf : fr (nx v) = v
          · rw [if_pos hf] at hun ⊢; omega
          · rw [if_neg hf] at hun ⊢; omega
        · rw [zU_ne haa]; exact hcg a q0 q1 q2
      · rw [kN_U a0 a1, hN w, hnext, hz]
        by_cases hf : fr (nx v) = v
        · have e : kBh fr to nx v = to (nx v) := by unfold kBh; rw [if_pos hf]
          rw [if_pos hf, e, hf]
          by_cases d1 : to (nx v) = w
          · by_cases d2 : v = w
            · simp only [if_pos d1, if_pos d2]; omega
            · simp only [if_pos d1, if_neg d2]; omega
          · by_cases d2 : v = w
            · simp only [if_neg d1, if_pos d2]; omega
            · simp only [if_neg d1, if_neg d2]; omega
        · have e : kBh fr to nx v = fr (nx v) := by unfold kBh; rw [if_neg hf]
          have e2 : to (nx v) = v := by
            rcases hcase with ⟨q, -, -⟩ | ⟨q, -, -⟩
            · exact absurd q hf
            · exact q
          rw [if_neg hf, e, e2]
          by_cases d1 : fr (nx v) = w
          · by_cases d2 : v = w
            · simp only [if_pos d1, if_pos d2]; omega
            · simp only [if_pos d1, if_neg d2]; omega
          · by_cases d2 : v = w
            · simp only [if_neg d1, if_pos d2]; omega
            · simp only [if_neg d1, if_neg d2]; omega
      · rw [hnext] at x4
        have hxv : x ≠ v := fun h9 => by rw [h9] at x4; omega
        obtain ⟨⟨y0, y1, y2, y3, y4⟩, hx⟩ := hT x x0 x1 x2 x3
        have hna : nx x ≠ nx v := fun h9 => by
          obtain ⟨-, -, -, g3⟩ := hx
          rw [h9] at g3
          have hb := kH_bh hw hh
          rcases g3 with ⟨z1, z2, -⟩ | ⟨z1, z2, -⟩ <;> rcases hcase with ⟨z3, z4, -⟩ | ⟨z3, z4, -⟩
          · exact hxv (z1.symm.trans z3)
          · rw [← z2, z3] at y3; rw [← z1, z4] at y3; omega
          · rw [← z2, z3] at y3; rw [← z1, z4] at y3; omega
          · exact hxv (z1.symm.trans z3)
        rw [zU_ne hna]
        exact hold x x0 x1 x2 x3 ⟨hg, by omega⟩
      · by_cases haa : a = nx v
        · right; rw [haa]; exact ⟨⟨a0, a1⟩, hfx, hr⟩
        · rw [zU_ne haa]; exact hch a
    have hb : ∀ (z : Int) (Q : mQ), mRun (D + 1) 217 [mR m, mI v] (mUp I (m + 5) (nx v) z) S Q = Q (.inl (some (mI (kBh fr to nx v)))) (mUp I (m + 5) (nx v) z) S := fun z Q => r_behind D hm hw (by rw [up_fa (by omega)]; exact h2) (by rw [up_fa (by omega)]; exact h3) (by rw [up_fa (by omega)]; exact hnx) p0 p1 a0 a1
    rw [a_Mo_nSend_79]
    unfold kLe at hun
    by_cases hf : fr (nx v) = v
    · rw [if_pos hf] at hun
      simp (disch := first | omega | exact Nat.le_of_ble_eq_true rfl | (simp (disch := omega) only [ym_k hm, ym_2 hm, ym_k2 hm, ym_l2 hm, ym_3 hm, ym_k3 hm, ym_l3 hm, ym_4 hm, ym_k4 hm, ym_l4 hm, ym_5 hm, ym_k5 hm, ym_l5 hm, ym_10 hm, ym_k10 hm, ym_l10 hm, h2, h3, h5, hnx] <;> omega)) only [w_iconst, w_bipush, w_sipush, w_ldc_s, w_ldcw_s, w_ldc_i, w_ldcw_i, w_lconst, w_fconst, w_dconst, w_iload, w_iload_n, w_aload, w_aload_n, w_dload, w_istore, w_istore_n, w_astore_r, w_astore_s, w_astore_n_r, w_astore_n_s, w_dstore, w_iinc, w_iadd, w_isub, w_imul, w_iand, w_iushr, v_idiv, v_irem, w_ineg, w_i2l, w_i2c, w_i2f, w_i2d, v_f2d, w_lcmp, w_dcmp, v_fdiv, v_ddiv, w_dup_i, w_dup_r, w_dup2, w_dup_x2, w_pop_i, w_pop_r, w_goto, w_switch, w_ret_i, v_ret_z, v_ret_c, w_ret_a, w_ret_s, w_ret_f, w_ret_d, w_ret_v, v_iaload, v_baload, v_caload, v_laload, v_aaload, v_iastore, v_bastore, v_castore, v_lastore, v_aastore, v_alen, v_newa, v_anewa, w_new, w_throw, w_dead, v_getf_i, v_getf_z, v_getf_r, v_putf_i, v_putf_z, v_putf_r, w_call0, w_call1, w_callv1, w_calli1, w_callt1, w_call2, w_callv2, w_calli2, w_callt2, w_call3, w_callv3, w_calli3, w_call4, w_callv4, w_calli4, w_call5, w_callv5, w_calli5, w_call6, w_callv6, w_calli6, w_call7, w_callv7, w_calli7, w_call8, w_callv8, w_calli8, c_if0_eq_t, c_if0_eq_f, c_if2_eq_t, c_if2_eq_f, c_if0_ne_t, c_if0_ne_f, c_if2_ne_t, c_if2_ne_f, c_if0_lt_t, c_if0_lt_f, c_if2_lt_t, c_if2_lt_f, c_if0_ge_t, c_if0_ge_f, c_if2_ge_t, c_if2_ge_f, c_if0_gt_t, c_if0_gt_f, c_if2_gt_t, c_if2_gt_f, c_if0_le_t, c_if0_le_f, c_if2_le_t, c_if2_le_f, w_nil, uI_s, uA_r, uA_s, uD_d, mPut_0, mCl_own, mCv_go, mCl_min, mCl_cpy, mCv_obj, mAct_len, mAct_chrc, mAft_v, mAft_n, mAft_x, mGet_0, mSet_0, mGet_1, mSet_1, mGet_2, mSet_2, mGet_3, mSet_3, mGet_4, mSet_4, mGet_5, mSet_5, mGet_6, mSet_6, mGet_7, mSet_7, mGet_8, mSet_8, mGet_9, mSet_9, mGet_10, mSet_10, mGet_11, mSet_11, mGet_12, mSet_12, mGet_13, mSet_13, bk_Mo_nSend_79, a_Mo_nSend_122, bk_Mo_nSend_122, ym_k hm, ym_2 hm, ym_k2 hm, ym_l2 hm, ym_3 hm, ym_k3 hm, ym_l3 hm, ym_4 hm, ym_k4 hm, ym_l4 hm, ym_5 hm, ym_k5 hm, ym_l5 hm, ym_10 hm, ym_k10 hm, ym_l10 hm, h2, h3, h5, hnx, hv, hb, wr]
      exact go _ (by rw [if_pos hf])
    · rw [if_neg hf] at hun
      simp (disch := first | omega | exact Nat.le_of_ble_eq_true rfl | (simp (disch := omega) only [ym_k hm, ym_2 hm, ym_k2 hm, ym_l2 hm, ym_3 hm, ym_k3 hm, ym_l3 hm, ym_4 hm, ym_k4 hm, ym_l4 hm, ym_5 hm, ym_k5 hm, ym_l5 hm, ym_10 hm, ym_k10 hm, ym_l10 hm, h2, h3, h5, hnx] <;> omega)) only [w_iconst, w_bipush, w_sipush, w_ldc_s, w_ldcw_s, w_ldc_i, w_ldcw_i, w_lconst, w_fconst, w_dconst, w_iload, w_iload_n, w_aload, w_aload_n, w_dload, w_istore, w_istore_n, w_astore_r, w_astore_s, w_astore_n_r, w_astore_n_s, w_dstore, w_iinc, w_iadd, w_isub, w_imul, w_iand, w_iushr, v_idiv, v_irem, w_ineg, w_i2l, w_i2c, w_i2f, w_i2d, v_f2d, w_lcmp, w_dcmp, v_fdiv, v_ddiv, w_dup_i, w_dup_r, w_dup2, w_dup_x2, w_pop_i, w_pop_r, w_goto, w_switch, w_ret_i, v_ret_z, v_ret_c, w_ret_a, w_ret_s, w_ret_f, w_ret_d, w_ret_v, v_iaload, v_baload, v_caload, v_laload, v_aaload, v_iastore, v_bastore, v_castore, v_lastore, v_aastore, v_alen, v_newa, v_anewa, w_new, w_throw, w_dead, v_getf_i, v_getf_z, v_getf_r, v_putf_i, v_putf_z, v_putf_r, w_call0, w_call1, w_callv1, w_calli1, w_callt1, w_call2, w_callv2, w_calli2, w_callt2, w_call3, w_callv3, w_calli3, w_call4, w_callv4, w_calli4, w_call5, w_callv5, w_calli5, w_call6, w_callv6, w_calli6, w_call7, w_callv7, w_calli7, w_call8, w_callv8, w_calli8, c_if0_eq_t, c_if0_eq_f, c_if2_eq_t, c_if2_eq_f, c_if0_ne_t, c_if0_ne_f, c_if2_ne_t, c_if2_ne_f, c_if0_lt_t, c_if0_lt_f, c_if2_lt_t, c_if2_lt_f, c_if0_ge_t, c_if0_ge_f, c_if2_ge_t, c_if2_ge_f, c_if0_gt_t, c_if0_gt_f, c_if2_gt_t, c_if2_gt_f, c_if0_le_t, c_if0_le_f, c_if2_le_t, c_if2_le_f, w_nil, uI_s, uA_r, uA_s, uD_d, mPut_0, mCl_own, mCv_go, mCl_min, mCl_cpy, mCv_obj, mAct_len, mAct_chrc, mAft_v, mAft_n, mAft_x, mGet_0, mSet_0, mGet_1, mSet_1, mGet_2, mSet_2, mGet_3, mSet_3, mGet_4, mSet_4, mGet_5, mSet_5, mGet_6, mSet_6, mGet_7, mSet_7, mGet_8, mSet_8, mGet_9, mSet_9, mGet_10, mSet_10, mGet_11, mSet_11, mGet_12, mSet_12, mGet_13, mSet_13, bk_Mo_nSend_79, a_Mo_nSend_119, bk_Mo_nSend_119, a_Mo_nSend_122, bk_Mo_nSend_122, ym_k hm, ym_2 hm, ym_k2 hm, ym_l2 hm, ym_3 hm, ym_k3 hm, ym_l3 hm, ym_4 hm, ym_k4 hm, ym_l4 hm, ym_5 hm, ym_k5 hm, ym_l5 hm, ym_10 hm, ym_k10 hm, ym_l10 hm, h2, h3, h5, hnx, hv, hb, wr]
      exact go _ (by rw [if_neg hf]; omega)
theorem p_msend {I : mN} {many : Int} (hm : yM S m) (hw : kWf fr to rm) (hA : kA I m fr to rm fl fx) (hQ : kQ fr to rm fl fx I m goal many) (hc : kCap rm fl) (hrm : ∀ a : Int, 0 ≤ a → a < 168 → rm a ≤ 100000) (s0 : 0 ≤ src) (s1 : src < 49) (hs : I (m + 9) src = 1) (m0 : 1 ≤ most) (m1 : most ≤ 1000000)
    (k : ∀ (un : Int) (g : Int → Int) (I' : mN), 1 ≤ un → un ≤ most → (∀ a : Int, a ≠ m + 5 → I' a = I a) → I' (m + 5) = g → kCap rm g → (∀ w : Int, kN fr to g w = kN fr to fl w + ((if goal = w then un else 0) - (if src = w then un else 0))) → (∀ a : Int, g a = fl a ∨ ((0 ≤ a ∧ a < 168) ∧ fx a = 0 ∧ 0 < rm a)) → Q (.inl (some (mI un))) I' S) : mRun (D + 2) 216 [mR m, mI src, mI goal, mI most] I S Q := by
  obtain ⟨h2, h3, h4, h5, h6, hL⟩ := hA
  obtain ⟨ord, ho, hT⟩ := kQ_tree hw hQ
  obtain ⟨i, i0, i1, i2⟩ := hQ.2.2.2.2.2.1 src s0 s1 hs
  have hos : ord src = i := by rw [← i2]; exact ho i i0 i1
  have hm49 := hQ.1
  simp (disch := first | omega | exact Nat.le_of_ble_eq_true rfl) only [w_iconst, w_bipush, w_sipush, w_ldc_s, w_ldcw_s, w_ldc_i, w_ldcw_i, w_lconst, w_fconst, w_dconst, w_iload, w_iload_n, w_aload, w_aload_n, w_dload, w_istore, w_istore_n, w_astore_r, w_astore_s, w_astore_n_r, w_astore_n_s, w_dstore, w_iinc, w_iadd, w_isub, w_imul, w_iand, w_iushr, v_idiv, v_irem, w_ineg, w_i2l, w_i2c, w_i2f, w_i2d, v_f2d, w_lcmp, w_dcmp, v_fdiv, v_ddiv, w_dup_i, w_dup_r, w_dup2, w_dup_x2, w_pop_i, w_pop_r, w_goto, w_switch, w_ret_i, v_ret_z, v_ret_c, w_ret_a, w_ret_s, w_ret_f, w_ret_d, w_ret_v, v_iaload, v_baload, v_caload, v_laload, v_aaload, v_iastore, v_bastore, v_castore, v_lastore, v_aastore, v_alen, v_newa, v_anewa, w_new, w_throw, w_dead, v_getf_i, v_getf_z, v_getf_r, v_putf_i, v_putf_z, v_putf_r, w_call0, w_call1, w_callv1, w_calli1, w_callt1, w_call2, w_callv2, w_calli2, w_callt2, w_call3, w_callv3, w_calli3, w_call4, w_callv4, w_calli4, w_call5, w_callv5, w_calli5, w_call6, w_callv6, w_calli6, w_call7, w_callv7, w_calli7, w_call8, w_callv8, w_calli8, c_if0_eq_t, c_if0_eq_f, c_if2_eq_t, c_if2_eq_f, c_if0_ne_t, c_if0_ne_f, c_if2_ne_t, c_if2_ne_f, c_if0_lt_t, c_if0_lt_f, c_if2_lt_t, c_if2_lt_f, c_if0_ge_t, c_if0_ge_f, c_if2_ge_t, c_if2_ge_f, c_if0_gt_t, c_if0_gt_f, c_if2_gt_t, c_if2_gt_f, c_if0_le_t, c_if0_le_f, c_if2_le_t, c_if2_le_f, w_nil, uI_s, uA_r, uA_s, uD_d, mPut_0, mCl_own, mCv_go, mCl_min, mCl_cpy, mCv_obj, mAct_len, mAct_chrc, mAft_v, mAft_n, mAft_x, mGet_0, mSet_0, mGet_1, mSet_1, mGet_2, mSet_2, mGet_3, mSet_3, mGet_4, mSet_4, mGet_5, mSet_5, mGet_6, mSet_6, mGet_7, mSet_7, mGet_8, mSet_8, mGet_9, mSet_9, mGet_10, mSet_10, mGet_11, mSet_11, mGet_12, mSet_12, mGet_13, mSet_13, e_Mo_nSend, a_Mo_nSend_0, bk_Mo_nSend_0]
  refine l_ms1 (fr := fr) (to := to) (rm := rm) (fl := fl) (fx := fx) (nx := I (m + 10)) (se := I (m + 9)) (ord := ord) (src := src) D hm hw h2 h3 h4 h5 rfl hT hc hrm 48 0 hs ⟨s0, s1⟩ (fun _ => by show ord src ≤ _; omega) m0 m1 (fun s hs => absurd hs (Nat.not_lt_zero s)) (fun T un x5 x6 y1 y2 y3 y4 => ?_)
  simp (disch := first | omega | exact Nat.le_of_ble_eq_true rfl) only [w_iconst, w_bipush, w_sipush, w_ldc_s, w_ldcw_s, w_ldc_i, w_ldcw_i, w_lconst, w_fconst, w_dconst, w_iload, w_iload_n, w_aload, w_aload_n, w_dload, w_istore, w_istore_n, w_astore_r, w_astore_s, w_astore_n_r, w_astore_n_s, w_dstore, w_iinc, w_iadd, w_isub, w_imul, w_iand, w_iushr, v_idiv, v_irem, w_ineg, w_i2l, w_i2c, w_i2f, w_i2d, v_f2d, w_lcmp, w_dcmp, v_fdiv, v_ddiv, w_dup_i, w_dup_r, w_dup2, w_dup_x2, w_pop_i, w_pop_r, w_goto, w_switch, w_ret_i, v_ret_z, v_ret_c, w_ret_a, w_ret_s, w_ret_f, w_ret_d, w_ret_v, v_iaload, v_baload, v_caload, v_laload, v_aaload, v_iastore, v_bastore, v_castore, v_lastore, v_aastore, v_alen, v_newa, v_anewa, w_new, w_throw, w_dead, v_getf_i, v_getf_z, v_getf_r, v_putf_i, v_putf_z, v_putf_r, w_call0, w_call1, w_callv1, w_calli1, w_callt1, w_call2, w_callv2, w_calli2, w_callt2, w_call3, w_callv3, w_calli3, w_call4, w_callv4, w_calli4, w_call5, w_callv5, w_calli5, w_call6, w_callv6, w_calli6, w_call7, w_callv7, w_calli7, w_call8, w_callv8, w_calli8, c_if0_eq_t, c_if0_eq_f, c_if2_eq_t, c_if2_eq_f, c_if0_ne_t, c_if0_ne_f, c_if2_ne_t, c_if2_ne_f, c_if0_lt_t, c_if0_lt_f, c_if2_lt_t, c_if2_lt_f, c_if0_ge_t, c_if0_ge_f, c_if2_ge_t, c_if2_ge_f, c_if0_gt_t, c_if0_gt_f, c_if2_gt_t, c_if2_gt_f, c_if0_le_t, c_if0_le_f, c_if2_le_t, c_if2_le_f, w_nil, uI_s, uA_r, uA_s, uD_d, mPut_0, mCl_own, mCv_go, mCl_min, mCl_cpy, mCv_obj, mAct_len, mAct_chrc, mAft_v, mAft_n, mAft_x, mGet_0, mSet_0, mGet_1, mSet_1, mGet_2, mSet_2, mGet_3, mSet_3, mGet_4, mSet_4, mGet_5, mSet_5, mGet_6, mSet_6, mGet_7, mSet_7, mGet_8, mSet_8, mGet_9, mSet_9, mGet_10, mSet_10, mGet_11, mSet_11, mGet_12, mSet_12, mGet_13, mSet_13, a_Mo_nSend_76, bk_Mo_nSend_76]
  exact l_ms2 (fr := fr) (to := to) (rm := rm) (fl := fl) (fx := fx) (nx := I (m + 10)) (se := I (m + 9)) (ord := ord) (src := src) D hm hw hT hc hrm y2 y1 y4 T 0 (Nat.zero_add T) h2 h3 h5 rfl hs ⟨s0, s1⟩ hc (fun w => by show _ = _ + ((if src = w then un else 0) - (if src = w then un else 0)); omega) (fun _ _ _ _ _ _ => rfl) (fun a => Or.inl rfl) (fun g' I' z1 z2 z3 z4 z5 => k un g' I' y2 y3 z1 z2 z3 z4 z5)
end KP
