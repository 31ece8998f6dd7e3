/-! The model brings water to a node. -/
/-- arcs laid as a network's, with supplies out of the spring -/
def kNt (fr to rm : Int → Int) (N : zNet) : Prop := (∀ a : Int, 0 ≤ a → a < 120 → (N.1 a = true → fr a = N.2.1 a ∧ to a = N.2.2.1 a ∧ rm a = N.2.2.2.1 a) ∧ (N.1 a = false → fr a = 48 ∧ to a = 48 ∧ rm a = 0)) ∧ ∀ v : Int, 0 ≤ v → v < 48 → fr (120 + v) = 48 ∧ ((to (120 + v) = v ∧ rm (120 + v) = N.2.2.2.2 v) ∨ (to (120 + v) = 48 ∧ rm (120 + v) = 0 ∧ N.2.2.2.2 v = 0))
/-- a flow that brings to each node just what is taken there -/
def kSt (fr to rm fl : Int → Int) (Dm : Int → Int) : Prop := kCap rm fl ∧ (∀ a : Int, 0 ≤ a → a < 168 → rm a ≤ 0 → fl a = 0) ∧ ∀ w : Int, 0 ≤ w → w < 48 → kN fr to fl w = Dm w
theorem sm_split (n : Nat) : ∀ (k : Nat) (f : Int → Int), sm (n + k) f = sm n f + sm k (fun i => f (n + i))
  | 0, f => by show sm n f = sm n f + 0; omega
  | k + 1, f => by
    have h := sm_split n k f
    show sm (n + k) f + f ((n + k : Nat) : Int) = sm n f + (sm k (fun i => f (n + i)) + f (n + (k : Nat)))
    rw [h, show ((n + k : Nat) : Int) = (n : Int) + (k : Nat) by omega]
    omega
section KB
variable {fr to rm fl fx : Int → Int} {N : zNet} {Dm : Int → Int}
theorem kNt_wf (hN : kNt fr to rm N) (hz : zWf N) (hne : ∀ a : Int, 0 ≤ a → a < 120 → N.1 a = true → N.2.1 a ≠ N.2.2.1 a) : kWf fr to rm := by
  intro a a0 a1 hr
  by_cases ha : a < 120
  · obtain ⟨h1, h2⟩ := hN.1 a a0 ha
    cases hl : N.1 a with
    | true =>
      obtain ⟨g1, g2, g3⟩ := h1 hl
      obtain ⟨k1, k2, -⟩ := hz a a0 ha hl
      have := hne a a0 ha hl
      rw [g1, g2]; omega
    | false =>
      have := (h2 hl).2.2
      omega
  · obtain ⟨h1, h2⟩ := hN.2 (a - 120) (by omega) (by omega)
    rw [show 120 + (a - 120) = a by omega] at h1 h2
    rcases h2 with ⟨h2, -⟩ | ⟨-, h3, -⟩
    · rw [h1, h2]; omega
    · omega
/-- what is left at a node's supply -/
theorem kSt_ex (hN : kNt fr to rm N) (hsu : ∀ v : Int, 0 ≤ v → v < 48 → 0 ≤ N.2.2.2.2 v) (h : kSt fr to rm fl Dm) {w : Int} (w0 : 0 ≤ w) (w1 : w < 48) : zEx N fl w = Dm w + (N.2.2.2.2 w - fl (120 + w)) ∧ 0 ≤ fl (120 + w) ∧ fl (120 + w) ≤ N.2.2.2.2 w := by
  obtain ⟨h1, h2, h3⟩ := h
  have e1 : kN fr to fl w = zIn N fl w + fl (120 + w) := by
    unfold kN zIn
    rw [sm_split 120 48 (fun a => (if to a = w then fl a else 0) - (if fr a = w then fl a else 0))]
    have e2 : sm 120 (fun a => (if to a = w then fl a else 0) - (if fr a = w then fl a else 0)) = sm 120 (fun a => if N.1 a = true then (if N.2.2.1 a = w then fl a else 0) - (if N.2.1 a = w then fl a else 0) else 0) := by
      refine sm_congr (fun a a0 a1 => ?_)
      obtain ⟨g1, g2⟩ := hN.1 a a0 (by omega)
      cases hl : N.1 a with
      | true =>
        obtain ⟨q1, q2, -⟩ := g1 hl
        rw [if_pos rfl, q1, q2]
      | false =>
        obtain ⟨q1, q2, -⟩ := g2 hl
        rw [q1, q2, if_neg (show ¬ (48 : Int) = w by omega)]; rfl
    have e3 : sm 48 (fun i => (fun a => (if to a = w then fl a else 0) - (if fr a = w then fl a else 0)) ((120 : Nat) + i)) = fl (120 + w) := by
      rw [sm_one (k := w) w0 (by omega) (fun i i0 i1 hi => ?_)]
      · obtain ⟨g1, g2⟩ := hN.2 w w0 w1
        show (if to ((120 : Nat) + w) = w then fl ((120 : Nat) + w) else 0) - (if fr ((120 : Nat) + w) = w then fl ((120 : Nat) + w) else 0) = _
        rw [show ((120 : Nat) : Int) + w = 120 + w by rfl, g1, if_neg (show ¬ (48 : Int) = w by omega)]
        rcases g2 with ⟨g2, -⟩ | ⟨g2, g3, -⟩
        · rw [if_pos g2]; omega
        · rw [if_neg (by omega), h2 (120 + w) (by omega) (by omega) (by omega)]; omega
      · obtain ⟨g1, g2⟩ := hN.2 i i0 (by omega)
        show (if to ((120 : Nat) + i) = w then fl ((120 : Nat) + i) else 0) - (if fr ((120 : Nat) + i) = w then fl ((120 : Nat) + i) else 0) = 0
        rw [show ((120 : Nat) : Int) + i = 120 + i by rfl, g1, if_neg (show ¬ (48 : Int) = w by omega)]
        rcases g2 with ⟨g2, -⟩ | ⟨g2, -⟩
        · rw [if_neg (by omega)]; omega
        · rw [if_neg (by omega)]; omega
    rw [e2, e3]
  have e4 := h3 w w0 w1
  have hb : 0 ≤ fl (120 + w) ∧ fl (120 + w) ≤ N.2.2.2.2 w := by
    obtain ⟨g1, g2⟩ := hN.2 w w0 w1
    have hs := hsu w w0 w1
    by_cases hr : 0 < rm (120 + w)
    · obtain ⟨c0, c1⟩ := h1 (120 + w) (by omega) (by omega) hr
      rcases g2 with ⟨-, g3⟩ | ⟨-, g3, -⟩
      · rw [g3] at c1; exact ⟨c0, c1⟩
      · omega
    · rw [h2 (120 + w) (by omega) (by omega) (by omega)]; omega
  refine ⟨?_, hb⟩
  unfold zEx
  omega
theorem kSt_cap (hN : kNt fr to rm N) (hz : zWf N) (h : kSt fr to rm fl Dm) : zCap N fl := fun a a0 a1 hl => by
  obtain ⟨g1, g2, g3⟩ := (hN.1 a a0 a1).1 hl
  by_cases hr : 0 < rm a
  · rw [← g3]; exact h.1 a a0 (by omega) hr
  · have h0 := (hz a a0 a1 hl).2.2
    rw [h.2.1 a a0 (by omega) (by omega)]; omega
theorem kSt_fl (hN : kNt fr to rm N) (hz : zWf N) (hsu : ∀ v : Int, 0 ≤ v → v < 48 → 0 ≤ N.2.2.2.2 v) (h : kSt fr to rm fl Dm) : zFl N fl Dm := ⟨kSt_cap hN hz h, fun v v0 v1 => by
  obtain ⟨g1, g2, g3⟩ := kSt_ex hN hsu h v0 v1
  omega⟩
/-- a search that failed to reach the spring: what is seen closes -/
theorem kClo {se : Int → Int} {st : Int → Int} (hN : kNt fr to rm N) (hz : zWf N) (hsu : ∀ v : Int, 0 ≤ v → v < 48 → 0 ≤ N.2.2.2.2 v) (h : kSt fr to rm fl Dm) (hfx : ∀ a : Int, 120 ≤ a → a < 168 → fx a = 0) (hst : ∀ a : Int, 0 ≤ a → a < 120 → st a = 0 → fx a = 0) (h48 : se 48 = 0) (hcl : ∀ u v a : Int, 0 ≤ v → v < 49 → se v = 1 → kH fr to rm fl fx u v a → se u = 1) : nClo N fl st (fun w => N.2.2.2.2 w - fl (120 + w)) (fun v => decide (se v = 1)) := by
  refine ⟨fun v v0 v1 hv => ?_, fun a a0 a1 hl hs => ?_⟩
  · have hv1 : se v = 1 := of_decide_eq_true hv
    obtain ⟨g1, g2⟩ := hN.2 v v0 v1
    obtain ⟨-, b0, b1⟩ := kSt_ex hN hsu h v0 v1
    by_cases hlt : fl (120 + v) < N.2.2.2.2 v
    · rcases g2 with ⟨g2, g3⟩ | ⟨-, -, g4⟩
      · have h9 := hcl 48 v (120 + v) v0 (by omega) hv1 ⟨⟨by omega, by omega⟩, hfx _ (by omega) (by omega), by omega, Or.inl ⟨g1, g2, by omega⟩⟩
        omega
      · omega
    · show N.2.2.2.2 v - fl (120 + v) ≤ 0
      omega
  · obtain ⟨q1, q2, q3⟩ := (hN.1 a a0 a1).1 hl
    obtain ⟨⟨k1, k2⟩, ⟨k3, k4⟩, k5⟩ := hz a a0 a1 hl
    obtain ⟨c0, c1⟩ := kSt_cap hN hz h a a0 a1 hl
    have hf := hst a a0 a1 hs
    refine ⟨fun h1 h2 => ?_, fun h1 h2 => ?_⟩
    · by_cases hlt : fl a < N.2.2.2.1 a
      · have h9 := hcl (N.2.1 a) (N.2.2.1 a) a k3 (by omega) (of_decide_eq_true h1) ⟨⟨a0, by omega⟩, hf, by omega, Or.inl ⟨q1, q2, by omega⟩⟩
        exact absurd h9 (of_decide_eq_false h2)
      · omega
    · by_cases hlt : 0 < fl a
      · have h9 := hcl (N.2.2.1 a) (N.2.1 a) a k1 (by omega) (of_decide_eq_true h1) ⟨⟨a0, by omega⟩, hf, by omega, Or.inr ⟨q2, q1, hlt⟩⟩
        exact absurd h9 (of_decide_eq_false h2)
      · omega
end KB
section KM
variable {m : Int} {S : mH} {Q : mQ} (D : Nat) {fr to rm fx : Int → Int} {N : zNet} {Dm : Int → Int} {node most : Int}
def kFb (I I' : mN) (m : Int) : Prop := ∀ a : Int, a ≠ m + 5 → a ≠ m + 9 → a ≠ m + 10 → a ≠ m + 11 → I' a = I a
theorem kFb_t {I I' I'' : mN} {m : Int} (h : kFb I I' m) (h' : kFb I' I'' m) : kFb I I'' m := fun a a1 a2 a3 a4 => (h' a a1 a2 a3 a4).trans (h a a1 a2 a3 a4)
theorem l_mb (hm : yM S m) (hN : kNt fr to rm N) (hz : zWf N) (hw : kWf fr to rm) (hsu : ∀ v : Int, 0 ≤ v → v < 48 → 0 ≤ N.2.2.2.2 v) (hrm : ∀ a : Int, 0 ≤ a → a < 168 → rm a ≤ 100000) (hfx : ∀ a : Int, 0 ≤ a → a < 168 → fx a = 0) (n0 : 0 ≤ node) (n1 : node < 48) (hmost : most ≤ 1000000) :
    ∀ (c : Nat) {b : Int} {fl : Int → Int} {I : mN}, kA I m fr to rm fl fx → 0 ≤ b → most ≤ b + c → (b ≤ most ∨ b = 0) → kSt fr to rm fl (zAt Dm node b) →
    (∀ (x : Int) (fl' : Int → Int) (I' : mN), 0 ≤ x → (x ≤ most ∨ x = 0) → kFb I I' m → kA I' m fr to rm fl' fx → kSt fr to rm fl' (zAt Dm node x) → (x < most → ¬ zFeas N (zAt (zAt Dm node x) node 1)) → Q (.inl (some (mI x))) I' S) →
    mAt (mRun (D + 2)) 218 2 ([some (mR m), some (mI node), some (mI most), some (mI b)], [], I, S) Q
  | c, b, fl, I, hA, b0, b1, b2, hS, k => by
    by_cases hb : b < most
    · match c, b1 with
      | 0, b1 => omega
      | c + 1, b1 =>
      rw [a_Mo_nBring_2]
      simp (disch := first | omega | exact Nat.le_of_ble_eq_true rfl | (simp (disch := omega) only [ym_k hm] <;> omega)) only [w_iconst, w_bipush, w_sipush, w_ldc_s, w_ldcw_s, w_ldc_i, w_ldcw_i, w_lconst, w_fconst, w_dconst, w_iload, w_iload_n, w_aload, w_aload_n, w_dload, w_istore, w_istore_n, w_astore_r, w_astore_s, w_astore_n_r, w_astore_n_s, w_dstore, w_iinc, w_iadd, w_isub, w_imul, w_iand, w_iushr, v_idiv, v_irem, w_ineg, w_i2l, w_i2c, w_i2f, w_i2d, v_f2d, w_lcmp, w_dcmp, v_fdiv, v_ddiv, w_dup_i, w_dup_r, w_dup2, w_dup_x2, w_pop_i, w_pop_r, w_goto, w_switch, w_ret_i, v_ret_z, v_ret_c, w_ret_a, w_ret_s, w_ret_f, w_ret_d, w_ret_v, v_iaload, v_baload, v_caload, v_laload, v_aaload, v_iastore, v_bastore, v_castore, v_lastore, v_aastore, v_alen, v_newa, v_anewa, w_new, w_throw, w_dead, v_getf_i, v_getf_z, v_getf_r, v_putf_i, v_putf_z, v_putf_r, w_call0, w_call1, w_callv1, w_calli1, w_callt1, w_call2, w_callv2, w_calli2, w_callt2, w_call3, w_callv3, w_calli3, w_call4, w_callv4, w_calli4, w_call5, w_callv5, w_calli5, w_call6, w_callv6, w_calli6, w_call7, w_callv7, w_calli7, w_call8, w_callv8, w_calli8, c_if0_eq_t, c_if0_eq_f, c_if2_eq_t, c_if2_eq_f, c_if0_ne_t, c_if0_ne_f, c_if2_ne_t, c_if2_ne_f, c_if0_lt_t, c_if0_lt_f, c_if2_lt_t, c_if2_lt_f, c_if0_ge_t, c_if0_ge_f, c_if2_ge_t, c_if2_ge_f, c_if0_gt_t, c_if0_gt_f, c_if2_gt_t, c_if2_gt_f, c_if0_le_t, c_if0_le_f, c_if2_le_t, c_if2_le_f, w_nil, uI_s, uA_r, uA_s, uD_d, mPut_0, mCl_own, mCv_go, mCl_min, mCl_cpy, mCv_obj, mAct_len, mAct_chrc, mAft_v, mAft_n, mAft_x, mGet_0, mSet_0, mGet_1, mSet_1, mGet_2, mSet_2, mGet_3, mSet_3, mGet_4, mSet_4, mGet_5, mSet_5, mGet_6, mSet_6, mGet_7, mSet_7, mGet_8, mSet_8, mGet_9, mSet_9, mGet_10, mSet_10, mGet_11, mSet_11, mGet_12, mSet_12, mGet_13, mSet_13, bk_Mo_nBring_2, ym_k hm, wr]
      refine p_mfind (D + 1) hm hw hA (by decide) ⟨n0, by omega⟩ (by omega) (fun I1 many f1 hQ h48 => ?_) (fun I1 many f1 hQ h48 hcl => ?_)
      · have hA1 := kA_k hA f1
        simp (disch := first | omega | exact Nat.le_of_ble_eq_true rfl | (simp (disch := omega) only [ym_k hm] <;> omega)) only [w_iconst, w_bipush, w_sipush, w_ldc_s, w_ldcw_s, w_ldc_i, w_ldcw_i, w_lconst, w_fconst, w_dconst, w_iload, w_iload_n, w_aload, w_aload_n, w_dload, w_istore, w_istore_n, w_astore_r, w_astore_s, w_astore_n_r, w_astore_n_s, w_dstore, w_iinc, w_iadd, w_isub, w_imul, w_iand, w_iushr, v_idiv, v_irem, w_ineg, w_i2l, w_i2c, w_i2f, w_i2d, v_f2d, w_lcmp, w_dcmp, v_fdiv, v_ddiv, w_dup_i, w_dup_r, w_dup2, w_dup_x2, w_pop_i, w_pop_r, w_goto, w_switch, w_ret_i, v_ret_z, v_ret_c, w_ret_a, w_ret_s, w_ret_f, w_ret_d, w_ret_v, v_iaload, v_baload, v_caload, v_laload, v_aaload, v_iastore, v_bastore, v_castore, v_lastore, v_aastore, v_alen, v_newa, v_anewa, w_new, w_throw, w_dead, v_getf_i, v_getf_z, v_getf_r, v_putf_i, v_putf_z, v_putf_r, w_call0, w_call1, w_callv1, w_calli1, w_callt1, w_call2, w_callv2, w_calli2, w_callt2, w_call3, w_callv3, w_calli3, w_call4, w_callv4, w_calli4, w_call5, w_callv5, w_calli5, w_call6, w_callv6, w_calli6, w_call7, w_callv7, w_calli7, w_call8, w_callv8, w_calli8, c_if0_eq_t, c_if0_eq_f, c_if2_eq_t, c_if2_eq_f, c_if0_ne_t, c_if0_ne_f, c_if2_ne_t, c_if2_ne_f, c_if0_lt_t, c_if0_lt_f, c_if2_lt_t, c_if2_lt_f, c_if0_ge_t, c_if0_ge_f, c_if2_ge_t, c_if2_ge_f, c_if0_gt_t, c_if0_gt_f, c_if2_gt_t, c_if2_gt_f, c_if0_le_t, c_if0_le_f, c_if2_le_t, c_if2_le_f, w_nil, uI_s, uA_r, uA_s, uD_d, mPut_0, mCl_own, mCv_go, mCl_min, mCl_cpy, mCv_obj, mAct_len, mAct_chrc, mAft_v, mAft_n, mAft_x, mGet_0, mSet_0, mGet_1, mSet_1, mGet_2, mSet_2, mGet_3, mSet_3, mGet_4, mSet_4, mGet_5, mSet_5, mGet_6, mSet_6, mGet_7, mSet_7, mGet_8, mSet_8, mGet_9, mSet_9, mGet_10, mSet_10, mGet_11, mSet_11, mGet_12, mSet_12, mGet_13, mSet_13, ym_k hm, wr]
        refine p_msend (fl := fl) (fx := fx) D hm hw hA1 hQ hS.1 hrm (by decide) (by decide) h48 (by omega) (by omega) (fun un g I2 u0 u1 f2 e5 hc hN2 hch => ?_)
        have hA2 : kA I2 m fr to rm g fx := by
          obtain ⟨g2, g3, g4, g5, g6, gL⟩ := hA1
          exact ⟨(f2 _ (by omega)).trans g2, (f2 _ (by omega)).trans g3, (f2 _ (by omega)).trans g4, e5, (f2 _ (by omega)).trans g6, kLs_k gL (f2 _ (by omega)) (f2 _ (by omega))⟩
        have hS2 : kSt fr to rm g (zAt Dm node (b + un)) := by
          refine ⟨hc, fun a a0 a1 hr => ?_, fun w w0 w1 => ?_⟩
          · rcases hch a with h9 | ⟨-, -, h9⟩
            · rw [h9]; exact hS.2.1 a a0 a1 hr
            · omega
          · rw [hN2 w, hS.2.2 w w0 w1, if_neg (show ¬ (48 : Int) = w by omega)]
            unfold zAt
            by_cases hwn : w = node
            · rw [if_pos hwn, if_pos hwn, if_pos hwn.symm]; omega
            · rw [if_neg hwn, if_neg hwn, if_neg (fun h9 => hwn h9.symm)]; omega
        simp (disch := first | omega | exact Nat.le_of_ble_eq_true rfl) only [w_iconst, w_bipush, w_sipush, w_ldc_s, w_ldcw_s, w_ldc_i, w_ldcw_i, w_lconst, w_fconst, w_dconst, w_iload, w_iload_n, w_aload, w_aload_n, w_dload, w_istore, w_istore_n, w_astore_r, w_astore_s, w_astore_n_r, w_astore_n_s, w_dstore, w_iinc, w_iadd, w_isub, w_imul, w_iand, w_iushr, v_idiv, v_irem, w_ineg, w_i2l, w_i2c, w_i2f, w_i2d, v_f2d, w_lcmp, w_dcmp, v_fdiv, v_ddiv, w_dup_i, w_dup_r, w_dup2, w_dup_x2, w_pop_i, w_pop_r, w_goto, w_switch, w_ret_i, v_ret_z, v_ret_c, w_ret_a, w_ret_s, w_ret_f, w_ret_d, w_ret_v, v_iaload, v_baload, v_caload, v_laload, v_aaload, v_iastore, v_bastore, v_castore, v_lastore, v_aastore, v_alen, v_newa, v_anewa, w_new, w_throw, w_dead, v_getf_i, v_getf_z, v_getf_r, v_putf_i, v_putf_z, v_putf_r, w_call0, w_call1, w_callv1, w_calli1, w_callt1, w_call2, w_callv2, w_calli2, w_callt2, w_call3, w_callv3, w_calli3, w_call4, w_callv4, w_calli4, w_call5, w_callv5, w_calli5, w_call6, w_callv6, w_calli6, w_call7, w_callv7, w_calli7, w_call8, w_callv8, w_calli8, c_if0_eq_t, c_if0_eq_f, c_if2_eq_t, c_if2_eq_f, c_if0_ne_t, c_if0_ne_f, c_if2_ne_t, c_if2_ne_f, c_if0_lt_t, c_if0_lt_f, c_if2_lt_t, c_if2_lt_f, c_if0_ge_t, c_if0_ge_f, c_if2_ge_t, c_if2_ge_f, c_if0_gt_t, c_if0_gt_f, c_if2_gt_t, c_if2_gt_f, c_if0_le_t, c_if0_le_f, c_if2_le_t, c_if2_le_f, w_nil, uI_s, uA_r, uA_s, uD_d, mPut_0, mCl_own, mCv_go, mCl_min, mCl_cpy, mCv_obj, mAct_len, mAct_chrc, mAft_v, mAft_n, mAft_x, mGet_0, mSet_0, mGet_1, mSet_1, mGet_2, mSet_2, mGet_3, mSet_3, mGet_4, mSet_4, mGet_5, mSet_5, mGet_6, mSet_6, mGet_7, mSet_7, mGet_8, mSet_8, mGet_9, mSet_9, mGet_10, mSet_10, mGet_11, mSet_11, mGet_12, mSet_12, mGet_13, mSet_13, wr]
        refine l_mb hm hN hz hw hsu hrm hfx n0 n1 hmost c hA2 (by omega) (by omega) (Or.inl (by omega)) hS2 (fun x fl' I' x0 x1 f3 hA3 hS3 hx => k x fl' I' x0 x1 (fun a a1 a2 a3 a4 => by rw [f3 a a1 a2 a3 a4, f2 a a1, f1 a a2 a3 a4]) hA3 hS3 hx)
      · simp (disch := first | omega | exact Nat.le_of_ble_eq_true rfl) only [w_iconst, w_bipush, w_sipush, w_ldc_s, w_ldcw_s, w_ldc_i, w_ldcw_i, w_lconst, w_fconst, w_dconst, w_iload, w_iload_n, w_aload, w_aload_n, w_dload, w_istore, w_istore_n, w_astore_r, w_astore_s, w_astore_n_r, w_astore_n_s, w_dstore, w_iinc, w_iadd, w_isub, w_imul, w_iand, w_iushr, v_idiv, v_irem, w_ineg, w_i2l, w_i2c, w_i2f, w_i2d, v_f2d, w_lcmp, w_dcmp, v_fdiv, v_ddiv, w_dup_i, w_dup_r, w_dup2, w_dup_x2, w_pop_i, w_pop_r, w_goto, w_switch, w_ret_i, v_ret_z, v_ret_c, w_ret_a, w_ret_s, w_ret_f, w_ret_d, w_ret_v, v_iaload, v_baload, v_caload, v_laload, v_aaload, v_iastore, v_bastore, v_castore, v_lastore, v_aastore, v_alen, v_newa, v_anewa, w_new, w_throw, w_dead, v_getf_i, v_getf_z, v_getf_r, v_putf_i, v_putf_z, v_putf_r, w_call0, w_call1, w_callv1, w_calli1, w_callt1, w_call2, w_callv2, w_calli2, w_callt2, w_call3, w_callv3, w_calli3, w_call4, w_callv4, w_calli4, w_call5, w_callv5, w_calli5, w_call6, w_callv6, w_calli6, w_call7, w_callv7, w_calli7, w_call8, w_callv8, w_calli8, c_if0_eq_t, c_if0_eq_f, c_if2_eq_t, c_if2_eq_f, c_if0_ne_t, c_if0_ne_f, c_if2_ne_t, c_if2_ne_f, c_if0_lt_t, c_if0_lt_f, c_if2_lt_t, c_if2_lt_f, c_if0_ge_t, c_if0_ge_f, c_if2_ge_t, c_if2_ge_f, c_if0_gt_t, c_if0_gt_f, c_if2_gt_t, c_if2_gt_f, c_if0_le_t, c_if0_le_f, c_if2_le_t, c_if2_le_f, w_nil, uI_s, uA_r, uA_s, uD_d, mPut_0, mCl_own, mCv_go, mCl_min, mCl_cpy, mCv_obj, mAct_len, mAct_chrc, mAft_v, mAft_n, mAft_x, mGet_0, mSet_0, mGet_1, mSet_1, mGet_2, mSet_2, mGet_3, mSet_3, mGet_4, mSet_4, mGet_5, mSet_5, mGet_6, mSet_6, mGet_7, mSet_7, mGet_8, mSet_8, mGet_9, mSet_9, mGet_10, mSet_10, mGet_11, mSet_11, mGet_12, mSet_12, mGet_13, mSet_13, a_Mo_nBring_33, bk_Mo_nBring_33]
        refine k b fl I1 b0 (Or.inl (by omega)) (fun a a1 a2 a3 a4 => f1 a a2 a3 a4) (kA_k hA f1) hS (fun _ => ?_)
        have hclo := kClo (st := fun _ => 0) hN hz hsu hS (fun a a0 a1 => hfx a (by omega) a1) (fun a a0 a1 _ => hfx a a0 (by omega)) h48 hcl
        refine zFull hz (χ := fun v => decide (I1 (m + 9) v = 1)) (f := fl) (D := zAt Dm node b) (fun a a0 a1 hl h1 h2 => (hclo.2 a a0 a1 hl rfl).1 h1 h2) (fun a a0 a1 hl h1 h2 => (hclo.2 a a0 a1 hl rfl).2 h2 h1) (fun u u0 u1 hu => ?_) n0 n1 (decide_eq_true ?_) (by omega)
        · have h9 := hclo.1 u u0 u1 hu
          obtain ⟨g1, g2, g3⟩ := kSt_ex hN hsu hS u0 u1
          have h9 : N.2.2.2.2 u - fl (120 + u) ≤ 0 := h9
          omega
        · have h8 := hQ.2.2.2.2.1 0 (Int.le_refl 0) (by have := hQ.1; omega)
          rw [hQ.2.1] at h8
          exact h8.2
    · simp (disch := first | omega | exact Nat.le_of_ble_eq_true rfl) only [w_iconst, w_bipush, w_sipush, w_ldc_s, w_ldcw_s, w_ldc_i, w_ldcw_i, w_lconst, w_fconst, w_dconst, w_iload, w_iload_n, w_aload, w_aload_n, w_dload, w_istore, w_istore_n, w_astore_r, w_astore_s, w_astore_n_r, w_astore_n_s, w_dstore, w_iinc, w_iadd, w_isub, w_imul, w_iand, w_iushr, v_idiv, v_irem, w_ineg, w_i2l, w_i2c, w_i2f, w_i2d, v_f2d, w_lcmp, w_dcmp, v_fdiv, v_ddiv, w_dup_i, w_dup_r, w_dup2, w_dup_x2, w_pop_i, w_pop_r, w_goto, w_switch, w_ret_i, v_ret_z, v_ret_c, w_ret_a, w_ret_s, w_ret_f, w_ret_d, w_ret_v, v_iaload, v_baload, v_caload, v_laload, v_aaload, v_iastore, v_bastore, v_castore, v_lastore, v_aastore, v_alen, v_newa, v_anewa, w_new, w_throw, w_dead, v_getf_i, v_getf_z, v_getf_r, v_putf_i, v_putf_z, v_putf_r, w_call0, w_call1, w_callv1, w_calli1, w_callt1, w_call2, w_callv2, w_calli2, w_callt2, w_call3, w_callv3, w_calli3, w_call4, w_callv4, w_calli4, w_call5, w_callv5, w_calli5, w_call6, w_callv6, w_calli6, w_call7, w_callv7, w_calli7, w_call8, w_callv8, w_calli8, c_if0_eq_t, c_if0_eq_f, c_if2_eq_t, c_if2_eq_f, c_if0_ne_t, c_if0_ne_f, c_if2_ne_t, c_if2_ne_f, c_if0_lt_t, c_if0_lt_f, c_if2_lt_t, c_if2_lt_f, c_if0_ge_t, c_if0_ge_f, c_if2_ge_t, c_if2_ge_f, c_if0_gt_t, c_if0_gt_f, c_if2_gt_t, c_if2_gt_f, c_if0_le_t, c_if0_le_f, c_if2_le_t, c_if2_le_f, w_nil, uI_s, uA_r, uA_s, uD_d, mPut_0, mCl_own, mCv_go, mCl_min, mCl_cpy, mCv_obj, mAct_len, mAct_chrc, mAft_v, mAft_n, mAft_x, mGet_0, mSet_0, mGet_1, mSet_1, mGet_2, mSet_2, mGet_3, mSet_3, mGet_4, mSet_4, mGet_5, mSet_5, mGet_6, mSet_6, mGet_7, mSet_7, mGet_8, mSet_8, mGet_9, mSet_9, mGet_10, mSet_10, mGet_11, mSet_11, mGet_12, mSet_12, mGet_13, mSet_13, a_Mo_nBring_2, bk_Mo_nBring_2, a_Mo_nBring_33, bk_Mo_nBring_33]
      exact k b fl I b0 b2 (fun _ _ _ _ _ => rfl) hA hS (fun h9 => absurd h9 hb)
theorem p_mbring {I : mN} {fl : Int → Int} (hm : yM S m) (hN : kNt fr to rm N) (hz : zWf N) (hw : kWf fr to rm) (hsu : ∀ v : Int, 0 ≤ v → v < 48 → 0 ≤ N.2.2.2.2 v) (hrm : ∀ a : Int, 0 ≤ a → a < 168 → rm a ≤ 100000) (hfx : ∀ a : Int, 0 ≤ a → a < 168 → fx a = 0) (n0 : 0 ≤ node) (n1 : node < 48) (hmost : most ≤ 1000000) (hA : kA I m fr to rm fl fx) (hS : kSt fr to rm fl Dm)
    (k : ∀ (x : Int) (fl' : Int → Int) (I' : mN), 0 ≤ x → (x ≤ most ∨ x = 0) → kFb I I' m → kA I' m fr to rm fl' fx → kSt fr to rm fl' (zAt Dm node x) → (x < most → ¬ zFeas N (zAt (zAt Dm node x) node 1)) → Q (.inl (some (mI x))) I' S) : mRun (D + 3) 218 [mR m, mI node, mI most] I S Q := by
  simp (disch := first | omega | exact Nat.le_of_ble_eq_true rfl) only [w_iconst, w_bipush, w_sipush, w_ldc_s, w_ldcw_s, w_ldc_i, w_ldcw_i, w_lconst, w_fconst, w_dconst, w_iload, w_iload_n, w_aload, w_aload_n, w_dload, w_istore, w_istore_n, w_astore_r, w_astore_s, w_astore_n_r, w_astore_n_s, w_dstore, w_iinc, w_iadd, w_isub, w_imul, w_iand, w_iushr, v_idiv, v_irem, w_ineg, w_i2l, w_i2c, w_i2f, w_i2d, v_f2d, w_lcmp, w_dcmp, v_fdiv, v_ddiv, w_dup_i, w_dup_r, w_dup2, w_dup_x2, w_pop_i, w_pop_r, w_goto, w_switch, w_ret_i, v_ret_z, v_ret_c, w_ret_a, w_ret_s, w_ret_f, w_ret_d, w_ret_v, v_iaload, v_baload, v_caload, v_laload, v_aaload, v_iastore, v_bastore, v_castore, v_lastore, v_aastore, v_alen, v_newa, v_anewa, w_new, w_throw, w_dead, v_getf_i, v_getf_z, v_getf_r, v_putf_i, v_putf_z, v_putf_r, w_call0, w_call1, w_callv1, w_calli1, w_callt1, w_call2, w_callv2, w_calli2, w_callt2, w_call3, w_callv3, w_calli3, w_call4, w_callv4, w_calli4, w_call5, w_callv5, w_calli5, w_call6, w_callv6, w_calli6, w_call7, w_callv7, w_calli7, w_call8, w_callv8, w_calli8, c_if0_eq_t, c_if0_eq_f, c_if2_eq_t, c_if2_eq_f, c_if0_ne_t, c_if0_ne_f, c_if2_ne_t, c_if2_ne_f, c_if0_lt_t, c_if0_lt_f, c_if2_lt_t, c_if2_lt_f, c_if0_ge_t, c_if0_ge_f, c_if2_ge_t, c_if2_ge_f, c_if0_gt_t, c_if0_gt_f, c_if2_gt_t, c_if2_gt_f, c_if0_le_t, c_if0_le_f, c_if2_le_t, c_if2_le_f, w_nil, uI_s, uA_r, uA_s, uD_d, mPut_0, mCl_own, mCv_go, mCl_min, mCl_cpy, mCv_obj, mAct_len, mAct_chrc, mAft_v, mAft_n, mAft_x, mGet_0, mSet_0, mGet_1, mSet_1, mGet_2, mSet_2, mGet_3, mSet_3, mGet_4, mSet_4, mGet_5, mSet_5, mGet_6, mSet_6, mGet_7, mSet_7, mGet_8, mSet_8, mGet_9, mSet_9, mGet_10, mSet_10, mGet_11, mSet_11, mGet_12, mSet_12, mGet_13, mSet_13, e_Mo_nBring, a_Mo_nBring_0, bk_Mo_nBring_0]
  exact l_mb (Dm := Dm) D hm hN hz hw hsu hrm hfx n0 n1 hmost most.toNat hA (Int.le_refl 0) (by omega) (Or.inr rfl) ⟨hS.1, hS.2.1, fun w w0 w1 => by
    rw [hS.2.2 w w0 w1]; unfold zAt; split <;> omega⟩ k
end KM
