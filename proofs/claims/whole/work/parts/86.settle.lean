def zPu (P : Int → Bool) (a : Int) : Int → Bool := fun c => P c || decide (c = a)
theorem zPu_eq {P : Int → Bool} {a c : Int} (h : c = a) : zPu P a c = true := by unfold zPu; rw [decide_eq_true h, Bool.or_true]
theorem zPu_ne {P : Int → Bool} {a c : Int} (h : c ≠ a) : zPu P a c = P c := by unfold zPu; rw [decide_eq_false h, Bool.or_false]
theorem zPu_t {P : Int → Bool} {a c : Int} (h : P c = true) : zPu P a c = true := by unfold zPu; rw [h, Bool.true_or]
theorem zG_t {P : Int → Bool} {y f : Int → Int} {c : Int} (h : P c = true) : zG P y f c = y c := if_pos h
theorem zG_f {P : Int → Bool} {y f : Int → Int} {c : Int} (h : P c = false) : zG P y f c = f c := if_neg (by rw [h]; decide)
section ST
variable {n e : Int} {S : mH} {Q : mQ} (D : Nat) {N : zNet} {Dm y : Int → Int} {P : Int → Bool}
theorem nWy_zwf {I : mN} (h : nWy I n N Dm y P) : zWf N := by
  rw [← h.2.2.2.2]
  exact nWf_zWf h.1.1 (fun a a0 a1 => (h.1.2.1 a a0 a1).1)
theorem nFr6_5 {I I' I'' : mN} (h : nFr6 I I' n) (h' : nFr5 I' I'' n) : nFr6 I I'' n := ⟨fun a h1 h2 h3 h4 h5 h6 h7 h8 => (h'.1 a h1 h2 h4 h5 h6 h7 h8).trans (h.1 a h1 h2 h3 h4 h5 h6 h7 h8), fun k hk => (h'.2 k hk).trans (h.2 k hk)⟩
theorem nN_6 {I I' : mN} (h : nFr6 I I' n) (h7 : I' (n + 7) = I (n + 7)) : nN I' n = nN I n := by
  have g := h.1
  have e1 : I' n 1 = I n 1 := h.2 1 (by decide)
  have e2 : I' (n + 1) = I (n + 1) := g _ (by omega) (by omega) (by omega) (by omega) (by omega) (by omega) (by omega) (by omega)
  have e3 : I' (n + 2) = I (n + 2) := g _ (by omega) (by omega) (by omega) (by omega) (by omega) (by omega) (by omega) (by omega)
  have e4 : I' (n + 3) = I (n + 3) := g _ (by omega) (by omega) (by omega) (by omega) (by omega) (by omega) (by omega) (by omega)
  have e5 : I' (n + 4) = I (n + 4) := g _ (by omega) (by omega) (by omega) (by omega) (by omega) (by omega) (by omega) (by omega)
  unfold nN
  rw [e1, e2, e3, e4, e5, h7]
/-- an arc that sends nothing is settled at once -/
theorem nWy_0 {I I' : mN} {a : Int} (h : nWy I n N Dm y P) (hI : I' = mUp I (n + 6) a 1) (ha : I (n + 5) a = 0) (hP : P a = false) : nWy I' n N Dm (zU y a 0) (zPu P a) := by
  obtain ⟨⟨w1, w2, w3, w4⟩, w5, ⟨w6, w7⟩, w8, w9⟩ := h
  have hg : ∀ c : Int, zG (zPu P a) (zU y a 0) (I (n + 5)) c = zG P y (I (n + 5)) c := fun c => by
    by_cases hc : c = a
    · rw [hc, zG_t (zPu_eq rfl), zU_eq rfl, zG_f hP]; exact ha.symm
    · cases hp : P c with
      | true => rw [zG_t (zPu_t hp), zU_ne hc, zG_t hp]
      | false => rw [zG_f (by rw [zPu_ne hc]; exact hp), zG_f hp]
  have hg2 : zG (zPu P a) (zU y a 0) (I (n + 5)) = zG P y (I (n + 5)) := funext hg
  have hne : ∀ b : Int, b ≠ n + 6 → I' b = I b := fun b hb => by rw [hI, up_fa hb]
  unfold nWy nN nOldQ
  rw [hne n (by omega), hne (n + 1) (by omega), hne (n + 2) (by omega), hne (n + 3) (by omega), hne (n + 4) (by omega), hne (n + 5) (by omega), hne (n + 7) (by omega), hne (n + 8) (by omega), hne (n + 9) (by omega), hne (n + 10) (by omega), hne (n + 11) (by omega), hg2]
  refine ⟨⟨w1, w2, fun c c0 c1 => ?_, w4⟩, w5, ⟨w6, w7⟩, w8, w9⟩
  rw [hI]
  by_cases hc : c = a
  · rw [up_eq rfl hc, if_pos (zPu_eq hc)]
  · rw [up_nk hc, zPu_ne hc]; exact w3 c c0 c1
theorem p_settle {I : mN} {r w : Int} (hn : yNe S n e) (h : nWy I n N Dm y P) (hD0 : ∀ v : Int, 0 ≤ v → v < 48 → 0 ≤ Dm v) (hsu : ∀ v : Int, 0 ≤ v → v < 48 → N.2.2.2.2 v ≤ 100000) (r0 : 0 ≤ r) (r1 : r < 9) (w0 : I n 1 ≤ w) (w1 : w < 8) (hP : P (r * 8 + w) = false)
    (k : ∀ (x : Int) (I' : mN), 0 ≤ x → x ≤ 1000 → nWy I' n N Dm (zU y (r * 8 + w) x) (zPu P (r * 8 + w)) → nFr6 I I' n → (N.1 (r * 8 + w) = false → x = 0) → (N.1 (r * 8 + w) = true → ∀ f' : Int → Int, zFl N f' Dm → (∀ c : Int, 0 ≤ c → c < 120 → N.1 c = true → P c = true → f' c = y c) → x ≤ f' (r * 8 + w)) → Q (.inl (some (mI x))) I' S) :
    mRun (D + 5) 41 [mR n, mI r, mI w] I S Q := by
  obtain ⟨⟨g1, g2, g3, g4⟩, ⟨g5, g5'⟩, ⟨g6, g7⟩, g8, g9⟩ := id h
  have hwf := nWy_zwf h
  have htd := g1.1
  have a0 : 0 ≤ r * 8 + w := by omega
  have a1 : r * 8 + w < 120 := by omega
  have ea : (r * 8 + w) / 8 = r := by omega
  have ea2 : (r * 8 + w) % 8 = w := by omega
  by_cases hz : I (n + 5) (r * 8 + w) = 0
  · simp (disch := first | omega | exact Nat.le_of_ble_eq_true rfl | (simp (disch := omega) only [yn_k hn, yn_6 hn, yn_k6 hn, yn_l6 hn, yn_7 hn, yn_k7 hn, yn_l7 hn] <;> omega)) only [w_iconst, w_bipush, w_sipush, w_ldc_s, w_ldcw_s, w_ldc_i, w_ldcw_i, w_lconst, w_fconst, w_dconst, w_iload, w_iload_n, w_aload, w_aload_n, w_dload, w_istore, w_istore_n, w_astore_r, w_astore_s, w_astore_n_r, w_astore_n_s, w_dstore, w_iinc, w_iadd, w_isub, w_imul, w_iand, w_iushr, v_idiv, v_irem, w_ineg, w_i2l, w_i2c, w_i2f, w_i2d, v_f2d, w_lcmp, w_dcmp, v_fdiv, v_ddiv, w_dup_i, w_dup_r, w_dup2, w_dup_x2, w_pop_i, w_pop_r, w_goto, w_switch, w_ret_i, v_ret_z, v_ret_c, w_ret_a, w_ret_s, w_ret_f, w_ret_d, w_ret_v, v_iaload, v_baload, v_caload, v_laload, v_aaload, v_iastore, v_bastore, v_castore, v_lastore, v_aastore, v_alen, v_newa, v_anewa, w_new, w_throw, w_dead, v_getf_i, v_getf_z, v_getf_r, v_putf_i, v_putf_z, v_putf_r, w_call0, w_call1, w_callv1, w_calli1, w_callt1, w_call2, w_callv2, w_calli2, w_callt2, w_call3, w_callv3, w_calli3, w_call4, w_callv4, w_calli4, w_call5, w_callv5, w_calli5, w_call6, w_callv6, w_calli6, w_call7, w_callv7, w_calli7, w_call8, w_callv8, w_calli8, c_if0_eq_t, c_if0_eq_f, c_if2_eq_t, c_if2_eq_f, c_if0_ne_t, c_if0_ne_f, c_if2_ne_t, c_if2_ne_f, c_if0_lt_t, c_if0_lt_f, c_if2_lt_t, c_if2_lt_f, c_if0_ge_t, c_if0_ge_f, c_if2_ge_t, c_if2_ge_f, c_if0_gt_t, c_if0_gt_f, c_if2_gt_t, c_if2_gt_f, c_if0_le_t, c_if0_le_f, c_if2_le_t, c_if2_le_f, w_nil, uI_s, uA_r, uA_s, uD_d, mPut_0, mCl_own, mCv_go, mCl_min, mCl_cpy, mCv_obj, mAct_len, mAct_chrc, mAft_v, mAft_n, mAft_x, mGet_0, mSet_0, mGet_1, mSet_1, mGet_2, mSet_2, mGet_3, mSet_3, mGet_4, mSet_4, mGet_5, mSet_5, mGet_6, mSet_6, mGet_7, mSet_7, mGet_8, mSet_8, mGet_9, mSet_9, mGet_10, mSet_10, mGet_11, mSet_11, mGet_12, mSet_12, mGet_13, mSet_13, e_Ne_settle, a_Ne_settle_0, bk_Ne_settle_0, yn_k hn, yn_6 hn, yn_k6 hn, yn_l6 hn, yn_7 hn, yn_k7 hn, yn_l7 hn, hz, wr]
    refine k 0 _ (Int.le_refl 0) (by decide) (nWy_0 h rfl hz hP) ⟨fun a _ _ h6 _ _ _ _ _ => up_fa h6, fun k _ => by rw [up_fa (by omega)]⟩ (fun _ => rfl) (fun hl f' hf _ => (hf.1 _ a0 a1 hl).1)
  · have hl : N.1 (r * 8 + w) = true := by
      cases hh : N.1 (r * 8 + w) with
      | true => rfl
      | false => exact absurd (g5' _ a0 a1 hh) hz
    have hcap := g5 _ a0 a1 hl
    have hl2 : (nN I n).1 (r * 8 + w) = true := by rw [g9]; exact hl
    rw [zN_lv, ea, ea2] at hl2
    obtain ⟨hl3, -, hl4⟩ := hl2
    obtain ⟨hch, t0, t1⟩ := g1.2 r r0 (by omega)
    have hch2 : (0 ≤ I (n + 1) r ∧ I (n + 1) r < 6) ∧ (0 ≤ I (n + 2) r ∧ I (n + 2) r < 6) ∧ (I (n + 1) r = I (n + 2) r → 1 ≤ I (n + 3) r) := by
      rcases hch with ⟨h9, -⟩ | h9
      · exact absurd h9 hl3
      · exact h9
    obtain ⟨⟨f0, f1⟩, ⟨d0, d1⟩, hne⟩ := hch2
    have etail : N.2.1 (r * 8 + w) = I (n + 1) r * 8 + w := by
      rw [← g9]; show I (n + 1) ((r * 8 + w) / 8) * 8 + (r * 8 + w) % 8 = _; rw [ea, ea2]
    have ehead : N.2.2.1 (r * 8 + w) = I (n + 2) r * 8 + w + I (n + 3) r := by
      rw [← g9]; show I (n + 2) ((r * 8 + w) / 8) * 8 + (r * 8 + w) % 8 + I (n + 3) ((r * 8 + w) / 8) = _; rw [ea, ea2]
    have eroom : N.2.2.2.1 (r * 8 + w) = I (n + 4) (r * 8 + w) := by rw [← g9]
    rw [eroom] at hcap
    have hrm := g2 _ a0 a1
    have hx0 : 0 < I (n + 5) (r * 8 + w) := by omega
    have hx1 : I (n + 5) (r * 8 + w) ≤ 1000 := by omega
    have hrmN : ∀ a : Int, 0 ≤ a → a < 120 → N.2.2.2.1 a ≤ 1000 := fun a q0 q1 => by rw [← g9]; exact (g2 a q0 q1).2
    have hspb : ∀ v : Int, 0 ≤ v → v < 48 → I (n + 8) v ≤ 300000 := fun v v0 v1 => by
      have b1 := zEx_bd g6 hrmN (w := v)
      have b2 := hsu v v0 v1
      have b3 := hD0 v v0 v1
      have b4 := (g7 v v0 v1).1
      omega
    have hst0 := hspb (I (n + 1) r * 8 + w) (by omega) (by omega)
    have hst1 := (g7 (I (n + 1) r * 8 + w) (by omega) (by omega)).2
    simp (disch := first | omega | exact Nat.le_of_ble_eq_true rfl | (simp (disch := omega) only [yn_k hn, yn_2 hn, yn_k2 hn, yn_l2 hn, yn_3 hn, yn_k3 hn, yn_l3 hn, yn_4 hn, yn_k4 hn, yn_l4 hn, yn_6 hn, yn_k6 hn, yn_l6 hn, yn_7 hn, yn_k7 hn, yn_l7 hn, yn_9 hn, yn_k9 hn, yn_l9 hn, up_fa] <;> omega)) only [w_iconst, w_bipush, w_sipush, w_ldc_s, w_ldcw_s, w_ldc_i, w_ldcw_i, w_lconst, w_fconst, w_dconst, w_iload, w_iload_n, w_aload, w_aload_n, w_dload, w_istore, w_istore_n, w_astore_r, w_astore_s, w_astore_n_r, w_astore_n_s, w_dstore, w_iinc, w_iadd, w_isub, w_imul, w_iand, w_iushr, v_idiv, v_irem, w_ineg, w_i2l, w_i2c, w_i2f, w_i2d, v_f2d, w_lcmp, w_dcmp, v_fdiv, v_ddiv, w_dup_i, w_dup_r, w_dup2, w_dup_x2, w_pop_i, w_pop_r, w_goto, w_switch, w_ret_i, v_ret_z, v_ret_c, w_ret_a, w_ret_s, w_ret_f, w_ret_d, w_ret_v, v_iaload, v_baload, v_caload, v_laload, v_aaload, v_iastore, v_bastore, v_castore, v_lastore, v_aastore, v_alen, v_newa, v_anewa, w_new, w_throw, w_dead, v_getf_i, v_getf_z, v_getf_r, v_putf_i, v_putf_z, v_putf_r, w_call0, w_call1, w_callv1, w_calli1, w_callt1, w_call2, w_callv2, w_calli2, w_callt2, w_call3, w_callv3, w_calli3, w_call4, w_callv4, w_calli4, w_call5, w_callv5, w_calli5, w_call6, w_callv6, w_calli6, w_call7, w_callv7, w_calli7, w_call8, w_callv8, w_calli8, c_if0_eq_t, c_if0_eq_f, c_if2_eq_t, c_if2_eq_f, c_if0_ne_t, c_if0_ne_f, c_if2_ne_t, c_if2_ne_f, c_if0_lt_t, c_if0_lt_f, c_if2_lt_t, c_if2_lt_f, c_if0_ge_t, c_if0_ge_f, c_if2_ge_t, c_if2_ge_f, c_if0_gt_t, c_if0_gt_f, c_if2_gt_t, c_if2_gt_f, c_if0_le_t, c_if0_le_f, c_if2_le_t, c_if2_le_f, w_nil, uI_s, uA_r, uA_s, uD_d, mPut_0, mCl_own, mCv_go, mCl_min, mCl_cpy, mCv_obj, mAct_len, mAct_chrc, mAft_v, mAft_n, mAft_x, mGet_0, mSet_0, mGet_1, mSet_1, mGet_2, mSet_2, mGet_3, mSet_3, mGet_4, mSet_4, mGet_5, mSet_5, mGet_6, mSet_6, mGet_7, mSet_7, mGet_8, mSet_8, mGet_9, mSet_9, mGet_10, mSet_10, mGet_11, mSet_11, mGet_12, mSet_12, mGet_13, mSet_13, e_Ne_settle, a_Ne_settle_0, bk_Ne_settle_0, a_Ne_settle_29, bk_Ne_settle_29, yn_k hn, yn_2 hn, yn_k2 hn, yn_l2 hn, yn_3 hn, yn_k3 hn, yn_l3 hn, yn_4 hn, yn_k4 hn, yn_l4 hn, yn_6 hn, yn_k6 hn, yn_l6 hn, yn_7 hn, yn_k7 hn, yn_l7 hn, yn_9 hn, yn_k9 hn, yn_l9 hn, up_fa, wr]
    generalize hJ : mUp (mUp I (n + 6) (r * 8 + w) 1) (n + 8) (I (n + 1) r * 8 + w) (I (n + 8) (I (n + 1) r * 8 + w) + I (n + 5) (r * 8 + w)) = J
    have jne : ∀ a : Int, a ≠ n + 6 → a ≠ n + 8 → J a = I a := fun a h6 h8 => by rw [← hJ, up_fa h8, up_fa h6]
    have j8 : J (n + 8) = zU (I (n + 8)) (I (n + 1) r * 8 + w) (I (n + 8) (I (n + 1) r * 8 + w) + I (n + 5) (r * 8 + w)) := by
      rw [← hJ]; funext j
      unfold zU
      by_cases hj : j = I (n + 1) r * 8 + w
      · rw [if_pos hj, up_eq rfl hj]
      · rw [if_neg hj, up_nk hj, up_fa (by omega)]
    have j6 : ∀ c : Int, 0 ≤ c → c < 120 → J (n + 6) c = if zPu P (r * 8 + w) c = true then 1 else 0 := fun c c0 c1 => by
      rw [← hJ, up_fa (by omega)]
      by_cases hc : c = r * 8 + w
      · rw [up_eq rfl hc, if_pos (zPu_eq hc)]
      · rw [up_nk hc, zPu_ne hc]; exact g3 c c0 c1
    have jN : nN J n = N := by
      rw [← g9]; unfold nN
      rw [jne n (by omega) (by omega), jne (n + 1) (by omega) (by omega), jne (n + 2) (by omega) (by omega), jne (n + 3) (by omega) (by omega), jne (n + 4) (by omega) (by omega), jne (n + 7) (by omega) (by omega)]
    have j5 : J (n + 5) = I (n + 5) := jne _ (by omega) (by omega)
    have jfr : nFr6 I J n := ⟨fun a _ _ h6 h8 _ _ _ _ => jne a h6 h8, fun k _ => by rw [jne n (by omega) (by omega)]⟩
    clear hJ
    have hS : nSt J n (fun v => zEx N (I (n + 5)) v - J (n + 8) v) := by
      unfold nSt nOldQ
      rw [jN, j5, jne n (by omega) (by omega), jne (n + 1) (by omega) (by omega), jne (n + 2) (by omega) (by omega), jne (n + 3) (by omega) (by omega), jne (n + 4) (by omega) (by omega), jne (n + 9) (by omega) (by omega), jne (n + 10) (by omega) (by omega), jne (n + 11) (by omega) (by omega)]
      refine ⟨⟨g1, g2, fun c c0 c1 => ?_, fun v v0 v1 => Or.inl (g4 v v0 v1)⟩, ⟨g5, g5'⟩, fun v v0 v1 => ?_, ⟨fun v v0 v1 hv => ?_, fun c c0 c1 hlc hs => ⟨fun q1 q2 => ?_, fun q1 q2 => ?_⟩⟩, g8⟩
      · rw [j6 c c0 c1]; split
        · exact Or.inr rfl
        · exact Or.inl rfl
      · refine ⟨by show J (n + 8) v = zEx N (I (n + 5)) v - (zEx N (I (n + 5)) v - J (n + 8) v); omega, ?_⟩
        have b0 := (g7 v v0 v1).2
        have b1 := hspb v v0 v1
        rw [j8]; unfold zU
        split <;> omega
      · exact absurd (g4 v v0 v1) (of_decide_eq_true hv)
      · obtain ⟨-, ⟨q3, q4⟩, -⟩ := hwf c c0 c1 hlc
        exact absurd (g4 _ q3 q4) (of_decide_eq_true q1)
      · obtain ⟨⟨q3, q4⟩, -⟩ := hwf c c0 c1 hlc
        exact absurd (g4 _ q3 q4) (of_decide_eq_true q1)
    have hhd0 : 0 ≤ I (n + 2) r * 8 + w + I (n + 3) r := by omega
    have hhd1 : I (n + 2) r * 8 + w + I (n + 3) r < 48 := by omega
    refine p_bring2 (D := D) hn hS hhd0 hhd1 (by rw [jne n (by omega) (by omega)]; omega) (by omega) (fun x1 I3 x0 xx hS3 fr3 set3 low3 last3 => ?_)
    have hx2 : x1 ≤ I (n + 5) (r * 8 + w) := by omega
    have e3N : nN I3 n = N := (nN_5 fr3).trans jN
    obtain ⟨⟨s1, s2, s3, s4⟩, ⟨s5, s5'⟩, s6, s7, s8⟩ := id hS3
    rw [e3N] at s5 s5' s6 s7
    have f3 := fr3.1
    have e6 : I3 (n + 6) = J (n + 6) := f3 _ (by omega) (by omega) (by omega) (by omega) (by omega) (by omega) (by omega)
    have e9 : I3 (n + 9) = I (n + 9) := by rw [f3 _ (by omega) (by omega) (by omega) (by omega) (by omega) (by omega) (by omega), jne _ (by omega) (by omega)]
    have hlow := low3 (I (n + 1) r * 8 + w)
    rw [j8, zU_eq rfl] at hlow
    have hs3t := s6 (I (n + 1) r * 8 + w) (by omega) (by omega)
    -- what is sent in the end
    have hq : ∀ c : Int, 0 ≤ c → c < 120 → zG (zPu P (r * 8 + w)) (zU y (r * 8 + w) (I (n + 5) (r * 8 + w) - x1)) (I3 (n + 5)) c = zU (fun c => zG P y (I (n + 5)) c + (I3 (n + 5) c - I (n + 5) c)) (r * 8 + w) (I (n + 5) (r * 8 + w) - x1) c := fun c c0 c1 => by
      by_cases hc : c = r * 8 + w
      · rw [hc, zG_t (zPu_eq rfl), zU_eq rfl, zU_eq rfl]
      · cases hp : P c with
        | true =>
          have h9 := set3 c (Or.inl (by rw [j6 c c0 c1, if_pos (zPu_t hp)]; decide))
          rw [j5] at h9
          rw [zG_t (zPu_t hp), zU_ne hc, zU_ne hc]
          show y c = zG P y (I (n + 5)) c + (I3 (n + 5) c - I (n + 5) c)
          rw [zG_t hp, h9]; omega
        | false =>
          rw [zG_f (by rw [zPu_ne hc]; exact hp), zU_ne hc]
          show I3 (n + 5) c = zG P y (I (n + 5)) c + (I3 (n + 5) c - I (n + 5) c)
          rw [zG_f hp]; omega
    have hx3 : I3 (n + 5) (r * 8 + w) = I (n + 5) (r * 8 + w) := by
      have h9 := set3 (r * 8 + w) (Or.inl (by rw [j6 _ a0 a1, if_pos (zPu_eq rfl)]; decide))
      rw [j5] at h9; exact h9
    have hgx : zG P y (I (n + 5)) (r * 8 + w) + (I3 (n + 5) (r * 8 + w) - I (n + 5) (r * 8 + w)) = I (n + 5) (r * 8 + w) := by
      rw [zG_f hP, hx3]; omega
    have hex : ∀ v : Int, zEx N (zG (zPu P (r * 8 + w)) (zU y (r * 8 + w) (I (n + 5) (r * 8 + w) - x1)) (I3 (n + 5))) v = zEx N (zG P y (I (n + 5))) v + (zEx N (I3 (n + 5)) v - zEx N (I (n + 5)) v) + ((if I (n + 2) r * 8 + w + I (n + 3) r = v then -x1 else 0) - (if I (n + 1) r * 8 + w = v then -x1 else 0)) := fun v => by
      rw [zEx_c hq v, zEx_U a0 a1 hl, zEx_lin, ehead, etail, hgx]
      rw [show I (n + 5) (r * 8 + w) - x1 - I (n + 5) (r * 8 + w) = -x1 by omega]
    have hcap2 : zCap N (zG (zPu P (r * 8 + w)) (zU y (r * 8 + w) (I (n + 5) (r * 8 + w) - x1)) (I3 (n + 5))) := fun c c0 c1 hlc => by
      by_cases hc : c = r * 8 + w
      · rw [hc, zG_t (zPu_eq rfl), zU_eq rfl, eroom]; omega
      · cases hp : P c with
        | true =>
          have h9 := g6 c c0 c1 hlc
          rw [zG_t hp] at h9
          rw [zG_t (zPu_t hp), zU_ne hc]; exact h9
        | false => rw [zG_f (by rw [zPu_ne hc]; exact hp)]; exact s5 c c0 c1 hlc
    have hsp4 : ∀ v : Int, 0 ≤ v → v < 48 → (if v = I (n + 1) r * 8 + w then I3 (n + 8) v - (I (n + 5) (r * 8 + w) - x1) else I3 (n + 8) v) = zEx N (zG (zPu P (r * 8 + w)) (zU y (r * 8 + w) (I (n + 5) (r * 8 + w) - x1)) (I3 (n + 5))) v - Dm v := fun v v0 v1 => by
      obtain ⟨b1, -⟩ := s6 v v0 v1
      obtain ⟨b2, -⟩ := g7 v v0 v1
      rw [hex v]
      unfold zAt at b1
      try dsimp only at b1
      rw [j8] at b1
      unfold zU at b1
      by_cases c1 : v = I (n + 1) r * 8 + w
      · by_cases c2 : v = I (n + 2) r * 8 + w + I (n + 3) r
        · omega
        · rw [if_neg c2, if_pos c1] at b1
          rw [if_pos c1, if_neg (fun h9 => c2 h9.symm), if_pos c1.symm]
          rw [← c1] at b1
          omega
      · by_cases c2 : v = I (n + 2) r * 8 + w + I (n + 3) r
        · rw [if_pos c2, if_neg c1] at b1
          rw [if_neg c1, if_pos c2.symm, if_neg (fun h9 => c1 h9.symm)]
          omega
        · rw [if_neg c2, if_neg c1] at b1
          rw [if_neg c1, if_neg (fun h9 => c2 h9.symm), if_neg (fun h9 => c1 h9.symm)]
          omega
    simp (disch := first | omega | exact Nat.le_of_ble_eq_true rfl | (simp (disch := omega) only [yn_k hn, yn_2 hn, yn_k2 hn, yn_l2 hn, yn_3 hn, yn_k3 hn, yn_l3 hn, yn_4 hn, yn_k4 hn, yn_l4 hn, yn_6 hn, yn_k6 hn, yn_l6 hn, yn_7 hn, yn_k7 hn, yn_l7 hn, yn_9 hn, yn_k9 hn, yn_l9 hn, up_fa] <;> omega)) only [w_iconst, w_bipush, w_sipush, w_ldc_s, w_ldcw_s, w_ldc_i, w_ldcw_i, w_lconst, w_fconst, w_dconst, w_iload, w_iload_n, w_aload, w_aload_n, w_dload, w_istore, w_istore_n, w_astore_r, w_astore_s, w_astore_n_r, w_astore_n_s, w_dstore, w_iinc, w_iadd, w_isub, w_imul, w_iand, w_iushr, v_idiv, v_irem, w_ineg, w_i2l, w_i2c, w_i2f, w_i2d, v_f2d, w_lcmp, w_dcmp, v_fdiv, v_ddiv, w_dup_i, w_dup_r, w_dup2, w_dup_x2, w_pop_i, w_pop_r, w_goto, w_switch, w_ret_i, v_ret_z, v_ret_c, w_ret_a, w_ret_s, w_ret_f, w_ret_d, w_ret_v, v_iaload, v_baload, v_caload, v_laload, v_aaload, v_iastore, v_bastore, v_castore, v_lastore, v_aastore, v_alen, v_newa, v_anewa, w_new, w_throw, w_dead, v_getf_i, v_getf_z, v_getf_r, v_putf_i, v_putf_z, v_putf_r, w_call0, w_call1, w_callv1, w_calli1, w_callt1, w_call2, w_callv2, w_calli2, w_callt2, w_call3, w_callv3, w_calli3, w_call4, w_callv4, w_calli4, w_call5, w_callv5, w_calli5, w_call6, w_callv6, w_calli6, w_call7, w_callv7, w_calli7, w_call8, w_callv8, w_calli8, c_if0_eq_t, c_if0_eq_f, c_if2_eq_t, c_if2_eq_f, c_if0_ne_t, c_if0_ne_f, c_if2_ne_t, c_if2_ne_f, c_if0_lt_t, c_if0_lt_f, c_if2_lt_t, c_if2_lt_f, c_if0_ge_t, c_if0_ge_f, c_if2_ge_t, c_if2_ge_f, c_if0_gt_t, c_if0_gt_f, c_if2_gt_t, c_if2_gt_f, c_if0_le_t, c_if0_le_f, c_if2_le_t, c_if2_le_f, w_nil, uI_s, uA_r, uA_s, uD_d, mPut_0, mCl_own, mCv_go, mCl_min, mCl_cpy, mCv_obj, mAct_len, mAct_chrc, mAft_v, mAft_n, mAft_x, mGet_0, mSet_0, mGet_1, mSet_1, mGet_2, mSet_2, mGet_3, mSet_3, mGet_4, mSet_4, mGet_5, mSet_5, mGet_6, mSet_6, mGet_7, mSet_7, mGet_8, mSet_8, mGet_9, mSet_9, mGet_10, mSet_10, mGet_11, mSet_11, mGet_12, mSet_12, mGet_13, mSet_13, yn_k hn, yn_2 hn, yn_k2 hn, yn_l2 hn, yn_3 hn, yn_k3 hn, yn_l3 hn, yn_4 hn, yn_k4 hn, yn_l4 hn, yn_6 hn, yn_k6 hn, yn_l6 hn, yn_7 hn, yn_k7 hn, yn_l7 hn, yn_9 hn, yn_k9 hn, yn_l9 hn, up_fa, wr]
    generalize hK : mUp I3 (n + 8) (I (n + 1) r * 8 + w) (I3 (n + 8) (I (n + 1) r * 8 + w) - (I (n + 5) (r * 8 + w) - x1)) = K
    have kne : ∀ a : Int, a ≠ n + 8 → K a = I3 a := fun a h8 => by rw [← hK, up_fa h8]
    have k8 : ∀ v : Int, K (n + 8) v = if v = I (n + 1) r * 8 + w then I3 (n + 8) v - (I (n + 5) (r * 8 + w) - x1) else I3 (n + 8) v := fun v => by
      rw [← hK]
      by_cases hj : v = I (n + 1) r * 8 + w
      · rw [if_pos hj, up_eq rfl hj, hj]
      · rw [if_neg hj, up_nk hj]
    clear hK
    have kN : nN K n = N := by
      rw [← e3N]; unfold nN
      rw [kne n (by omega), kne (n + 1) (by omega), kne (n + 2) (by omega), kne (n + 3) (by omega), kne (n + 4) (by omega), kne (n + 7) (by omega)]
    refine k _ K (by omega) (by omega) ?_ ?_ (fun h9 => by rw [hl] at h9; cases h9) (fun _ f' hf hfx => ?_)
    · unfold nWy nOldQ
      rw [kN, kne n (by omega), kne (n + 1) (by omega), kne (n + 2) (by omega), kne (n + 3) (by omega), kne (n + 4) (by omega), kne (n + 5) (by omega), kne (n + 6) (by omega), kne (n + 9) (by omega), kne (n + 10) (by omega), kne (n + 11) (by omega)]
      refine ⟨⟨s1, s2, by rw [e6]; exact j6, by rw [e9]; exact g4⟩, ⟨s5, s5'⟩, ⟨hcap2, fun v v0 v1 => ⟨by rw [k8 v]; exact hsp4 v v0 v1, ?_⟩⟩, s8, rfl⟩
      rw [k8 v]
      have b0 := (s6 v v0 v1).2.1
      split
      · rename_i hv; rw [hv]; omega
      · exact b0
    · have h9 := nFr6_5 jfr fr3
      exact ⟨fun a h0 h5 h6 h8 h10 h11 h12 h13 => by rw [kne a h8]; exact h9.1 a h0 h5 h6 h8 h10 h11 h12 h13, fun k hk => by rw [kne n (by omega)]; exact h9.2 k hk⟩
    · by_cases hr0 : I (n + 5) (r * 8 + w) - x1 = 0
      · rw [hr0]; exact (hf.1 _ a0 a1 hl).1
      · rcases last3 (by omega) with h9 | ⟨-, hq3, hcl⟩
        · rw [jne (n + 9) (by omega) (by omega), g4 _ hhd0 hhd1] at h9
          cases h9
        · rw [e3N] at hcl
          have hhd : nDR (I3 (n + 9)) (I3 (n + 10)) (N.2.2.1 (r * 8 + w)) = true := by
            rw [ehead]
            have h8 := (hq3.2.2.2.2.1 0 (Int.le_refl 0) (by have := hq3.1.1; omega)).2
            rw [hq3.2.1] at h8
            exact decide_eq_true (Or.inr h8)
          have htl : nDR (I3 (n + 9)) (I3 (n + 10)) (N.2.1 (r * 8 + w)) = false := by
            rw [etail]
            cases hh : nDR (I3 (n + 9)) (I3 (n + 10)) (I (n + 1) r * 8 + w) with
            | false => rfl
            | true =>
              have := hcl.1 _ (by omega) (by omega) hh
              omega
          have h7 := zLeast hwf (χ := nDR (I3 (n + 9)) (I3 (n + 10))) (fx := zPu P (r * 8 + w)) (g := zG (zPu P (r * 8 + w)) (zU y (r * 8 + w) (I (n + 5) (r * 8 + w) - x1)) (I3 (n + 5))) (D := Dm) a0 a1 hl hcap2 hhd htl (fun c c0 c1 hlc hx h1 h2 => ?_) (fun c c0 c1 hlc hx h1 h2 => ?_) (fun v v0 v1 hv => ?_) hf (fun c c0 c1 hlc hx hne => ?_)
          · have e7 : zG (zPu P (r * 8 + w)) (zU y (r * 8 + w) (I (n + 5) (r * 8 + w) - x1)) (I3 (n + 5)) (r * 8 + w) = I (n + 5) (r * 8 + w) - x1 := by
              rw [zG_t (zPu_eq rfl), zU_eq rfl]
            rw [e7] at h7; exact h7
          · have hst := hcl.2 c c0 c1 hlc (by rw [e6, j6 c c0 c1, hx]; rfl)
            rw [zG_f hx]
            exact hst.1 h1 h2
          · have hst := hcl.2 c c0 c1 hlc (by rw [e6, j6 c c0 c1, hx]; rfl)
            rw [zG_f hx]
            exact hst.2 h2 h1
          · have hvt : v ≠ I (n + 1) r * 8 + w := fun h8 => by rw [etail] at htl; rw [h8, htl] at hv; cases hv
            have h8 := hsp4 v v0 v1
            rw [if_neg hvt] at h8
            have h6 := hcl.1 v v0 v1 hv
            omega
          · rw [zPu_ne hne] at hx
            rw [zG_t (zPu_t hx), zU_ne hne]
            exact hfx c c0 c1 hlc hx
end ST
