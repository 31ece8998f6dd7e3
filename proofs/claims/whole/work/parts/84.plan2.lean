/-! The plan: all ranks. -/
theorem zSurj {n : Nat} {rk : Int → Int} (hinj : ∀ o o' : Int, 0 ≤ o → o < n → 0 ≤ o' → o' < n → rk o = rk o' → o = o') (hr : ∀ o : Int, 0 ≤ o → o < n → 0 ≤ rk o ∧ rk o < n) {k : Int} (k0 : 0 ≤ k) (k1 : k < n) : ∃ o : Int, 0 ≤ o ∧ o < n ∧ rk o = k := by
  refine Classical.byContradiction (fun hno => ?_)
  have h1 : sm n (fun k' => sm n (fun o => if rk o = k' then (1 : Int) else 0)) = n := by
    rw [sm_swap n n (fun o k' => if rk o = k' then (1 : Int) else 0)]
    rw [sm_congr (g := fun _ => 1) (fun o o0 o1 => by
      obtain ⟨r0, r1⟩ := hr o o0 o1
      exact sm_if (f := fun _ => (1 : Int)) (k := rk o) r0 r1)]
    exact sm_const n
  have h2 : sm n (fun k' => sm n (fun o => if rk o = k' then (1 : Int) else 0)) ≤ sm n (fun k' => if k' = k then (0 : Int) else 1) := by
    refine sm_le (fun k' q0 q1 => ?_)
    try dsimp only
    by_cases hk : k' = k
    · rw [if_pos hk, hk, sm_zero (fun o o0 o1 => if_neg (fun h9 => hno ⟨o, o0, o1, h9⟩))]; exact Int.le_refl 0
    · rw [if_neg hk]
      by_cases h : ∃ o : Int, 0 ≤ o ∧ o < n ∧ rk o = k'
      · obtain ⟨o, o0, o1, ho⟩ := h
        rw [sm_one (k := o) o0 o1 (fun i i0 i1 hi => if_neg (fun h9 => hi (hinj i o i0 i1 o0 o1 (h9.trans ho.symm)))), if_pos ho]; exact Int.le_refl 1
      · rw [sm_zero (fun o o0 o1 => if_neg (fun h9 => h ⟨o, o0, o1, h9⟩))]; decide
  have h3 := sm_upd (n := n) (f := fun _ => (1 : Int)) (g := fun k' => if k' = k then (0 : Int) else 1) k0 k1 (fun i _ _ hi => if_neg hi)
  rw [sm_const] at h3
  try dsimp only at h3
  rw [if_pos rfl] at h3
  omega
/-- the network of the basin at b by scenario s -/
def yNet (I : mN) (b s : Int) : zNet := zN (I b 0) (zFr I b) (zTo I b) (zTm I b) (zRm I b) (zSu I b s)
abbrev yRk (I : mN) (b : Int) : Int → Int := fun j => zRank (I b 3).toNat (zYr I b) (zRt I b) j
theorem ySu_bd {I : mN} {b s p w : Int} (hbd : yBd I b) (s0 : 0 ≤ s) (s1 : s < 3) (p0 : 0 ≤ p) (w0 : 0 ≤ w) (w1 : w < 8) : 0 ≤ ySu I b s p w ∧ ySu I b s p w ≤ 20000 := by
  unfold ySu
  split
  · omega
  · rename_i hc
    obtain ⟨⟨h1, h2, h3, h4⟩, h5, -⟩ := id hbd
    obtain ⟨-, g2, g3⟩ := h5 p p0 (by omega)
    obtain ⟨i0, i1⟩ := g3 (s * 8 + w) (by omega) (by omega)
    obtain ⟨j0, j1⟩ := g2 w w0 (by omega)
    obtain ⟨m0, m1⟩ := sm_bd (n := (I b 2).toNat) (f := yCm I b p w) (fun r r0 r1 => yCm_bd hbd w0 w1 r0 (by omega))
    split <;> omega
section P2
variable {n e b s : Int} {S : mH} {Q : mQ} (D : Nat) {I0 : mN}
theorem nLd_wf {I : mN} (hL : nLd I n I0 b s) (hbd : yBd I0 b) : nWf (I n 1) (I (n + 1)) (I (n + 2)) (I (n + 3)) := by
  obtain ⟨l1, l2, l3, l4, l5⟩ := hL
  obtain ⟨⟨h1, h2, h3, h4⟩, h5, h6, h7⟩ := hbd
  refine ⟨by rw [l1]; exact h1, fun c c0 c1 => ?_⟩
  obtain ⟨g1, g2, g3, -⟩ := l2 c c0 c1
  rw [g1, g2, g3]
  unfold zFr zTo zTm
  by_cases c9 : c < 9
  · rw [if_pos c9, if_pos c9, if_pos c9]
    refine ⟨?_, (h6 c c0 c9).1⟩
    by_cases c2 : c < I0 b 2
    · rw [if_pos c2, if_pos c2]
      obtain ⟨k1, k2, k3⟩ := h7 c c0 c2
      exact Or.inr ⟨by omega, by omega, fun h9 => absurd h9 k3⟩
    · rw [if_neg c2, if_neg c2]
      exact Or.inl ⟨rfl, rfl⟩
  · rw [if_neg c9, if_neg c9, if_neg c9]
    refine ⟨?_, by decide, by decide⟩
    by_cases c2 : c - 9 < I0 b 1
    · rw [if_pos c2]
      exact Or.inr ⟨by omega, by omega, fun _ => Int.le_refl 1⟩
    · rw [if_neg c2]
      exact Or.inl ⟨rfl, rfl⟩
theorem nLd_ag {I : mN} (hL : nLd I n I0 b s) : zAg (nN I n) (yNet I0 b s) := by
  obtain ⟨l1, l2, l3, l4, l5⟩ := hL
  refine ⟨fun a a0 a1 => ?_, fun v v0 v1 => (l4 v v0 v1).1⟩
  obtain ⟨g1, g2, g3, g4⟩ := l2 (a / 8) (by omega) (by omega)
  have g5 := g4 (a % 8) (by omega) (by omega)
  rw [show a / 8 * 8 + a % 8 = a by omega] at g5
  refine ⟨?_, fun _ => ⟨?_, ?_, g5⟩⟩
  · show decide (I (n + 1) (a / 8) ≠ -1 ∧ I n 1 ≤ a % 8 ∧ a % 8 + I (n + 3) (a / 8) < 8) = decide (zFr I0 b (a / 8) ≠ -1 ∧ I0 b 0 ≤ a % 8 ∧ a % 8 + zTm I0 b (a / 8) < 8)
    rw [g1, g3, l1]
  · show I (n + 1) (a / 8) * 8 + a % 8 = zFr I0 b (a / 8) * 8 + a % 8
    rw [g1]
  · show I (n + 2) (a / 8) * 8 + a % 8 + I (n + 3) (a / 8) = zTo I0 b (a / 8) * 8 + a % 8 + zTm I0 b (a / 8)
    rw [g2, g3]
theorem nLd_rm {I : mN} (hL : nLd I n I0 b s) (hbd : yBd I0 b) (a : Int) (a0 : 0 ≤ a) (a1 : a < 120) : 0 ≤ I (n + 4) a ∧ I (n + 4) a ≤ 1000 := by
  have g5 := (hL.2.1 (a / 8) (by omega) (by omega)).2.2.2 (a % 8) (by omega) (by omega)
  rw [show a / 8 * 8 + a % 8 = a by omega] at g5
  rw [g5]
  unfold zRm
  by_cases c : a < 72
  · rw [if_pos c]
    exact ((hbd.2.2.1 (a / 8) (by omega) (by omega)).2 (a % 8) (by omega) (by omega)).1
  · rw [if_neg c]
    exact (hbd.2.1 (a / 8 - 9) (by omega) (by omega)).1
theorem nLd_st {I : mN} (hL : nLd I n I0 b s) (hbd : yBd I0 b) (s0 : 0 ≤ s) (s1 : s < 3) (hO : nOldQ I n) {Dm : Int → Int} (hD : ∀ v : Int, 0 ≤ v → v < 48 → Dm v = 0) : nSt I n Dm := by
  have hw := nLd_wf hL hbd
  have hr := nLd_rm hL hbd
  obtain ⟨l1, l2, l3, l4, l5⟩ := hL
  have hex : ∀ v : Int, 0 ≤ v → v < 48 → zEx (nN I n) (I (n + 5)) v = I (n + 7) v := fun v v0 v1 => by
    unfold zEx zIn
    rw [sm_zero (fun a a0 a1 => ?_), Int.add_zero]
    rw [(l3 a a0 a1).1]
    split
    · split <;> split <;> rfl
    · rfl
  have hdr : ∀ v : Int, 0 ≤ v → v < 48 → nDr (I (n + 9)) v = false := fun v v0 v1 => decide_eq_false (fun h9 => h9 (l4 v v0 v1).2.2)
  refine ⟨⟨hw, hr, fun a a0 a1 => Or.inl (l3 a a0 a1).2, fun v v0 v1 => Or.inl (l4 v v0 v1).2.2⟩, ⟨fun a a0 a1 hl => ?_, fun a a0 a1 _ => (l3 a a0 a1).1⟩, fun v v0 v1 => ?_, ⟨fun v v0 v1 hv => ?_, fun a a0 a1 hl hs => ⟨fun h1 h2 => ?_, fun h1 h2 => ?_⟩⟩, hO⟩
  · rw [(l3 a a0 a1).1]
    exact ⟨Int.le_refl 0, (hr a a0 a1).1⟩
  · obtain ⟨g1, g2, g3⟩ := l4 v v0 v1
    have hb := ySu_bd (p := v / 8) (w := v % 8) hbd s0 s1 (by omega) (by omega) (by omega)
    have hb' : 0 ≤ zSu I0 b s v ∧ zSu I0 b s v ≤ 20000 := hb
    rw [hex v v0 v1, hD v v0 v1, g1, g2]
    omega
  · rw [hdr v v0 v1] at hv; cases hv
  · obtain ⟨-, d0, d1⟩ := nWf_ends hw a a0 a1 hl
    rw [hdr _ d0 d1] at h1; cases h1
  · obtain ⟨⟨t0, t1⟩, -⟩ := nWf_ends hw a a0 a1 hl
    rw [hdr _ t0 t1] at h1; cases h1
theorem l_plan0 {N0 : zNet} {rk : Int → Int} {ask : Int → Int → Int} (hE : e < n ∨ n + 15 ≤ e) (hn : yNe S n e) (hB : yB S b) (hd : b + 106 ≤ n ∨ n + 15 ≤ b) (he : e < b ∨ b + 106 ≤ e) (hbd : yBd I0 b) (s0 : 0 ≤ s) (s1 : s < 3) (hask : nAsk S (D + 4) e b s I0 ask) (hak : ∀ r w : Int, 0 ≤ r → r < I0 b 3 → I0 b 0 ≤ w → w < 8 → 0 ≤ ask r w ∧ ask r w ≤ 1000) (hpo : ∀ r : Int, 0 ≤ r → r < I0 b 3 → 0 ≤ zPo I0 b r ∧ zPo I0 b r < 6) (hinj : ∀ o o' : Int, 0 ≤ o → o < I0 b 3 → 0 ≤ o' → o' < I0 b 3 → rk o = rk o' → o = o') (hsur : ∀ k : Int, 0 ≤ k → k < I0 b 3 → ∃ o : Int, 0 ≤ o ∧ o < I0 b 3 ∧ rk o = k) :
    ∀ (c : Nat) {k : Int} {I : mN} {x4 x5 x6 x7 x8 : Option mV}, 0 ≤ k → k + c = I0 b 3 → nPl I n e I0 b s N0 rk ask k (I0 b 0) →
    (∀ (I' : mN) (x4 x5 x6 x7 x8 : Option mV), nPl I' n e I0 b s N0 rk ask (I0 b 3) (I0 b 0) → mAt (mRun (D + 4)) 37 142 ([some (mR n), some (mR b), some (mI s), some (mI (I0 b 3)), x4, x5, x6, x7, x8], [], I', S) Q) →
    mAt (mRun (D + 4)) 37 18 ([some (mR n), some (mR b), some (mI s), some (mI k), x4, x5, x6, x7, x8], [], I, S) Q
  | 0, k, I, x4, x5, x6, x7, x8, k0, k1, hP, kk => by
    obtain rfl : k = I0 b 3 := by omega
    have hb3 := hbd.1.2.2.2
    have e0 : I b = I0 b := hP.2.2.2.2.2.2.1 b (by omega) (by omega) (fun i i0 i1 => by omega)
    simp (disch := first | omega | exact Nat.le_of_ble_eq_true rfl | (simp (disch := omega) only [yb_k hB] <;> omega)) only [w_iconst, w_bipush, w_sipush, w_ldc_s, w_ldcw_s, w_ldc_i, w_ldcw_i, w_lconst, w_fconst, w_dconst, w_iload, w_iload_n, w_aload, w_aload_n, w_dload, w_istore, w_istore_n, w_astore_r, w_astore_s, w_astore_n_r, w_astore_n_s, w_dstore, w_iinc, w_iadd, w_isub, w_imul, w_iand, w_iushr, v_idiv, v_irem, w_ineg, w_i2l, w_i2c, w_i2f, w_i2d, v_f2d, w_lcmp, w_dcmp, v_fdiv, v_ddiv, w_dup_i, w_dup_r, w_dup2, w_dup_x2, w_pop_i, w_pop_r, w_goto, w_switch, w_ret_i, v_ret_z, v_ret_c, w_ret_a, w_ret_s, w_ret_f, w_ret_d, w_ret_v, v_iaload, v_baload, v_caload, v_laload, v_aaload, v_iastore, v_bastore, v_castore, v_lastore, v_aastore, v_alen, v_newa, v_anewa, w_new, w_throw, w_dead, v_getf_i, v_getf_z, v_getf_r, v_putf_i, v_putf_z, v_putf_r, w_call0, w_call1, w_callv1, w_calli1, w_callt1, w_call2, w_callv2, w_calli2, w_callt2, w_call3, w_callv3, w_calli3, w_call4, w_callv4, w_calli4, w_call5, w_callv5, w_calli5, w_call6, w_callv6, w_calli6, w_call7, w_callv7, w_calli7, w_call8, w_callv8, w_calli8, c_if0_eq_t, c_if0_eq_f, c_if2_eq_t, c_if2_eq_f, c_if0_ne_t, c_if0_ne_f, c_if2_ne_t, c_if2_ne_f, c_if0_lt_t, c_if0_lt_f, c_if2_lt_t, c_if2_lt_f, c_if0_ge_t, c_if0_ge_f, c_if2_ge_t, c_if2_ge_f, c_if0_gt_t, c_if0_gt_f, c_if2_gt_t, c_if2_gt_f, c_if0_le_t, c_if0_le_f, c_if2_le_t, c_if2_le_f, w_nil, uI_s, uA_r, uA_s, uD_d, mPut_0, mCl_own, mCv_go, mCl_min, mCl_cpy, mCv_obj, mAct_len, mAct_chrc, mAft_v, mAft_n, mAft_x, mGet_0, mSet_0, mGet_1, mSet_1, mGet_2, mSet_2, mGet_3, mSet_3, mGet_4, mSet_4, mGet_5, mSet_5, mGet_6, mSet_6, mGet_7, mSet_7, mGet_8, mSet_8, mGet_9, mSet_9, mGet_10, mSet_10, mGet_11, mSet_11, mGet_12, mSet_12, mGet_13, mSet_13, a_Ne_plan_18, bk_Ne_plan_18, yb_k hB, e0]
    exact kk I _ _ _ _ _ hP
  | c + 1, k, I, x4, x5, x6, x7, x8, k0, k1, hP, kk => by
    have hb3 := hbd.1.2.2.2
    have hb0 := hbd.1.1
    have e0 : I b = I0 b := hP.2.2.2.2.2.2.1 b (by omega) (by omega) (fun i i0 i1 => by omega)
    obtain ⟨o, o0, o1, ho⟩ := hsur k k0 (by omega)
    have ho14 : I (n + 14) k = o := by rw [← ho]; exact hP.2.2.2.2.1 o o0 o1
    have hP1 := hP.2.2.1
    rw [a_Ne_plan_18]
    simp (disch := first | omega | exact Nat.le_of_ble_eq_true rfl | (simp (disch := omega) only [yn_k hn, yn_16 hn, yn_k16 hn, yn_l16 hn, yb_k hB, yb_4 hB, yb_5 hB, yb_6 hB, yb_7 hB, yb_k1 hB, yb_l1 hB, yb_k2 hB, yb_l2 hB, yb_k3 hB, yb_l3 hB, yb_k4 hB, yb_l4 hB, yb_p hB, yb_pk hB, yb_p1 hB, yb_pk1 hB, yb_pl1 hB, yb_p2 hB, yb_pk2 hB, yb_pl2 hB, yb_p3 hB, yb_pk3 hB, yb_pl3 hB, yb_r hB, yb_rk hB, yb_r3 hB, yb_rk3 hB, yb_rl3 hB, yb_r4 hB, yb_rk4 hB, yb_rl4 hB, yb_g hB, yb_gk hB, yb_g7 hB, yb_gk7 hB, yb_gl7 hB, yb_g8 hB, yb_gk8 hB, yb_gl8 hB, yb_g9 hB, yb_gk9 hB, yb_gl9 hB, yb_g10 hB, yb_gk10 hB, yb_gl10 hB] <;> omega)) only [w_iconst, w_bipush, w_sipush, w_ldc_s, w_ldcw_s, w_ldc_i, w_ldcw_i, w_lconst, w_fconst, w_dconst, w_iload, w_iload_n, w_aload, w_aload_n, w_dload, w_istore, w_istore_n, w_astore_r, w_astore_s, w_astore_n_r, w_astore_n_s, w_dstore, w_iinc, w_iadd, w_isub, w_imul, w_iand, w_iushr, v_idiv, v_irem, w_ineg, w_i2l, w_i2c, w_i2f, w_i2d, v_f2d, w_lcmp, w_dcmp, v_fdiv, v_ddiv, w_dup_i, w_dup_r, w_dup2, w_dup_x2, w_pop_i, w_pop_r, w_goto, w_switch, w_ret_i, v_ret_z, v_ret_c, w_ret_a, w_ret_s, w_ret_f, w_ret_d, w_ret_v, v_iaload, v_baload, v_caload, v_laload, v_aaload, v_iastore, v_bastore, v_castore, v_lastore, v_aastore, v_alen, v_newa, v_anewa, w_new, w_throw, w_dead, v_getf_i, v_getf_z, v_getf_r, v_putf_i, v_putf_z, v_putf_r, w_call0, w_call1, w_callv1, w_calli1, w_callt1, w_call2, w_callv2, w_calli2, w_callt2, w_call3, w_callv3, w_calli3, w_call4, w_callv4, w_calli4, w_call5, w_callv5, w_calli5, w_call6, w_callv6, w_calli6, w_call7, w_callv7, w_calli7, w_call8, w_callv8, w_calli8, c_if0_eq_t, c_if0_eq_f, c_if2_eq_t, c_if2_eq_f, c_if0_ne_t, c_if0_ne_f, c_if2_ne_t, c_if2_ne_f, c_if0_lt_t, c_if0_lt_f, c_if2_lt_t, c_if2_lt_f, c_if0_ge_t, c_if0_ge_f, c_if2_ge_t, c_if2_ge_f, c_if0_gt_t, c_if0_gt_f, c_if2_gt_t, c_if2_gt_f, c_if0_le_t, c_if0_le_f, c_if2_le_t, c_if2_le_f, w_nil, uI_s, uA_r, uA_s, uD_d, mPut_0, mCl_own, mCv_go, mCl_min, mCl_cpy, mCv_obj, mAct_len, mAct_chrc, mAft_v, mAft_n, mAft_x, mGet_0, mSet_0, mGet_1, mSet_1, mGet_2, mSet_2, mGet_3, mSet_3, mGet_4, mSet_4, mGet_5, mSet_5, mGet_6, mSet_6, mGet_7, mSet_7, mGet_8, mSet_8, mGet_9, mSet_9, mGet_10, mSet_10, mGet_11, mSet_11, mGet_12, mSet_12, mGet_13, mSet_13, bk_Ne_plan_18, yn_k hn, yn_16 hn, yn_k16 hn, yn_l16 hn, yb_k hB, yb_4 hB, yb_5 hB, yb_6 hB, yb_7 hB, yb_k1 hB, yb_l1 hB, yb_k2 hB, yb_l2 hB, yb_k3 hB, yb_l3 hB, yb_k4 hB, yb_l4 hB, yb_p hB, yb_pk hB, yb_p1 hB, yb_pk1 hB, yb_pl1 hB, yb_p2 hB, yb_pk2 hB, yb_pl2 hB, yb_p3 hB, yb_pk3 hB, yb_pl3 hB, yb_r hB, yb_rk hB, yb_r3 hB, yb_rk3 hB, yb_rl3 hB, yb_r4 hB, yb_rk4 hB, yb_rl4 hB, yb_g hB, yb_gk hB, yb_g7 hB, yb_gk7 hB, yb_gl7 hB, yb_g8 hB, yb_gk8 hB, yb_gl8 hB, yb_g9 hB, yb_gk9 hB, yb_gl9 hB, yb_g10 hB, yb_gk10 hB, yb_gl10 hB, e0, ho14, hP1]
    refine l_plan1 (hE := hE) (N0 := N0) (rk := rk) (ask := ask) D hn hB hd he hbd s0 s1 hask hak hpo hinj k0 (by omega) o0 o1 ho (8 - I0 b 0).toNat (Int.le_refl _) (by omega) hP (fun I' x6 x7 x8 hP' => ?_)
    simp (disch := first | omega | exact Nat.le_of_ble_eq_true rfl) only [w_iconst, w_bipush, w_sipush, w_ldc_s, w_ldcw_s, w_ldc_i, w_ldcw_i, w_lconst, w_fconst, w_dconst, w_iload, w_iload_n, w_aload, w_aload_n, w_dload, w_istore, w_istore_n, w_astore_r, w_astore_s, w_astore_n_r, w_astore_n_s, w_dstore, w_iinc, w_iadd, w_isub, w_imul, w_iand, w_iushr, v_idiv, v_irem, w_ineg, w_i2l, w_i2c, w_i2f, w_i2d, v_f2d, w_lcmp, w_dcmp, v_fdiv, v_ddiv, w_dup_i, w_dup_r, w_dup2, w_dup_x2, w_pop_i, w_pop_r, w_goto, w_switch, w_ret_i, v_ret_z, v_ret_c, w_ret_a, w_ret_s, w_ret_f, w_ret_d, w_ret_v, v_iaload, v_baload, v_caload, v_laload, v_aaload, v_iastore, v_bastore, v_castore, v_lastore, v_aastore, v_alen, v_newa, v_anewa, w_new, w_throw, w_dead, v_getf_i, v_getf_z, v_getf_r, v_putf_i, v_putf_z, v_putf_r, w_call0, w_call1, w_callv1, w_calli1, w_callt1, w_call2, w_callv2, w_calli2, w_callt2, w_call3, w_callv3, w_calli3, w_call4, w_callv4, w_calli4, w_call5, w_callv5, w_calli5, w_call6, w_callv6, w_calli6, w_call7, w_callv7, w_calli7, w_call8, w_callv8, w_calli8, c_if0_eq_t, c_if0_eq_f, c_if2_eq_t, c_if2_eq_f, c_if0_ne_t, c_if0_ne_f, c_if2_ne_t, c_if2_ne_f, c_if0_lt_t, c_if0_lt_f, c_if2_lt_t, c_if2_lt_f, c_if0_ge_t, c_if0_ge_f, c_if2_ge_t, c_if2_ge_f, c_if0_gt_t, c_if0_gt_f, c_if2_gt_t, c_if2_gt_f, c_if0_le_t, c_if0_le_f, c_if2_le_t, c_if2_le_f, w_nil, uI_s, uA_r, uA_s, uD_d, mPut_0, mCl_own, mCv_go, mCl_min, mCl_cpy, mCv_obj, mAct_len, mAct_chrc, mAft_v, mAft_n, mAft_x, mGet_0, mSet_0, mGet_1, mSet_1, mGet_2, mSet_2, mGet_3, mSet_3, mGet_4, mSet_4, mGet_5, mSet_5, mGet_6, mSet_6, mGet_7, mSet_7, mGet_8, mSet_8, mGet_9, mSet_9, mGet_10, mSet_10, mGet_11, mSet_11, mGet_12, mSet_12, mGet_13, mSet_13, a_Ne_plan_136, bk_Ne_plan_136, wr]
    refine l_plan0 hE hn hB hd he hbd s0 s1 hask hak hpo hinj hsur c (by omega) (by omega) ?_ kk
    obtain ⟨p1, p2, p3, p4, p5, p6, p7, p8⟩ := hP'
    refine ⟨?_, p2, p3, p4, p5, zPl_next p6, p7, p8⟩
    rw [show zD (I0 b 3).toNat (I0 b 0) rk (zPo I0 b) (zAm I' b s) (k + 1) (I0 b 0) = zD (I0 b 3).toNat (I0 b 0) rk (zPo I0 b) (zAm I' b s) k 8 from funext (fun v => (zD_next (Int.le_refl _) v).symm)]
    exact p1
/-- the plan of scenario s is found: amounts, network -/
def nDone (I' : mN) (n e : Int) (I : mN) (b s : Int) (ask : Int → Int → Int) : Prop :=
  nSt I' n (zD (I b 3).toNat (I b 0) (yRk I b) (zPo I b) (zAm I' b s) (I b 3) (I b 0)) ∧ zAg (nN I' n) (yNet I b s) ∧ I' n 1 = I b 0 ∧ (∀ a : Int, 0 ≤ a → a < 120 → I' (n + 6) a = 0) ∧ (∀ j : Int, 0 ≤ j → j < I b 3 → I' (n + 14) (yRk I b j) = j) ∧
  zPlan (yNet I b s) (I b 3).toNat (I b 0) (yRk I b) (zPo I b) ask (zAm I' b s) ∧
  (∀ a : Int, (a < n ∨ n + 15 ≤ a) → a ≠ e → a ≠ b + 4 → (∀ i : Int, 0 ≤ i → i < 10 → a ≠ b + (56 + 5 * i) + 3) → I' a = I a) ∧ I' (b + 4) = zU (I (b + 4)) s 1 ∧
  ∀ i : Int, 0 ≤ i → i < 10 → ∀ j : Int, (i < I b 3 → s * 8 + I b 0 ≤ j → s * 8 + 8 ≤ j) → I' (b + (56 + 5 * i) + 3) j = I (b + (56 + 5 * i) + 3) j
theorem r_plan_0 {I : mN} (hn : yNe S n e) (hB : yB S b) (s0 : 0 ≤ s) (s1 : s < 3) (hp : I (b + 4) s = 1) : mRun (D + 1) 37 [mR n, mR b, mI s] I S Q = Q (.inl none) I S := by
  simp (disch := first | omega | exact Nat.le_of_ble_eq_true rfl | (simp (disch := omega) only [yn_k hn, yb_k hB, yb_4 hB, yb_5 hB, yb_6 hB, yb_7 hB, yb_k1 hB, yb_l1 hB, yb_k2 hB, yb_l2 hB, yb_k3 hB, yb_l3 hB, yb_k4 hB, yb_l4 hB, yb_p hB, yb_pk hB, yb_p1 hB, yb_pk1 hB, yb_pl1 hB, yb_p2 hB, yb_pk2 hB, yb_pl2 hB, yb_p3 hB, yb_pk3 hB, yb_pl3 hB, yb_r hB, yb_rk hB, yb_r3 hB, yb_rk3 hB, yb_rl3 hB, yb_r4 hB, yb_rk4 hB, yb_rl4 hB, yb_g hB, yb_gk hB, yb_g7 hB, yb_gk7 hB, yb_gl7 hB, yb_g8 hB, yb_gk8 hB, yb_gl8 hB, yb_g9 hB, yb_gk9 hB, yb_gl9 hB, yb_g10 hB, yb_gk10 hB, yb_gl10 hB] <;> omega)) only [w_iconst, w_bipush, w_sipush, w_ldc_s, w_ldcw_s, w_ldc_i, w_ldcw_i, w_lconst, w_fconst, w_dconst, w_iload, w_iload_n, w_aload, w_aload_n, w_dload, w_istore, w_istore_n, w_astore_r, w_astore_s, w_astore_n_r, w_astore_n_s, w_dstore, w_iinc, w_iadd, w_isub, w_imul, w_iand, w_iushr, v_idiv, v_irem, w_ineg, w_i2l, w_i2c, w_i2f, w_i2d, v_f2d, w_lcmp, w_dcmp, v_fdiv, v_ddiv, w_dup_i, w_dup_r, w_dup2, w_dup_x2, w_pop_i, w_pop_r, w_goto, w_switch, w_ret_i, v_ret_z, v_ret_c, w_ret_a, w_ret_s, w_ret_f, w_ret_d, w_ret_v, v_iaload, v_baload, v_caload, v_laload, v_aaload, v_iastore, v_bastore, v_castore, v_lastore, v_aastore, v_alen, v_newa, v_anewa, w_new, w_throw, w_dead, v_getf_i, v_getf_z, v_getf_r, v_putf_i, v_putf_z, v_putf_r, w_call0, w_call1, w_callv1, w_calli1, w_callt1, w_call2, w_callv2, w_calli2, w_callt2, w_call3, w_callv3, w_calli3, w_call4, w_callv4, w_calli4, w_call5, w_callv5, w_calli5, w_call6, w_callv6, w_calli6, w_call7, w_callv7, w_calli7, w_call8, w_callv8, w_calli8, c_if0_eq_t, c_if0_eq_f, c_if2_eq_t, c_if2_eq_f, c_if0_ne_t, c_if0_ne_f, c_if2_ne_t, c_if2_ne_f, c_if0_lt_t, c_if0_lt_f, c_if2_lt_t, c_if2_lt_f, c_if0_ge_t, c_if0_ge_f, c_if2_ge_t, c_if2_ge_f, c_if0_gt_t, c_if0_gt_f, c_if2_gt_t, c_if2_gt_f, c_if0_le_t, c_if0_le_f, c_if2_le_t, c_if2_le_f, w_nil, uI_s, uA_r, uA_s, uD_d, mPut_0, mCl_own, mCv_go, mCl_min, mCl_cpy, mCv_obj, mAct_len, mAct_chrc, mAft_v, mAft_n, mAft_x, mGet_0, mSet_0, mGet_1, mSet_1, mGet_2, mSet_2, mGet_3, mSet_3, mGet_4, mSet_4, mGet_5, mSet_5, mGet_6, mSet_6, mGet_7, mSet_7, mGet_8, mSet_8, mGet_9, mSet_9, mGet_10, mSet_10, mGet_11, mSet_11, mGet_12, mSet_12, mGet_13, mSet_13, e_Ne_plan, a_Ne_plan_0, bk_Ne_plan_0, yn_k hn, yb_k hB, yb_4 hB, yb_5 hB, yb_6 hB, yb_7 hB, yb_k1 hB, yb_l1 hB, yb_k2 hB, yb_l2 hB, yb_k3 hB, yb_l3 hB, yb_k4 hB, yb_l4 hB, yb_p hB, yb_pk hB, yb_p1 hB, yb_pk1 hB, yb_pl1 hB, yb_p2 hB, yb_pk2 hB, yb_pl2 hB, yb_p3 hB, yb_pk3 hB, yb_pl3 hB, yb_r hB, yb_rk hB, yb_r3 hB, yb_rk3 hB, yb_rl3 hB, yb_r4 hB, yb_rk4 hB, yb_rl4 hB, yb_g hB, yb_gk hB, yb_g7 hB, yb_gk7 hB, yb_gl7 hB, yb_g8 hB, yb_gk8 hB, yb_gl8 hB, yb_g9 hB, yb_gk9 hB, yb_gl9 hB, yb_g10 hB, yb_gk10 hB, yb_gl10 hB, hp]
theorem p_plan {I : mN} {ask : Int → Int → Int} (hE : e < n ∨ n + 15 ≤ e) (hn : yNe S n e) (hB : yB S b) (hd : b + 106 ≤ n ∨ n + 15 ≤ b) (he : e < b ∨ b + 106 ≤ e) (hbd : yBd I b) (s0 : 0 ≤ s) (s1 : s < 3) (hp : I (b + 4) s = 0) (hO : nOldQ I n) (hask : nAsk S (D + 4) e b s I ask) (hak : ∀ r w : Int, 0 ≤ r → r < I b 3 → I b 0 ≤ w → w < 8 → 0 ≤ ask r w ∧ ask r w ≤ 1000) (hpo : ∀ r : Int, 0 ≤ r → r < I b 3 → 0 ≤ zPo I b r ∧ zPo I b r < 6)
    (k : ∀ I' : mN, nDone I' n e I b s ask → Q (.inl none) I' S) : mRun (D + 5) 37 [mR n, mR b, mI s] I S Q := by
  have hb3 := hbd.1.2.2.2
  have hb0 := hbd.1.1
  simp (disch := first | omega | exact Nat.le_of_ble_eq_true rfl | (simp (disch := omega) only [yn_k hn, yb_k hB, yb_4 hB, yb_5 hB, yb_6 hB, yb_7 hB, yb_k1 hB, yb_l1 hB, yb_k2 hB, yb_l2 hB, yb_k3 hB, yb_l3 hB, yb_k4 hB, yb_l4 hB, yb_p hB, yb_pk hB, yb_p1 hB, yb_pk1 hB, yb_pl1 hB, yb_p2 hB, yb_pk2 hB, yb_pl2 hB, yb_p3 hB, yb_pk3 hB, yb_pl3 hB, yb_r hB, yb_rk hB, yb_r3 hB, yb_rk3 hB, yb_rl3 hB, yb_r4 hB, yb_rk4 hB, yb_rl4 hB, yb_g hB, yb_gk hB, yb_g7 hB, yb_gk7 hB, yb_gl7 hB, yb_g8 hB, yb_gk8 hB, yb_gl8 hB, yb_g9 hB, yb_gk9 hB, yb_gl9 hB, yb_g10 hB, yb_gk10 hB, yb_gl10 hB] <;> omega)) only [w_iconst, w_bipush, w_sipush, w_ldc_s, w_ldcw_s, w_ldc_i, w_ldcw_i, w_lconst, w_fconst, w_dconst, w_iload, w_iload_n, w_aload, w_aload_n, w_dload, w_istore, w_istore_n, w_astore_r, w_astore_s, w_astore_n_r, w_astore_n_s, w_dstore, w_iinc, w_iadd, w_isub, w_imul, w_iand, w_iushr, v_idiv, v_irem, w_ineg, w_i2l, w_i2c, w_i2f, w_i2d, v_f2d, w_lcmp, w_dcmp, v_fdiv, v_ddiv, w_dup_i, w_dup_r, w_dup2, w_dup_x2, w_pop_i, w_pop_r, w_goto, w_switch, w_ret_i, v_ret_z, v_ret_c, w_ret_a, w_ret_s, w_ret_f, w_ret_d, w_ret_v, v_iaload, v_baload, v_caload, v_laload, v_aaload, v_iastore, v_bastore, v_castore, v_lastore, v_aastore, v_alen, v_newa, v_anewa, w_new, w_throw, w_dead, v_getf_i, v_getf_z, v_getf_r, v_putf_i, v_putf_z, v_putf_r, w_call0, w_call1, w_callv1, w_calli1, w_callt1, w_call2, w_callv2, w_calli2, w_callt2, w_call3, w_callv3, w_calli3, w_call4, w_callv4, w_calli4, w_call5, w_callv5, w_calli5, w_call6, w_callv6, w_calli6, w_call7, w_callv7, w_calli7, w_call8, w_callv8, w_calli8, c_if0_eq_t, c_if0_eq_f, c_if2_eq_t, c_if2_eq_f, c_if0_ne_t, c_if0_ne_f, c_if2_ne_t, c_if2_ne_f, c_if0_lt_t, c_if0_lt_f, c_if2_lt_t, c_if2_lt_f, c_if0_ge_t, c_if0_ge_f, c_if2_ge_t, c_if2_ge_f, c_if0_gt_t, c_if0_gt_f, c_if2_gt_t, c_if2_gt_f, c_if0_le_t, c_if0_le_f, c_if2_le_t, c_if2_le_f, w_nil, uI_s, uA_r, uA_s, uD_d, mPut_0, mCl_own, mCv_go, mCl_min, mCl_cpy, mCv_obj, mAct_len, mAct_chrc, mAft_v, mAft_n, mAft_x, mGet_0, mSet_0, mGet_1, mSet_1, mGet_2, mSet_2, mGet_3, mSet_3, mGet_4, mSet_4, mGet_5, mSet_5, mGet_6, mSet_6, mGet_7, mSet_7, mGet_8, mSet_8, mGet_9, mSet_9, mGet_10, mSet_10, mGet_11, mSet_11, mGet_12, mSet_12, mGet_13, mSet_13, e_Ne_plan, a_Ne_plan_0, bk_Ne_plan_0, a_Ne_plan_10, bk_Ne_plan_10, yn_k hn, yb_k hB, yb_4 hB, yb_5 hB, yb_6 hB, yb_7 hB, yb_k1 hB, yb_l1 hB, yb_k2 hB, yb_l2 hB, yb_k3 hB, yb_l3 hB, yb_k4 hB, yb_l4 hB, yb_p hB, yb_pk hB, yb_p1 hB, yb_pk1 hB, yb_pl1 hB, yb_p2 hB, yb_pk2 hB, yb_pl2 hB, yb_p3 hB, yb_pk3 hB, yb_pl3 hB, yb_r hB, yb_rk hB, yb_r3 hB, yb_rk3 hB, yb_rl3 hB, yb_r4 hB, yb_rk4 hB, yb_rl4 hB, yb_g hB, yb_gk hB, yb_g7 hB, yb_gk7 hB, yb_gl7 hB, yb_g8 hB, yb_gk8 hB, yb_gl8 hB, yb_g9 hB, yb_gk9 hB, yb_gl9 hB, yb_g10 hB, yb_gk10 hB, yb_gl10 hB, hp]
  refine p_load (D := D + 1) hn hB hd hbd s0 s1 (fun I1 hL fr1 frn => ?_)
  simp (disch := first | omega | exact Nat.le_of_ble_eq_true rfl) only [w_iconst, w_bipush, w_sipush, w_ldc_s, w_ldcw_s, w_ldc_i, w_ldcw_i, w_lconst, w_fconst, w_dconst, w_iload, w_iload_n, w_aload, w_aload_n, w_dload, w_istore, w_istore_n, w_astore_r, w_astore_s, w_astore_n_r, w_astore_n_s, w_dstore, w_iinc, w_iadd, w_isub, w_imul, w_iand, w_iushr, v_idiv, v_irem, w_ineg, w_i2l, w_i2c, w_i2f, w_i2d, v_f2d, w_lcmp, w_dcmp, v_fdiv, v_ddiv, w_dup_i, w_dup_r, w_dup2, w_dup_x2, w_pop_i, w_pop_r, w_goto, w_switch, w_ret_i, v_ret_z, v_ret_c, w_ret_a, w_ret_s, w_ret_f, w_ret_d, w_ret_v, v_iaload, v_baload, v_caload, v_laload, v_aaload, v_iastore, v_bastore, v_castore, v_lastore, v_aastore, v_alen, v_newa, v_anewa, w_new, w_throw, w_dead, v_getf_i, v_getf_z, v_getf_r, v_putf_i, v_putf_z, v_putf_r, w_call0, w_call1, w_callv1, w_calli1, w_callt1, w_call2, w_callv2, w_calli2, w_callt2, w_call3, w_callv3, w_calli3, w_call4, w_callv4, w_calli4, w_call5, w_callv5, w_calli5, w_call6, w_callv6, w_calli6, w_call7, w_callv7, w_calli7, w_call8, w_callv8, w_calli8, c_if0_eq_t, c_if0_eq_f, c_if2_eq_t, c_if2_eq_f, c_if0_ne_t, c_if0_ne_f, c_if2_ne_t, c_if2_ne_f, c_if0_lt_t, c_if0_lt_f, c_if2_lt_t, c_if2_lt_f, c_if0_ge_t, c_if0_ge_f, c_if2_ge_t, c_if2_ge_f, c_if0_gt_t, c_if0_gt_f, c_if2_gt_t, c_if2_gt_f, c_if0_le_t, c_if0_le_f, c_if2_le_t, c_if2_le_f, w_nil, uI_s, uA_r, uA_s, uD_d, mPut_0, mCl_own, mCv_go, mCl_min, mCl_cpy, mCv_obj, mAct_len, mAct_chrc, mAft_v, mAft_n, mAft_x, mGet_0, mSet_0, mGet_1, mSet_1, mGet_2, mSet_2, mGet_3, mSet_3, mGet_4, mSet_4, mGet_5, mSet_5, mGet_6, mSet_6, mGet_7, mSet_7, mGet_8, mSet_8, mGet_9, mSet_9, mGet_10, mSet_10, mGet_11, mSet_11, mGet_12, mSet_12, mGet_13, mSet_13]
  have hO1 : nOldQ I1 n := by
    unfold nOldQ at hO ⊢
    rw [frn 13 (by decide), fr1 (n + 10) (by omega), fr1 (n + 11) (by omega)]
    exact hO
  have hinj : ∀ o o' : Int, 0 ≤ o → o < I b 3 → 0 ≤ o' → o' < I b 3 → yRk I b o = yRk I b o' → o = o' := fun o o' q0 q1 q2 q3 h9 => zRank_inj q0 (by omega) q2 (by omega) h9
  have hst := nLd_st hL hbd s0 s1 hO1 (Dm := zD (I b 3).toNat (I b 0) (yRk I b) (zPo I b) (zAm I1 b s) 0 (I b 0)) (fun v _ _ => zD_zero (fun o _ _ => zRank_0) (Int.le_refl _) v)
  have hag := nLd_ag hL
  refine l_plan0 (I0 := I) (N0 := nN I1 n) (rk := yRk I b) (ask := ask) D hE hn hB hd he hbd s0 s1 hask hak hpo hinj (fun k k0 k1 => ?_) (I b 3).toNat (Int.le_refl 0) (by omega) ⟨hst, rfl, hL.1, fun a a0 a1 => (hL.2.2.1 a a0 a1).2, hL.2.2.2.2, zPl_0 (fun o _ _ => zRank_0), fun a a0 a1 a2 => fr1 a (by omega), fun i i0 i1 j hj => by rw [fr1 _ (by omega)]⟩ (fun I' x4 x5 x6 x7 x8 hP => ?_)
  · obtain ⟨o, o0, o1, ho⟩ := zSurj (n := (I b 3).toNat) (rk := yRk I b) (fun o o' q0 q1 q2 q3 h9 => zRank_inj q0 q1 q2 q3 h9) (fun o q0 q1 => ⟨zRank_0, zRank_n q0 q1⟩) k0 (by omega)
    exact ⟨o, o0, by omega, ho⟩
  · obtain ⟨p1, p2, p3, p4, p5, p6, p7, p8⟩ := hP
    have eb4 : I' (b + 4) = I (b + 4) := p7 _ (by omega) (by omega) (fun i i0 i1 => by omega)
    simp (disch := first | omega | exact Nat.le_of_ble_eq_true rfl | (simp (disch := omega) only [yb_k hB, yb_4 hB, yb_5 hB, yb_6 hB, yb_7 hB, yb_k1 hB, yb_l1 hB, yb_k2 hB, yb_l2 hB, yb_k3 hB, yb_l3 hB, yb_k4 hB, yb_l4 hB, yb_p hB, yb_pk hB, yb_p1 hB, yb_pk1 hB, yb_pl1 hB, yb_p2 hB, yb_pk2 hB, yb_pl2 hB, yb_p3 hB, yb_pk3 hB, yb_pl3 hB, yb_r hB, yb_rk hB, yb_r3 hB, yb_rk3 hB, yb_rl3 hB, yb_r4 hB, yb_rk4 hB, yb_rl4 hB, yb_g hB, yb_gk hB, yb_g7 hB, yb_gk7 hB, yb_gl7 hB, yb_g8 hB, yb_gk8 hB, yb_gl8 hB, yb_g9 hB, yb_gk9 hB, yb_gl9 hB, yb_g10 hB, yb_gk10 hB, yb_gl10 hB, up_fa] <;> omega)) only [w_iconst, w_bipush, w_sipush, w_ldc_s, w_ldcw_s, w_ldc_i, w_ldcw_i, w_lconst, w_fconst, w_dconst, w_iload, w_iload_n, w_aload, w_aload_n, w_dload, w_istore, w_istore_n, w_astore_r, w_astore_s, w_astore_n_r, w_astore_n_s, w_dstore, w_iinc, w_iadd, w_isub, w_imul, w_iand, w_iushr, v_idiv, v_irem, w_ineg, w_i2l, w_i2c, w_i2f, w_i2d, v_f2d, w_lcmp, w_dcmp, v_fdiv, v_ddiv, w_dup_i, w_dup_r, w_dup2, w_dup_x2, w_pop_i, w_pop_r, w_goto, w_switch, w_ret_i, v_ret_z, v_ret_c, w_ret_a, w_ret_s, w_ret_f, w_ret_d, w_ret_v, v_iaload, v_baload, v_caload, v_laload, v_aaload, v_iastore, v_bastore, v_castore, v_lastore, v_aastore, v_alen, v_newa, v_anewa, w_new, w_throw, w_dead, v_getf_i, v_getf_z, v_getf_r, v_putf_i, v_putf_z, v_putf_r, w_call0, w_call1, w_callv1, w_calli1, w_callt1, w_call2, w_callv2, w_calli2, w_callt2, w_call3, w_callv3, w_calli3, w_call4, w_callv4, w_calli4, w_call5, w_callv5, w_calli5, w_call6, w_callv6, w_calli6, w_call7, w_callv7, w_calli7, w_call8, w_callv8, w_calli8, c_if0_eq_t, c_if0_eq_f, c_if2_eq_t, c_if2_eq_f, c_if0_ne_t, c_if0_ne_f, c_if2_ne_t, c_if2_ne_f, c_if0_lt_t, c_if0_lt_f, c_if2_lt_t, c_if2_lt_f, c_if0_ge_t, c_if0_ge_f, c_if2_ge_t, c_if2_ge_f, c_if0_gt_t, c_if0_gt_f, c_if2_gt_t, c_if2_gt_f, c_if0_le_t, c_if0_le_f, c_if2_le_t, c_if2_le_f, w_nil, uI_s, uA_r, uA_s, uD_d, mPut_0, mCl_own, mCv_go, mCl_min, mCl_cpy, mCv_obj, mAct_len, mAct_chrc, mAft_v, mAft_n, mAft_x, mGet_0, mSet_0, mGet_1, mSet_1, mGet_2, mSet_2, mGet_3, mSet_3, mGet_4, mSet_4, mGet_5, mSet_5, mGet_6, mSet_6, mGet_7, mSet_7, mGet_8, mSet_8, mGet_9, mSet_9, mGet_10, mSet_10, mGet_11, mSet_11, mGet_12, mSet_12, mGet_13, mSet_13, a_Ne_plan_142, bk_Ne_plan_142, yb_k hB, yb_4 hB, yb_5 hB, yb_6 hB, yb_7 hB, yb_k1 hB, yb_l1 hB, yb_k2 hB, yb_l2 hB, yb_k3 hB, yb_l3 hB, yb_k4 hB, yb_l4 hB, yb_p hB, yb_pk hB, yb_p1 hB, yb_pk1 hB, yb_pl1 hB, yb_p2 hB, yb_pk2 hB, yb_pl2 hB, yb_p3 hB, yb_pk3 hB, yb_pl3 hB, yb_r hB, yb_rk hB, yb_r3 hB, yb_rk3 hB, yb_rl3 hB, yb_r4 hB, yb_rk4 hB, yb_rl4 hB, yb_g hB, yb_gk hB, yb_g7 hB, yb_gk7 hB, yb_gl7 hB, yb_g8 hB, yb_gk8 hB, yb_gl8 hB, yb_g9 hB, yb_gk9 hB, yb_gl9 hB, yb_g10 hB, yb_gk10 hB, yb_gl10 hB]
    have hS' : ∀ a : Int, a ≠ b + 4 → (mUp I' (b + 4) s 1) a = I' a := fun a ha => up_fa ha
    have eA : ∀ o t : Int, 0 ≤ o → zAm (mUp I' (b + 4) s 1) b s o t = zAm I' b s o t := fun o t o0 => by
      show (mUp I' (b + 4) s 1) (b + (56 + 5 * o) + 3) (s * 8 + t) = I' (b + (56 + 5 * o) + 3) (s * 8 + t)
      rw [hS' _ (by omega)]
    have eD : zD (I b 3).toNat (I b 0) (yRk I b) (zPo I b) (zAm (mUp I' (b + 4) s 1) b s) (I b 3) (I b 0) = zD (I b 3).toNat (I b 0) (yRk I b) (zPo I b) (zAm I' b s) (I b 3) (I b 0) := funext (fun v => zD_congr (fun o t o0 _ _ _ _ _ => eA o t o0) v)
    have eN : nN (mUp I' (b + 4) s 1) n = nN I' n := by
      unfold nN
      rw [hS' n (by omega), hS' (n + 1) (by omega), hS' (n + 2) (by omega), hS' (n + 3) (by omega), hS' (n + 4) (by omega), hS' (n + 7) (by omega)]
    refine k _ ⟨?_, by rw [eN, p2]; exact hag, by rw [hS' n (by omega)]; exact p3, fun a a0 a1 => by rw [hS' _ (by omega)]; exact p4 a a0 a1, fun j j0 j1 => by rw [hS' _ (by omega)]; exact p5 j j0 j1, ?_, fun a a0 a1 a2 a3 => by rw [hS' a a2]; exact p7 a a0 a1 a3, ?_, fun i i0 i1 j hj => by rw [hS' _ (by omega)]; exact p8 i i0 i1 j hj⟩
    · rw [eD]
      unfold nSt nOldQ at p1 ⊢
      rw [eN, hS' n (by omega), hS' (n + 1) (by omega), hS' (n + 2) (by omega), hS' (n + 3) (by omega), hS' (n + 4) (by omega), hS' (n + 5) (by omega), hS' (n + 6) (by omega), hS' (n + 8) (by omega), hS' (n + 9) (by omega), hS' (n + 10) (by omega), hS' (n + 11) (by omega)]
      exact p1
    · exact zAg_plan hag (zPl_all (zPl_congr p6 (fun o t o0 _ _ _ _ _ => (eA o t o0).symm)) (fun o q0 q1 => by have := zRank_n (n := (I b 3).toNat) (yr := zYr I b) (rt := zRt I b) q0 q1; show zRank _ _ _ _ < _; omega))
    · funext j
      unfold zU
      by_cases hj : j = s
      · rw [if_pos hj, up_eq rfl hj]
      · rw [if_neg hj, up_nk hj, eb4]
end P2
