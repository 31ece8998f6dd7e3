/-! The network between two calls, and the plan. -/
abbrev nN (I : mN) (n : Int) : zNet := zN (I n 1) (I (n + 1)) (I (n + 2)) (I (n + 3)) (I (n + 4)) (I (n + 7))
def nSp (N : zNet) (f sp D : Int → Int) : Prop := ∀ w : Int, 0 ≤ w → w < 48 → sp w = zEx N f w - D w ∧ 0 ≤ sp w ∧ sp w ≤ 1000000
def nSt (I : mN) (n : Int) (D : Int → Int) : Prop := (nWf (I n 1) (I (n + 1)) (I (n + 2)) (I (n + 3)) ∧ (∀ a : Int, 0 ≤ a → a < 120 → 0 ≤ I (n + 4) a ∧ I (n + 4) a ≤ 1000) ∧ (∀ a : Int, 0 ≤ a → a < 120 → I (n + 6) a = 0 ∨ I (n + 6) a = 1) ∧ ∀ v : Int, 0 ≤ v → v < 48 → I (n + 9) v = 0 ∨ I (n + 9) v = 1) ∧
  (zCap (nN I n) (I (n + 5)) ∧ ∀ a : Int, 0 ≤ a → a < 120 → (nN I n).1 a = false → I (n + 5) a = 0) ∧ nSp (nN I n) (I (n + 5)) (I (n + 8)) D ∧ nClo (nN I n) (I (n + 5)) (I (n + 6)) (I (n + 8)) (nDr (I (n + 9))) ∧ nOldQ I n
theorem nN_5 {I I' : mN} {n : Int} (h : nFr5 I I' n) : nN I' n = nN I n := by
  have g := h.1
  have e1 : I' n 1 = I n 1 := h.2 1 (by decide)
  have e2 : I' (n + 1) = I (n + 1) := g _ (by omega) (by omega) (by omega) (by omega) (by omega) (by omega) (by omega)
  have e3 : I' (n + 2) = I (n + 2) := g _ (by omega) (by omega) (by omega) (by omega) (by omega) (by omega) (by omega)
  have e4 : I' (n + 3) = I (n + 3) := g _ (by omega) (by omega) (by omega) (by omega) (by omega) (by omega) (by omega)
  have e5 : I' (n + 4) = I (n + 4) := g _ (by omega) (by omega) (by omega) (by omega) (by omega) (by omega) (by omega)
  have e6 : I' (n + 7) = I (n + 7) := g _ (by omega) (by omega) (by omega) (by omega) (by omega) (by omega) (by omega)
  unfold nN
  rw [e1, e2, e3, e4, e5, e6]
section PB
variable {n e node needed : Int} {S : mH} {Q : mQ} (D : Nat)
theorem p_bring2 {Dm : Int → Int} {I : mN} (hn : yNe S n e) (hS : nSt I n Dm) (n0 : 0 ≤ node) (n1 : node < 48) (htd : I n 1 ≤ node % 8) (hnd : needed ≤ 1000000)
    (k : ∀ (x : Int) (I' : mN), 0 ≤ x → (x ≤ needed ∨ x = 0) → nSt I' n (zAt Dm node x) → nFr5 I I' n → (∀ a : Int, I (n + 6) a ≠ 0 ∨ (nN I n).1 a = false → I' (n + 5) a = I (n + 5) a) → (∀ w : Int, I (n + 8) w - x ≤ I' (n + 8) w) → (x < needed → I (n + 9) node = 1 ∨ (I (n + 9) node = 0 ∧ nQ (nN I' n) (I' (n + 5)) (I' (n + 6)) (I' (n + 9)) I' n node ∧ nClo (nN I' n) (I' (n + 5)) (I' (n + 6)) (I' (n + 8)) (nDR (I' (n + 9)) (I' (n + 10))))) → Q (.inl (some (mI x))) I' S) :
    mRun (D + 4) 52 [mR n, mI node, mI needed] I S Q := by
  obtain ⟨⟨s1, s2, s3, s4⟩, s5, s6, s7, s8⟩ := hS
  refine p_bring (td := I n 1) (fr := I (n + 1)) (to := I (n + 2)) (tm := I (n + 3)) (rm := I (n + 4)) (su := I (n + 7)) (f := I (n + 5)) (st := I (n + 6)) (sp := I (n + 8)) (dr := I (n + 9)) (Dm := Dm) D hn s1 s3 (fun a a0 a1 => (s2 a a0 a1).2) n0 n1 htd hnd (s4 node n0 n1) ⟨rfl, rfl, rfl, rfl, rfl, rfl, rfl, rfl, rfl⟩ s5.1 s6 s7 s8 (fun x f' sp' I' x0 x1 hF hfr hc hsp hcl hO hset hlow hlast => ?_)
  have eN := nN_5 hfr
  obtain ⟨f1, f2, f3, f4, f5, f6, f7, f8, f9⟩ := hF
  refine k x I' x0 x1 ⟨⟨?_, ?_, ?_, ?_⟩, ?_, ?_, ?_, hO⟩ hfr (fun a ha => by rw [f6]; exact hset a ha) (fun w => by rw [f8]; exact hlow w) (fun hx => ?_)
  · rw [f1, f2, f3, f4]; exact s1
  · rw [f5]; exact s2
  · rw [f7]; exact s3
  · rw [f9]; exact s4
  · rw [eN, f6]; exact ⟨hc, fun a a0 a1 hl => (hset a (Or.inr hl)).trans (s5.2 a a0 a1 hl)⟩
  · rw [eN, f6, f8]; exact hsp
  · rw [eN, f6, f7, f8, f9]; exact hcl
  · rw [eN, f6, f7, f8, f9]; exact hlast hx
end PB
/-- what the plan says of asking: the evaluator's answers, at a basin that keeps all but the amounts ahead -/
def nAsk (S : mH) (D : Nat) (e b s : Int) (I0 : mN) (ask : Int → Int → Int) : Prop := ∀ (I : mN) (r w : Int), (∀ a : Int, b ≤ a → a < b + 106 → (∀ i : Int, 0 ≤ i → i < 10 → a ≠ b + (56 + 5 * i) + 3) → I a = I0 a) → 0 ≤ r → r < I0 b 3 → I0 b 0 ≤ w → w < 8 → ∀ Q : mQ, (∀ I' : mN, (∀ a : Int, a ≠ e → I' a = I a) → Q (.inl (some (mI (ask r w)))) I' S) → mRun D 27 [mR e, mR b, mI s, mI r, mI w] I S Q
abbrev zPo (I : mN) (b : Int) : Int → Int := fun i => I (b + (56 + 5 * i)) 0
abbrev zAm (I : mN) (b s : Int) : Int → Int → Int := fun o t => I (b + (56 + 5 * o) + 3) (s * 8 + t)
/-- between two amounts of the plan: the network N0, all of the basin as before but its amounts ahead -/
def nPl (I : mN) (n e : Int) (I0 : mN) (b s : Int) (N0 : zNet) (rk : Int → Int) (ask : Int → Int → Int) (k w : Int) : Prop :=
  nSt I n (zD (I0 b 3).toNat (I0 b 0) rk (zPo I0 b) (zAm I b s) k w) ∧ nN I n = N0 ∧ I n 1 = I0 b 0 ∧ (∀ a : Int, 0 ≤ a → a < 120 → I (n + 6) a = 0) ∧ (∀ j : Int, 0 ≤ j → j < I0 b 3 → I (n + 14) (rk j) = j) ∧
  zPl N0 (I0 b 3).toNat (I0 b 0) rk (zPo I0 b) ask (zAm I b s) k w ∧
  (∀ a : Int, (a < n ∨ n + 15 ≤ a) → a ≠ e → (∀ i : Int, 0 ≤ i → i < 10 → a ≠ b + (56 + 5 * i) + 3) → I a = I0 a) ∧
  ∀ i : Int, 0 ≤ i → i < 10 → ∀ j : Int, (i < I0 b 3 → s * 8 + I0 b 0 ≤ j → s * 8 + 8 ≤ j) → I (b + (56 + 5 * i) + 3) j = I0 (b + (56 + 5 * i) + 3) j
section PP
variable {n e b s : Int} {S : mH} {Q : mQ} (D : Nat) {I0 : mN} {N0 : zNet} {rk : Int → Int} {ask : Int → Int → Int}
theorem l_plan1 {hE : e < n ∨ n + 15 ≤ e} (hn : yNe S n e) (hB : yB S b) (hd : b + 106 ≤ n ∨ n + 15 ≤ b) (he : e < b ∨ b + 106 ≤ e) (hbd : yBd I0 b) (s0 : 0 ≤ s) (s1 : s < 3) (hask : nAsk S (D + 4) e b s I0 ask) (hak : ∀ r w : Int, 0 ≤ r → r < I0 b 3 → I0 b 0 ≤ w → w < 8 → 0 ≤ ask r w ∧ ask r w ≤ 1000) (hpo : ∀ r : Int, 0 ≤ r → r < I0 b 3 → 0 ≤ zPo I0 b r ∧ zPo I0 b r < 6) (hinj : ∀ o o' : Int, 0 ≤ o → o < I0 b 3 → 0 ≤ o' → o' < I0 b 3 → rk o = rk o' → o = o') {k : Int} (k0 : 0 ≤ k) (k1 : k < 10) {o : Int} (o0 : 0 ≤ o) (o1 : o < I0 b 3) (ho : rk o = k) :
    ∀ (c : Nat) {w : Int} {I : mN} {x6 x7 x8 : Option mV}, I0 b 0 ≤ w → w + c = 8 → nPl I n e I0 b s N0 rk ask k w →
    (∀ (I' : mN) (x6 x7 x8 : Option mV), nPl I' n e I0 b s N0 rk ask k 8 → mAt (mRun (D + 4)) 37 136 ([some (mR n), some (mR b), some (mI s), some (mI k), some (mR (b + (56 + 5 * o))), some (mI 8), x6, x7, x8], [], I', S) Q) →
    mAt (mRun (D + 4)) 37 45 ([some (mR n), some (mR b), some (mI s), some (mI k), some (mR (b + (56 + 5 * o))), some (mI w), x6, x7, x8], [], I, S) Q
  | 0, w, I, x6, x7, x8, w0, w1, hP, kk => by
    obtain rfl : w = 8 := by omega
    simp (disch := first | omega | exact Nat.le_of_ble_eq_true rfl) only [w_iconst, w_bipush, w_sipush, w_ldc_s, w_ldcw_s, w_ldc_i, w_ldcw_i, w_lconst, w_fconst, w_dconst, w_iload, w_iload_n, w_aload, w_aload_n, w_dload, w_istore, w_istore_n, w_astore_r, w_astore_s, w_astore_n_r, w_astore_n_s, w_dstore, w_iinc, w_iadd, w_isub, w_imul, w_iand, w_iushr, v_idiv, v_irem, w_ineg, w_i2l, w_i2c, w_i2f, w_i2d, v_f2d, w_lcmp, w_dcmp, v_fdiv, v_ddiv, w_dup_i, w_dup_r, w_dup2, w_dup_x2, w_pop_i, w_pop_r, w_goto, w_switch, w_ret_i, v_ret_z, v_ret_c, w_ret_a, w_ret_s, w_ret_f, w_ret_d, w_ret_v, v_iaload, v_baload, v_caload, v_laload, v_aaload, v_iastore, v_bastore, v_castore, v_lastore, v_aastore, v_alen, v_newa, v_anewa, w_new, w_throw, w_dead, v_getf_i, v_getf_z, v_getf_r, v_putf_i, v_putf_z, v_putf_r, w_call0, w_call1, w_callv1, w_calli1, w_callt1, w_call2, w_callv2, w_calli2, w_callt2, w_call3, w_callv3, w_calli3, w_call4, w_callv4, w_calli4, w_call5, w_callv5, w_calli5, w_call6, w_callv6, w_calli6, w_call7, w_callv7, w_calli7, w_call8, w_callv8, w_calli8, c_if0_eq_t, c_if0_eq_f, c_if2_eq_t, c_if2_eq_f, c_if0_ne_t, c_if0_ne_f, c_if2_ne_t, c_if2_ne_f, c_if0_lt_t, c_if0_lt_f, c_if2_lt_t, c_if2_lt_f, c_if0_ge_t, c_if0_ge_f, c_if2_ge_t, c_if2_ge_f, c_if0_gt_t, c_if0_gt_f, c_if2_gt_t, c_if2_gt_f, c_if0_le_t, c_if0_le_f, c_if2_le_t, c_if2_le_f, w_nil, uI_s, uA_r, uA_s, uD_d, mPut_0, mCl_own, mCv_go, mCl_min, mCl_cpy, mCv_obj, mAct_len, mAct_chrc, mAft_v, mAft_n, mAft_x, mGet_0, mSet_0, mGet_1, mSet_1, mGet_2, mSet_2, mGet_3, mSet_3, mGet_4, mSet_4, mGet_5, mSet_5, mGet_6, mSet_6, mGet_7, mSet_7, mGet_8, mSet_8, mGet_9, mSet_9, mGet_10, mSet_10, mGet_11, mSet_11, mGet_12, mSet_12, mGet_13, mSet_13, a_Ne_plan_45, bk_Ne_plan_45]
    exact kk I _ _ _ hP
  | c + 1, w, I, x6, x7, x8, w0, w1, hP, kk => by
    obtain ⟨p1, p2, p3, p4, p5, p6, p7, p8⟩ := id hP
    have hb0 := hbd.1.1
    have hb3 := hbd.1.2.2.2
    have ho14 : I (n + 14) k = o := by rw [← ho]; exact p5 o o0 o1
    have hak1 := hak o w o0 o1 w0 (by omega)
    have hp1 := hpo o o0 o1
    have hkeep : ∀ J : mN, (∀ a : Int, a < n ∨ n + 15 ≤ a → a ≠ e → J a = I a) → ∀ a : Int, b ≤ a → a < b + 106 → (∀ i : Int, 0 ≤ i → i < 10 → a ≠ b + (56 + 5 * i) + 3) → J a = I0 a := fun J hJ a a0 a1 a2 => by rw [hJ a (by omega) (by omega)]; exact p7 a (by omega) (by omega) a2
    rw [a_Ne_plan_45]
    simp (disch := first | omega | exact Nat.le_of_ble_eq_true rfl | (simp (disch := omega) only [yn_k hn, yn_0 hn, yn_16 hn, yn_k16 hn, yn_l16 hn, yn_e hn, yb_k hB, yb_4 hB, yb_5 hB, yb_6 hB, yb_7 hB, yb_k1 hB, yb_l1 hB, yb_k2 hB, yb_l2 hB, yb_k3 hB, yb_l3 hB, yb_k4 hB, yb_l4 hB, yb_p hB, yb_pk hB, yb_p1 hB, yb_pk1 hB, yb_pl1 hB, yb_p2 hB, yb_pk2 hB, yb_pl2 hB, yb_p3 hB, yb_pk3 hB, yb_pl3 hB, yb_r hB, yb_rk hB, yb_r3 hB, yb_rk3 hB, yb_rl3 hB, yb_r4 hB, yb_rk4 hB, yb_rl4 hB, yb_g hB, yb_gk hB, yb_g7 hB, yb_gk7 hB, yb_gl7 hB, yb_g8 hB, yb_gk8 hB, yb_gl8 hB, yb_g9 hB, yb_gk9 hB, yb_gl9 hB, yb_g10 hB, yb_gk10 hB, yb_gl10 hB] <;> omega)) only [w_iconst, w_bipush, w_sipush, w_ldc_s, w_ldcw_s, w_ldc_i, w_ldcw_i, w_lconst, w_fconst, w_dconst, w_iload, w_iload_n, w_aload, w_aload_n, w_dload, w_istore, w_istore_n, w_astore_r, w_astore_s, w_astore_n_r, w_astore_n_s, w_dstore, w_iinc, w_iadd, w_isub, w_imul, w_iand, w_iushr, v_idiv, v_irem, w_ineg, w_i2l, w_i2c, w_i2f, w_i2d, v_f2d, w_lcmp, w_dcmp, v_fdiv, v_ddiv, w_dup_i, w_dup_r, w_dup2, w_dup_x2, w_pop_i, w_pop_r, w_goto, w_switch, w_ret_i, v_ret_z, v_ret_c, w_ret_a, w_ret_s, w_ret_f, w_ret_d, w_ret_v, v_iaload, v_baload, v_caload, v_laload, v_aaload, v_iastore, v_bastore, v_castore, v_lastore, v_aastore, v_alen, v_newa, v_anewa, w_new, w_throw, w_dead, v_getf_i, v_getf_z, v_getf_r, v_putf_i, v_putf_z, v_putf_r, w_call0, w_call1, w_callv1, w_calli1, w_callt1, w_call2, w_callv2, w_calli2, w_callt2, w_call3, w_callv3, w_calli3, w_call4, w_callv4, w_calli4, w_call5, w_callv5, w_calli5, w_call6, w_callv6, w_calli6, w_call7, w_callv7, w_calli7, w_call8, w_callv8, w_calli8, c_if0_eq_t, c_if0_eq_f, c_if2_eq_t, c_if2_eq_f, c_if0_ne_t, c_if0_ne_f, c_if2_ne_t, c_if2_ne_f, c_if0_lt_t, c_if0_lt_f, c_if2_lt_t, c_if2_lt_f, c_if0_ge_t, c_if0_ge_f, c_if2_ge_t, c_if2_ge_f, c_if0_gt_t, c_if0_gt_f, c_if2_gt_t, c_if2_gt_f, c_if0_le_t, c_if0_le_f, c_if2_le_t, c_if2_le_f, w_nil, uI_s, uA_r, uA_s, uD_d, mPut_0, mCl_own, mCv_go, mCl_min, mCl_cpy, mCv_obj, mAct_len, mAct_chrc, mAft_v, mAft_n, mAft_x, mGet_0, mSet_0, mGet_1, mSet_1, mGet_2, mSet_2, mGet_3, mSet_3, mGet_4, mSet_4, mGet_5, mSet_5, mGet_6, mSet_6, mGet_7, mSet_7, mGet_8, mSet_8, mGet_9, mSet_9, mGet_10, mSet_10, mGet_11, mSet_11, mGet_12, mSet_12, mGet_13, mSet_13, bk_Ne_plan_45, yn_k hn, yn_0 hn, yn_16 hn, yn_k16 hn, yn_l16 hn, yn_e hn, yb_k hB, yb_4 hB, yb_5 hB, yb_6 hB, yb_7 hB, yb_k1 hB, yb_l1 hB, yb_k2 hB, yb_l2 hB, yb_k3 hB, yb_l3 hB, yb_k4 hB, yb_l4 hB, yb_p hB, yb_pk hB, yb_p1 hB, yb_pk1 hB, yb_pl1 hB, yb_p2 hB, yb_pk2 hB, yb_pl2 hB, yb_p3 hB, yb_pk3 hB, yb_pl3 hB, yb_r hB, yb_rk hB, yb_r3 hB, yb_rk3 hB, yb_rl3 hB, yb_r4 hB, yb_rk4 hB, yb_rl4 hB, yb_g hB, yb_gk hB, yb_g7 hB, yb_gk7 hB, yb_gl7 hB, yb_g8 hB, yb_gk8 hB, yb_gl8 hB, yb_g9 hB, yb_gk9 hB, yb_gl9 hB, yb_g10 hB, yb_gk10 hB, yb_gl10 hB, ho14, wr]
    refine hask I o w (hkeep I (fun _ _ _ => rfl)) o0 o1 w0 (by omega) _ (fun I1 f1 => ?_)
    have e1 : I1 (b + (56 + 5 * o)) 0 = zPo I0 b o := by rw [f1 _ (by omega), p7 _ (by omega) (by omega) (fun i i0 i1 => by omega)]
    have hS1 : nSt I1 n (zD (I0 b 3).toNat (I0 b 0) rk (zPo I0 b) (zAm I b s) k w) := by
      unfold nSt nN nOldQ at p1 ⊢
      rw [f1 n (by omega), f1 (n + 1) (by omega), f1 (n + 2) (by omega), f1 (n + 3) (by omega), f1 (n + 4) (by omega), f1 (n + 5) (by omega), f1 (n + 6) (by omega), f1 (n + 7) (by omega), f1 (n + 8) (by omega), f1 (n + 9) (by omega), f1 (n + 10) (by omega), f1 (n + 11) (by omega)]
      exact p1
    simp (disch := first | omega | exact Nat.le_of_ble_eq_true rfl | (simp (disch := omega) only [yn_k hn, yn_0 hn, yn_16 hn, yn_k16 hn, yn_l16 hn, yn_e hn, yb_k hB, yb_4 hB, yb_5 hB, yb_6 hB, yb_7 hB, yb_k1 hB, yb_l1 hB, yb_k2 hB, yb_l2 hB, yb_k3 hB, yb_l3 hB, yb_k4 hB, yb_l4 hB, yb_p hB, yb_pk hB, yb_p1 hB, yb_pk1 hB, yb_pl1 hB, yb_p2 hB, yb_pk2 hB, yb_pl2 hB, yb_p3 hB, yb_pk3 hB, yb_pl3 hB, yb_r hB, yb_rk hB, yb_r3 hB, yb_rk3 hB, yb_rl3 hB, yb_r4 hB, yb_rk4 hB, yb_rl4 hB, yb_g hB, yb_gk hB, yb_g7 hB, yb_gk7 hB, yb_gl7 hB, yb_g8 hB, yb_gk8 hB, yb_gl8 hB, yb_g9 hB, yb_gk9 hB, yb_gl9 hB, yb_g10 hB, yb_gk10 hB, yb_gl10 hB, e1] <;> omega)) only [w_iconst, w_bipush, w_sipush, w_ldc_s, w_ldcw_s, w_ldc_i, w_ldcw_i, w_lconst, w_fconst, w_dconst, w_iload, w_iload_n, w_aload, w_aload_n, w_dload, w_istore, w_istore_n, w_astore_r, w_astore_s, w_astore_n_r, w_astore_n_s, w_dstore, w_iinc, w_iadd, w_isub, w_imul, w_iand, w_iushr, v_idiv, v_irem, w_ineg, w_i2l, w_i2c, w_i2f, w_i2d, v_f2d, w_lcmp, w_dcmp, v_fdiv, v_ddiv, w_dup_i, w_dup_r, w_dup2, w_dup_x2, w_pop_i, w_pop_r, w_goto, w_switch, w_ret_i, v_ret_z, v_ret_c, w_ret_a, w_ret_s, w_ret_f, w_ret_d, w_ret_v, v_iaload, v_baload, v_caload, v_laload, v_aaload, v_iastore, v_bastore, v_castore, v_lastore, v_aastore, v_alen, v_newa, v_anewa, w_new, w_throw, w_dead, v_getf_i, v_getf_z, v_getf_r, v_putf_i, v_putf_z, v_putf_r, w_call0, w_call1, w_callv1, w_calli1, w_callt1, w_call2, w_callv2, w_calli2, w_callt2, w_call3, w_callv3, w_calli3, w_call4, w_callv4, w_calli4, w_call5, w_callv5, w_calli5, w_call6, w_callv6, w_calli6, w_call7, w_callv7, w_calli7, w_call8, w_callv8, w_calli8, c_if0_eq_t, c_if0_eq_f, c_if2_eq_t, c_if2_eq_f, c_if0_ne_t, c_if0_ne_f, c_if2_ne_t, c_if2_ne_f, c_if0_lt_t, c_if0_lt_f, c_if2_lt_t, c_if2_lt_f, c_if0_ge_t, c_if0_ge_f, c_if2_ge_t, c_if2_ge_f, c_if0_gt_t, c_if0_gt_f, c_if2_gt_t, c_if2_gt_f, c_if0_le_t, c_if0_le_f, c_if2_le_t, c_if2_le_f, w_nil, uI_s, uA_r, uA_s, uD_d, mPut_0, mCl_own, mCv_go, mCl_min, mCl_cpy, mCv_obj, mAct_len, mAct_chrc, mAft_v, mAft_n, mAft_x, mGet_0, mSet_0, mGet_1, mSet_1, mGet_2, mSet_2, mGet_3, mSet_3, mGet_4, mSet_4, mGet_5, mSet_5, mGet_6, mSet_6, mGet_7, mSet_7, mGet_8, mSet_8, mGet_9, mSet_9, mGet_10, mSet_10, mGet_11, mSet_11, mGet_12, mSet_12, mGet_13, mSet_13, yn_k hn, yn_0 hn, yn_16 hn, yn_k16 hn, yn_l16 hn, yn_e hn, yb_k hB, yb_4 hB, yb_5 hB, yb_6 hB, yb_7 hB, yb_k1 hB, yb_l1 hB, yb_k2 hB, yb_l2 hB, yb_k3 hB, yb_l3 hB, yb_k4 hB, yb_l4 hB, yb_p hB, yb_pk hB, yb_p1 hB, yb_pk1 hB, yb_pl1 hB, yb_p2 hB, yb_pk2 hB, yb_pl2 hB, yb_p3 hB, yb_pk3 hB, yb_pl3 hB, yb_r hB, yb_rk hB, yb_r3 hB, yb_rk3 hB, yb_rl3 hB, yb_r4 hB, yb_rk4 hB, yb_rl4 hB, yb_g hB, yb_gk hB, yb_g7 hB, yb_gk7 hB, yb_gl7 hB, yb_g8 hB, yb_gk8 hB, yb_gl8 hB, yb_g9 hB, yb_gk9 hB, yb_gl9 hB, yb_g10 hB, yb_gk10 hB, yb_gl10 hB, e1, wr]
    have htd : I1 n 1 ≤ (zPo I0 b o * 8 + w) % 8 := by rw [f1 n (by omega), p3]; omega
    refine p_bring2 (D := D) hn hS1 (by omega) (by omega) htd (by omega) (fun x I2 x0 x1 hS2 fr2 set2 low2 last2 => ?_)
    have hx : x ≤ ask o w := by omega
    have hnode : 8 * zPo I0 b o + w = zPo I0 b o * 8 + w := by omega
    have fr2' := fr2.1
    have eN2 : nN I2 n = N0 := by
      rw [nN_5 fr2]
      unfold nN
      rw [f1 n (by omega), f1 (n + 1) (by omega), f1 (n + 2) (by omega), f1 (n + 3) (by omega), f1 (n + 4) (by omega), f1 (n + 7) (by omega)]
      exact p2
    have e6 : ∀ a : Int, 0 ≤ a → a < 120 → I2 (n + 6) a = 0 := fun a a0 a1 => by
      rw [fr2' _ (by omega) (by omega) (by omega) (by omega) (by omega) (by omega) (by omega), f1 _ (by omega)]; exact p4 a a0 a1
    have eK : ∀ a : Int, a < n ∨ n + 15 ≤ a → a ≠ e → I2 a = I a := fun a a0 a1 => by
      rw [fr2' _ (by omega) (by omega) (by omega) (by omega) (by omega) (by omega) (by omega), f1 _ a1]
    have e14 : I2 (n + 14) = I (n + 14) := by rw [fr2' _ (by omega) (by omega) (by omega) (by omega) (by omega) (by omega) (by omega), f1 _ (by omega)]
    have en1 : I2 n 1 = I n 1 := by rw [fr2.2 1 (by decide), f1 n (by omega)]
    have e9 : I2 (n + 9) = I1 (n + 9) := fr2' _ (by omega) (by omega) (by omega) (by omega) (by omega) (by omega) (by omega)
    -- the amounts with the new one
    have hA : ∀ J : mN, J = mUp I2 (b + (56 + 5 * o) + 3) (s * 8 + w) x → (∀ o' t : Int, 0 ≤ o' → o' < (I0 b 3).toNat → I0 b 0 ≤ t → 0 ≤ t → t < 8 → (rk o' < k ∨ (rk o' = k ∧ t < w)) → zAm I b s o' t = zAm J b s o' t) ∧ zAm J b s o w = x := by
      intro J hJ
      refine ⟨fun o' t a0 a1 t0 t1 t2 hc => ?_, ?_⟩
      · show I (b + (56 + 5 * o') + 3) (s * 8 + t) = J (b + (56 + 5 * o') + 3) (s * 8 + t)
        by_cases hoo : o' = o
        · rw [hoo] at hc ⊢
          rw [hJ, up_nk (by omega), eK _ (by omega) (by omega)]
        · rw [hJ, up_na (by omega), eK _ (by omega) (by omega)]
      · show J (b + (56 + 5 * o) + 3) (s * 8 + w) = x
        rw [hJ, up_eq rfl rfl]
    obtain ⟨hA1, hA2⟩ := hA _ rfl
    have hDm : zAt (zD (I0 b 3).toNat (I0 b 0) rk (zPo I0 b) (zAm I b s) k w) (zPo I0 b o * 8 + w) x = zD (I0 b 3).toNat (I0 b 0) rk (zPo I0 b) (zAm (mUp I2 (b + (56 + 5 * o) + 3) (s * 8 + w) x) b s) k (w + 1) := by
      funext v
      have h9 := zD_step (n := (I0 b 3).toNat) (td := I0 b 0) (rk := rk) (pl := zPo I0 b) (am := zAm (mUp I2 (b + (56 + 5 * o) + 3) (s * 8 + w) x) b s) (fun o o' q0 q1 q2 q3 => hinj o o' q0 (by omega) q2 (by omega)) o0 (by omega) w0 (by omega) (show w < 8 by omega) v
      rw [ho, hA2, hnode] at h9
      rw [h9]
      unfold zAt
      rw [zD_congr hA1 v]
    -- the rest, with the dry nodes as they come
    have fin : ∀ (J : mN) (x7 x8 : Option mV), J n = I2 n → (∀ a : Int, a ≠ n + 9 → a ≠ b + (56 + 5 * o) + 3 → J a = I2 a) → J (b + (56 + 5 * o) + 3) = (mUp I2 (b + (56 + 5 * o) + 3) (s * 8 + w) x) (b + (56 + 5 * o) + 3) → (∀ v : Int, 0 ≤ v → v < 48 → J (n + 9) v = 0 ∨ J (n + 9) v = 1) → nClo N0 (I2 (n + 5)) (I2 (n + 6)) (I2 (n + 8)) (nDr (J (n + 9))) → (x < ask o w → nDr (J (n + 9)) (zPo I0 b o * 8 + w) = true) → mAt (mRun (D + 4)) 37 45 ([some (mR n), some (mR b), some (mI s), some (mI k), some (mR (b + (56 + 5 * o))), some (mI (w + 1)), some (mI (ask o w)), x7, x8], [], J, S) Q := by
      intro J x7 x8 j0 j1 j2 j3 j4 j5
      have eJ : ∀ a : Int, a < n ∨ n + 15 ≤ a → a ≠ e → a ≠ b + (56 + 5 * o) + 3 → J a = I a := fun a a0 a1 a2 => by rw [j1 a (by omega) a2]; exact eK a a0 a1
      have eA : ∀ o' t : Int, 0 ≤ o' → o' < 10 → zAm J b s o' t = zAm (mUp I2 (b + (56 + 5 * o) + 3) (s * 8 + w) x) b s o' t := by
        intro o' t q0 q1
        show J (b + (56 + 5 * o') + 3) (s * 8 + t) = (mUp I2 (b + (56 + 5 * o) + 3) (s * 8 + w) x) (b + (56 + 5 * o') + 3) (s * 8 + t)
        by_cases hoo : o' = o
        · rw [hoo, j2]
        · rw [up_na (by omega), j1 _ (by omega) (by omega)]
      have eD : zD (I0 b 3).toNat (I0 b 0) rk (zPo I0 b) (zAm J b s) k (w + 1) = zD (I0 b 3).toNat (I0 b 0) rk (zPo I0 b) (zAm (mUp I2 (b + (56 + 5 * o) + 3) (s * 8 + w) x) b s) k (w + 1) := funext (fun v => zD_congr (fun o' t q0 q1 _ _ _ _ => eA o' t q0 (by omega)) v)
      have eNJ : nN J n = N0 := by
        rw [← eN2]
        unfold nN
        rw [j0, j1 (n + 1) (by omega) (by omega), j1 (n + 2) (by omega) (by omega), j1 (n + 3) (by omega) (by omega), j1 (n + 4) (by omega) (by omega), j1 (n + 7) (by omega) (by omega)]
      obtain ⟨⟨g1, g2, g3, g4⟩, g5, g6, g7, g8⟩ := id hS2
      rw [eN2] at g5 g6 g7
      have hSJ : nSt J n (zD (I0 b 3).toNat (I0 b 0) rk (zPo I0 b) (zAm J b s) k (w + 1)) := by
        rw [eD, ← hDm]
        unfold nSt nOldQ
        rw [eNJ, j0, j1 (n + 1) (by omega) (by omega), j1 (n + 2) (by omega) (by omega), j1 (n + 3) (by omega) (by omega), j1 (n + 4) (by omega) (by omega), j1 (n + 5) (by omega) (by omega), j1 (n + 6) (by omega) (by omega), j1 (n + 8) (by omega) (by omega), j1 (n + 10) (by omega) (by omega), j1 (n + 11) (by omega) (by omega)]
        exact ⟨⟨g1, g2, g3, j3⟩, g5, g6, j4, g8⟩
      refine l_plan1 (hE := hE) hn hB hd he hbd s0 s1 hask hak hpo hinj k0 k1 o0 o1 ho c (by omega) (by omega) ⟨hSJ, eNJ, by rw [j0, en1]; exact p3, fun a a0 a1 => by rw [j1 (n + 6) (by omega) (by omega)]; exact e6 a a0 a1, fun j q0 q1 => by rw [j1 (n + 14) (by omega) (by omega), e14]; exact p5 j q0 q1, ?_, fun a a0 a1 a2 => by rw [eJ a a0 a1 (a2 o o0 (by omega))]; exact p7 a a0 a1 a2, fun i i0 i1 j hj => ?_⟩ kk
      · refine zPl_step (o := o) (zPl_congr p6 (fun o' t q0 q1 q2 q3 q4 q5 => by rw [eA o' t q0 (by omega)]; exact hA1 o' t q0 q1 q2 q3 q4 q5)) (fun o o' q0 q1 q2 q3 => hinj o o' q0 (by omega) q2 (by omega)) o0 (by omega) ho (by rw [eA o w o0 (by omega), hA2]; exact ⟨x0, hx⟩) ?_ (fun h9 => ?_)
        · rw [eD, ← hDm]
          exact ⟨I2 (n + 5), g5.1, fun v v0 v1 => by have := g6 v v0 v1; omega⟩
        · rw [eD, ← hDm, hnode]
          rw [eA o w o0 (by omega), hA2] at h9
          have hwf : zWf N0 := by rw [← eN2]; exact nWf_zWf g1 (fun a a0 a1 => (g2 a a0 a1).1)
          exact nClo_full hwf j4 e6 g6 (by omega) (by omega) (j5 h9)
      · by_cases hio : i = o
        · rw [hio] at hj ⊢
          rw [j2, up_nk (by omega), eK _ (by omega) (by omega)]
          exact p8 o o0 (by omega) j hj
        · rw [eJ _ (by omega) (by omega) (by omega)]
          exact p8 i i0 i1 j hj
    have hbs : b + (56 + 5 * o) + 3 ≠ n + 9 := by omega
    by_cases hlt : x < ask o w
    · rcases last2 hlt with hdr | ⟨hdr, hq, hcl⟩
      · have hdr2 : I2 (n + 9) (zPo I0 b o * 8 + w) = 1 := by rw [e9]; exact hdr
        simp (disch := first | omega | exact Nat.le_of_ble_eq_true rfl | (simp (disch := omega) only [yn_k hn, yn_0 hn, yn_16 hn, yn_k16 hn, yn_l16 hn, yn_e hn, yn_10 hn, yn_k10 hn, yn_l10 hn, yb_k hB, yb_4 hB, yb_5 hB, yb_6 hB, yb_7 hB, yb_k1 hB, yb_l1 hB, yb_k2 hB, yb_l2 hB, yb_k3 hB, yb_l3 hB, yb_k4 hB, yb_l4 hB, yb_p hB, yb_pk hB, yb_p1 hB, yb_pk1 hB, yb_pl1 hB, yb_p2 hB, yb_pk2 hB, yb_pl2 hB, yb_p3 hB, yb_pk3 hB, yb_pl3 hB, yb_r hB, yb_rk hB, yb_r3 hB, yb_rk3 hB, yb_rl3 hB, yb_r4 hB, yb_rk4 hB, yb_rl4 hB, yb_g hB, yb_gk hB, yb_g7 hB, yb_gk7 hB, yb_gl7 hB, yb_g8 hB, yb_gk8 hB, yb_gl8 hB, yb_g9 hB, yb_gk9 hB, yb_gl9 hB, yb_g10 hB, yb_gk10 hB, yb_gl10 hB, up_fa] <;> omega)) only [w_iconst, w_bipush, w_sipush, w_ldc_s, w_ldcw_s, w_ldc_i, w_ldcw_i, w_lconst, w_fconst, w_dconst, w_iload, w_iload_n, w_aload, w_aload_n, w_dload, w_istore, w_istore_n, w_astore_r, w_astore_s, w_astore_n_r, w_astore_n_s, w_dstore, w_iinc, w_iadd, w_isub, w_imul, w_iand, w_iushr, v_idiv, v_irem, w_ineg, w_i2l, w_i2c, w_i2f, w_i2d, v_f2d, w_lcmp, w_dcmp, v_fdiv, v_ddiv, w_dup_i, w_dup_r, w_dup2, w_dup_x2, w_pop_i, w_pop_r, w_goto, w_switch, w_ret_i, v_ret_z, v_ret_c, w_ret_a, w_ret_s, w_ret_f, w_ret_d, w_ret_v, v_iaload, v_baload, v_caload, v_laload, v_aaload, v_iastore, v_bastore, v_castore, v_lastore, v_aastore, v_alen, v_newa, v_anewa, w_new, w_throw, w_dead, v_getf_i, v_getf_z, v_getf_r, v_putf_i, v_putf_z, v_putf_r, w_call0, w_call1, w_callv1, w_calli1, w_callt1, w_call2, w_callv2, w_calli2, w_callt2, w_call3, w_callv3, w_calli3, w_call4, w_callv4, w_calli4, w_call5, w_callv5, w_calli5, w_call6, w_callv6, w_calli6, w_call7, w_callv7, w_calli7, w_call8, w_callv8, w_calli8, c_if0_eq_t, c_if0_eq_f, c_if2_eq_t, c_if2_eq_f, c_if0_ne_t, c_if0_ne_f, c_if2_ne_t, c_if2_ne_f, c_if0_lt_t, c_if0_lt_f, c_if2_lt_t, c_if2_lt_f, c_if0_ge_t, c_if0_ge_f, c_if2_ge_t, c_if2_ge_f, c_if0_gt_t, c_if0_gt_f, c_if2_gt_t, c_if2_gt_f, c_if0_le_t, c_if0_le_f, c_if2_le_t, c_if2_le_f, w_nil, uI_s, uA_r, uA_s, uD_d, mPut_0, mCl_own, mCv_go, mCl_min, mCl_cpy, mCv_obj, mAct_len, mAct_chrc, mAft_v, mAft_n, mAft_x, mGet_0, mSet_0, mGet_1, mSet_1, mGet_2, mSet_2, mGet_3, mSet_3, mGet_4, mSet_4, mGet_5, mSet_5, mGet_6, mSet_6, mGet_7, mSet_7, mGet_8, mSet_8, mGet_9, mSet_9, mGet_10, mSet_10, mGet_11, mSet_11, mGet_12, mSet_12, mGet_13, mSet_13, a_Ne_plan_130, bk_Ne_plan_130, yn_k hn, yn_0 hn, yn_16 hn, yn_k16 hn, yn_l16 hn, yn_e hn, yn_10 hn, yn_k10 hn, yn_l10 hn, yb_k hB, yb_4 hB, yb_5 hB, yb_6 hB, yb_7 hB, yb_k1 hB, yb_l1 hB, yb_k2 hB, yb_l2 hB, yb_k3 hB, yb_l3 hB, yb_k4 hB, yb_l4 hB, yb_p hB, yb_pk hB, yb_p1 hB, yb_pk1 hB, yb_pl1 hB, yb_p2 hB, yb_pk2 hB, yb_pl2 hB, yb_p3 hB, yb_pk3 hB, yb_pl3 hB, yb_r hB, yb_rk hB, yb_r3 hB, yb_rk3 hB, yb_rl3 hB, yb_r4 hB, yb_rk4 hB, yb_rl4 hB, yb_g hB, yb_gk hB, yb_g7 hB, yb_gk7 hB, yb_gl7 hB, yb_g8 hB, yb_gk8 hB, yb_gl8 hB, yb_g9 hB, yb_gk9 hB, yb_gl9 hB, yb_g10 hB, yb_gk10 hB, yb_gl10 hB, up_fa, wr]
        refine fin _ _ _ (up_fa (by omega)) (fun a a1 a2 => up_fa a2) rfl (by rw [up_fa (by omega)]; exact hS2.1.2.2.2) (by rw [up_fa (by omega)]; have := hS2.2.2.2.1; rw [eN2] at this; exact this) (fun _ => decide_eq_true (by rw [up_fa (by omega)]; omega))
      · have hdr2 : I2 (n + 9) (zPo I0 b o * 8 + w) = 0 := by rw [e9]; exact hdr
        have hoq := nQ_old hq
        simp (disch := first | omega | exact Nat.le_of_ble_eq_true rfl | (simp (disch := omega) only [yn_k hn, yn_0 hn, yn_16 hn, yn_k16 hn, yn_l16 hn, yn_e hn, yn_10 hn, yn_k10 hn, yn_l10 hn, yb_k hB, yb_4 hB, yb_5 hB, yb_6 hB, yb_7 hB, yb_k1 hB, yb_l1 hB, yb_k2 hB, yb_l2 hB, yb_k3 hB, yb_l3 hB, yb_k4 hB, yb_l4 hB, yb_p hB, yb_pk hB, yb_p1 hB, yb_pk1 hB, yb_pl1 hB, yb_p2 hB, yb_pk2 hB, yb_pl2 hB, yb_p3 hB, yb_pk3 hB, yb_pl3 hB, yb_r hB, yb_rk hB, yb_r3 hB, yb_rk3 hB, yb_rl3 hB, yb_r4 hB, yb_rk4 hB, yb_rl4 hB, yb_g hB, yb_gk hB, yb_g7 hB, yb_gk7 hB, yb_gl7 hB, yb_g8 hB, yb_gk8 hB, yb_gl8 hB, yb_g9 hB, yb_gk9 hB, yb_gl9 hB, yb_g10 hB, yb_gk10 hB, yb_gl10 hB, up_fa] <;> omega)) only [w_iconst, w_bipush, w_sipush, w_ldc_s, w_ldcw_s, w_ldc_i, w_ldcw_i, w_lconst, w_fconst, w_dconst, w_iload, w_iload_n, w_aload, w_aload_n, w_dload, w_istore, w_istore_n, w_astore_r, w_astore_s, w_astore_n_r, w_astore_n_s, w_dstore, w_iinc, w_iadd, w_isub, w_imul, w_iand, w_iushr, v_idiv, v_irem, w_ineg, w_i2l, w_i2c, w_i2f, w_i2d, v_f2d, w_lcmp, w_dcmp, v_fdiv, v_ddiv, w_dup_i, w_dup_r, w_dup2, w_dup_x2, w_pop_i, w_pop_r, w_goto, w_switch, w_ret_i, v_ret_z, v_ret_c, w_ret_a, w_ret_s, w_ret_f, w_ret_d, w_ret_v, v_iaload, v_baload, v_caload, v_laload, v_aaload, v_iastore, v_bastore, v_castore, v_lastore, v_aastore, v_alen, v_newa, v_anewa, w_new, w_throw, w_dead, v_getf_i, v_getf_z, v_getf_r, v_putf_i, v_putf_z, v_putf_r, w_call0, w_call1, w_callv1, w_calli1, w_callt1, w_call2, w_callv2, w_calli2, w_callt2, w_call3, w_callv3, w_calli3, w_call4, w_callv4, w_calli4, w_call5, w_callv5, w_calli5, w_call6, w_callv6, w_calli6, w_call7, w_callv7, w_calli7, w_call8, w_callv8, w_calli8, c_if0_eq_t, c_if0_eq_f, c_if2_eq_t, c_if2_eq_f, c_if0_ne_t, c_if0_ne_f, c_if2_ne_t, c_if2_ne_f, c_if0_lt_t, c_if0_lt_f, c_if2_lt_t, c_if2_lt_f, c_if0_ge_t, c_if0_ge_f, c_if2_ge_t, c_if2_ge_f, c_if0_gt_t, c_if0_gt_f, c_if2_gt_t, c_if2_gt_f, c_if0_le_t, c_if0_le_f, c_if2_le_t, c_if2_le_f, w_nil, uI_s, uA_r, uA_s, uD_d, mPut_0, mCl_own, mCv_go, mCl_min, mCl_cpy, mCv_obj, mAct_len, mAct_chrc, mAft_v, mAft_n, mAft_x, mGet_0, mSet_0, mGet_1, mSet_1, mGet_2, mSet_2, mGet_3, mSet_3, mGet_4, mSet_4, mGet_5, mSet_5, mGet_6, mSet_6, mGet_7, mSet_7, mGet_8, mSet_8, mGet_9, mSet_9, mGet_10, mSet_10, mGet_11, mSet_11, mGet_12, mSet_12, mGet_13, mSet_13, yn_k hn, yn_0 hn, yn_16 hn, yn_k16 hn, yn_l16 hn, yn_e hn, yn_10 hn, yn_k10 hn, yn_l10 hn, yb_k hB, yb_4 hB, yb_5 hB, yb_6 hB, yb_7 hB, yb_k1 hB, yb_l1 hB, yb_k2 hB, yb_l2 hB, yb_k3 hB, yb_l3 hB, yb_k4 hB, yb_l4 hB, yb_p hB, yb_pk hB, yb_p1 hB, yb_pk1 hB, yb_pl1 hB, yb_p2 hB, yb_pk2 hB, yb_pl2 hB, yb_p3 hB, yb_pk3 hB, yb_pl3 hB, yb_r hB, yb_rk hB, yb_r3 hB, yb_rk3 hB, yb_rl3 hB, yb_r4 hB, yb_rk4 hB, yb_rl4 hB, yb_g hB, yb_gk hB, yb_g7 hB, yb_gk7 hB, yb_gl7 hB, yb_g8 hB, yb_gk8 hB, yb_gl8 hB, yb_g9 hB, yb_gk9 hB, yb_gl9 hB, yb_g10 hB, yb_gk10 hB, yb_gl10 hB, up_fa, wr]
        refine p_mark (D + 3) hn (by unfold nOldQ at hoq ⊢; rw [up_fa (by omega), up_fa (by omega), up_fa (by omega)]; exact hoq) (fun dr' m1 m2 => ?_)
        rw [up_fa (by omega), up_fa (by omega), up_fa (by omega)] at m1
        rw [up_fa (by omega), up_fa (by omega)] at m2
        simp (disch := first | omega | exact Nat.le_of_ble_eq_true rfl) only [w_iconst, w_bipush, w_sipush, w_ldc_s, w_ldcw_s, w_ldc_i, w_ldcw_i, w_lconst, w_fconst, w_dconst, w_iload, w_iload_n, w_aload, w_aload_n, w_dload, w_istore, w_istore_n, w_astore_r, w_astore_s, w_astore_n_r, w_astore_n_s, w_dstore, w_iinc, w_iadd, w_isub, w_imul, w_iand, w_iushr, v_idiv, v_irem, w_ineg, w_i2l, w_i2c, w_i2f, w_i2d, v_f2d, w_lcmp, w_dcmp, v_fdiv, v_ddiv, w_dup_i, w_dup_r, w_dup2, w_dup_x2, w_pop_i, w_pop_r, w_goto, w_switch, w_ret_i, v_ret_z, v_ret_c, w_ret_a, w_ret_s, w_ret_f, w_ret_d, w_ret_v, v_iaload, v_baload, v_caload, v_laload, v_aaload, v_iastore, v_bastore, v_castore, v_lastore, v_aastore, v_alen, v_newa, v_anewa, w_new, w_throw, w_dead, v_getf_i, v_getf_z, v_getf_r, v_putf_i, v_putf_z, v_putf_r, w_call0, w_call1, w_callv1, w_calli1, w_callt1, w_call2, w_callv2, w_calli2, w_callt2, w_call3, w_callv3, w_calli3, w_call4, w_callv4, w_calli4, w_call5, w_callv5, w_calli5, w_call6, w_callv6, w_calli6, w_call7, w_callv7, w_calli7, w_call8, w_callv8, w_calli8, c_if0_eq_t, c_if0_eq_f, c_if2_eq_t, c_if2_eq_f, c_if0_ne_t, c_if0_ne_f, c_if2_ne_t, c_if2_ne_f, c_if0_lt_t, c_if0_lt_f, c_if2_lt_t, c_if2_lt_f, c_if0_ge_t, c_if0_ge_f, c_if2_ge_t, c_if2_ge_f, c_if0_gt_t, c_if0_gt_f, c_if2_gt_t, c_if2_gt_f, c_if0_le_t, c_if0_le_f, c_if2_le_t, c_if2_le_f, w_nil, uI_s, uA_r, uA_s, uD_d, mPut_0, mCl_own, mCv_go, mCl_min, mCl_cpy, mCv_obj, mAct_len, mAct_chrc, mAft_v, mAft_n, mAft_x, mGet_0, mSet_0, mGet_1, mSet_1, mGet_2, mSet_2, mGet_3, mSet_3, mGet_4, mSet_4, mGet_5, mSet_5, mGet_6, mSet_6, mGet_7, mSet_7, mGet_8, mSet_8, mGet_9, mSet_9, mGet_10, mSet_10, mGet_11, mSet_11, mGet_12, mSet_12, mGet_13, mSet_13, a_Ne_plan_130, bk_Ne_plan_130, wr]
        have hd9 := hS2.1.2.2.2
        refine fin _ _ _ (by rw [ua_ne (by omega), up_fa (by omega)]) (fun a a1 a2 => by rw [ua_ne a1, up_fa a2]) (by rw [ua_ne hbs]) (fun v v0 v1 => ?_) ?_ (fun _ => ?_)
        · rw [ua_eq rfl]
          rcases m1 v with h9 | ⟨h9, -⟩
          · rw [h9]; exact hd9 v v0 v1
          · exact Or.inr h9
        · rw [ua_eq rfl]
          rw [eN2] at hcl
          refine nClo_c (by rw [← eN2]; exact nWf_ends hS2.1.1) hcl (fun v v0 v1 => ?_)
          unfold nDR nDr
          refine decide_eq_decide.mpr ⟨fun h9 => ?_, fun h9 => ?_⟩
          · rcases h9 with h9 | h9
            · rcases m1 v with h8 | ⟨h8, -⟩
              · rw [h8]; exact h9
              · rw [h8]; decide
            · obtain ⟨i, i0, i1, i2⟩ := hq.2.2.2.2.2.1 v v0 v1 h9
              rw [← i2, m2 i i0 i1]; decide
          · rcases m1 v with h8 | ⟨h8, i, i0, i1, i2⟩
            · rw [h8] at h9; exact Or.inl h9
            · rw [← i2]; exact Or.inr (hq.2.2.2.2.1 i i0 i1).2
        · rw [ua_eq rfl]
          refine decide_eq_true ?_
          have := m2 0 (Int.le_refl 0) (by have := hq.1.1; omega)
          rw [hq.2.1] at this
          rw [this]; decide
    · simp (disch := first | omega | exact Nat.le_of_ble_eq_true rfl | (simp (disch := omega) only [yn_k hn, yn_0 hn, yn_16 hn, yn_k16 hn, yn_l16 hn, yn_e hn, yn_10 hn, yn_k10 hn, yn_l10 hn, yb_k hB, yb_4 hB, yb_5 hB, yb_6 hB, yb_7 hB, yb_k1 hB, yb_l1 hB, yb_k2 hB, yb_l2 hB, yb_k3 hB, yb_l3 hB, yb_k4 hB, yb_l4 hB, yb_p hB, yb_pk hB, yb_p1 hB, yb_pk1 hB, yb_pl1 hB, yb_p2 hB, yb_pk2 hB, yb_pl2 hB, yb_p3 hB, yb_pk3 hB, yb_pl3 hB, yb_r hB, yb_rk hB, yb_r3 hB, yb_rk3 hB, yb_rl3 hB, yb_r4 hB, yb_rk4 hB, yb_rl4 hB, yb_g hB, yb_gk hB, yb_g7 hB, yb_gk7 hB, yb_gl7 hB, yb_g8 hB, yb_gk8 hB, yb_gl8 hB, yb_g9 hB, yb_gk9 hB, yb_gl9 hB, yb_g10 hB, yb_gk10 hB, yb_gl10 hB, up_fa] <;> omega)) only [w_iconst, w_bipush, w_sipush, w_ldc_s, w_ldcw_s, w_ldc_i, w_ldcw_i, w_lconst, w_fconst, w_dconst, w_iload, w_iload_n, w_aload, w_aload_n, w_dload, w_istore, w_istore_n, w_astore_r, w_astore_s, w_astore_n_r, w_astore_n_s, w_dstore, w_iinc, w_iadd, w_isub, w_imul, w_iand, w_iushr, v_idiv, v_irem, w_ineg, w_i2l, w_i2c, w_i2f, w_i2d, v_f2d, w_lcmp, w_dcmp, v_fdiv, v_ddiv, w_dup_i, w_dup_r, w_dup2, w_dup_x2, w_pop_i, w_pop_r, w_goto, w_switch, w_ret_i, v_ret_z, v_ret_c, w_ret_a, w_ret_s, w_ret_f, w_ret_d, w_ret_v, v_iaload, v_baload, v_caload, v_laload, v_aaload, v_iastore, v_bastore, v_castore, v_lastore, v_aastore, v_alen, v_newa, v_anewa, w_new, w_throw, w_dead, v_getf_i, v_getf_z, v_getf_r, v_putf_i, v_putf_z, v_putf_r, w_call0, w_call1, w_callv1, w_calli1, w_callt1, w_call2, w_callv2, w_calli2, w_callt2, w_call3, w_callv3, w_calli3, w_call4, w_callv4, w_calli4, w_call5, w_callv5, w_calli5, w_call6, w_callv6, w_calli6, w_call7, w_callv7, w_calli7, w_call8, w_callv8, w_calli8, c_if0_eq_t, c_if0_eq_f, c_if2_eq_t, c_if2_eq_f, c_if0_ne_t, c_if0_ne_f, c_if2_ne_t, c_if2_ne_f, c_if0_lt_t, c_if0_lt_f, c_if2_lt_t, c_if2_lt_f, c_if0_ge_t, c_if0_ge_f, c_if2_ge_t, c_if2_ge_f, c_if0_gt_t, c_if0_gt_f, c_if2_gt_t, c_if2_gt_f, c_if0_le_t, c_if0_le_f, c_if2_le_t, c_if2_le_f, w_nil, uI_s, uA_r, uA_s, uD_d, mPut_0, mCl_own, mCv_go, mCl_min, mCl_cpy, mCv_obj, mAct_len, mAct_chrc, mAft_v, mAft_n, mAft_x, mGet_0, mSet_0, mGet_1, mSet_1, mGet_2, mSet_2, mGet_3, mSet_3, mGet_4, mSet_4, mGet_5, mSet_5, mGet_6, mSet_6, mGet_7, mSet_7, mGet_8, mSet_8, mGet_9, mSet_9, mGet_10, mSet_10, mGet_11, mSet_11, mGet_12, mSet_12, mGet_13, mSet_13, a_Ne_plan_130, bk_Ne_plan_130, yn_k hn, yn_0 hn, yn_16 hn, yn_k16 hn, yn_l16 hn, yn_e hn, yn_10 hn, yn_k10 hn, yn_l10 hn, yb_k hB, yb_4 hB, yb_5 hB, yb_6 hB, yb_7 hB, yb_k1 hB, yb_l1 hB, yb_k2 hB, yb_l2 hB, yb_k3 hB, yb_l3 hB, yb_k4 hB, yb_l4 hB, yb_p hB, yb_pk hB, yb_p1 hB, yb_pk1 hB, yb_pl1 hB, yb_p2 hB, yb_pk2 hB, yb_pl2 hB, yb_p3 hB, yb_pk3 hB, yb_pl3 hB, yb_r hB, yb_rk hB, yb_r3 hB, yb_rk3 hB, yb_rl3 hB, yb_r4 hB, yb_rk4 hB, yb_rl4 hB, yb_g hB, yb_gk hB, yb_g7 hB, yb_gk7 hB, yb_gl7 hB, yb_g8 hB, yb_gk8 hB, yb_gl8 hB, yb_g9 hB, yb_gk9 hB, yb_gl9 hB, yb_g10 hB, yb_gk10 hB, yb_gl10 hB, up_fa, wr]
      refine fin _ _ _ (up_fa (by omega)) (fun a a1 a2 => up_fa a2) rfl (by rw [up_fa (by omega)]; exact hS2.1.2.2.2) (by rw [up_fa (by omega)]; have := hS2.2.2.2.1; rw [eN2] at this; exact this) (fun h9 => absurd h9 hlt)
end PP
