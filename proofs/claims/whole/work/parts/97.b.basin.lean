/-! A basin holds a state. -/
/-- the cells of every basin are within bounds -/
def yOk (I : mN) (b : Int) : Prop := yBd I b ∧ (∀ r : Int, 0 ≤ r → r < 10 → (0 ≤ I (b + (56 + 5 * r)) 6 ∧ I (b + (56 + 5 * r)) 6 ≤ 1) ∧ (0 ≤ I (b + (56 + 5 * r)) 11 ∧ I (b + (56 + 5 * r)) 11 ≤ 60) ∧ (∀ j : Int, 0 ≤ j → j < 60 → -1000000 ≤ I (b + (56 + 5 * r) + 4) j ∧ I (b + (56 + 5 * r) + 4) j ≤ 1000000) ∧ ∀ j : Int, 0 ≤ j → j < 24 → 0 ≤ I (b + (56 + 5 * r) + 3) j ∧ I (b + (56 + 5 * r) + 3) j ≤ 1000) ∧ (∀ r : Int, 0 ≤ r → r < I b 3 → 0 ≤ I (b + (56 + 5 * r)) 0 ∧ I (b + (56 + 5 * r)) 0 < I b 1) ∧ (∀ s : Int, 0 ≤ s → s < 3 → I (b + 4) s = 0 ∨ I (b + 4) s = 1) ∧ (I b 8 = 0 ∨ (I b 8 = 1 ∧ I (b + 4) 0 = 1))
def ySp (I : mN) (b : Int) (σ : sT) : Prop := ∀ p : Int, 0 ≤ p → p < σ 1 → I (b + (5 + 4 * p)) 0 = σ (4 + 2 * p) ∧ I (b + (5 + 4 * p) + 1) (σ 0) = σ (5 + 2 * p) ∧ (∀ w : Int, 0 ≤ w → w < σ 0 → w < 8 → I (b + (5 + 4 * p) + 1) w = σ (1299 + 8 * p + w) ∧ I (b + (5 + 4 * p) + 2) w = σ (1347 + 8 * p + w)) ∧ ∀ s w : Int, 0 ≤ s → s < 3 → 0 ≤ w → w < 8 → I (b + (5 + 4 * p) + 3) (s * 8 + w) = σ (115 + 48 * s + 8 * p + w)
def ySr (I : mN) (b : Int) (σ : sT) : Prop := ∀ r : Int, 0 ≤ r → r < σ 2 → (I (b + (29 + 3 * r)) 0 = σ (16 + 11 * r) ∧ I (b + (29 + 3 * r)) 1 = σ (17 + 11 * r) ∧ I (b + (29 + 3 * r)) 2 = σ (18 + 11 * r)) ∧ (∀ w : Int, 0 ≤ w → w < 8 → I (b + (29 + 3 * r) + 1) w = σ (19 + 11 * r + w)) ∧ ∀ w : Int, 0 ≤ w → w < σ 0 → w < 8 → I (b + (29 + 3 * r) + 2) w = σ (1227 + 8 * r + w)
def ySi (I : mN) (b : Int) (σ : sT) : Prop := ∀ i : Int, 0 ≤ i → i < σ 3 → (I (b + (56 + 5 * i)) 0 = σ (259 + 76 * i) ∧ I (b + (56 + 5 * i)) 1 = σ (260 + 76 * i) ∧ I (b + (56 + 5 * i)) 2 = σ (261 + 76 * i) ∧ I (b + (56 + 5 * i)) 3 = σ (262 + 76 * i) ∧ I (b + (56 + 5 * i)) 4 = σ (263 + 76 * i) ∧ I (b + (56 + 5 * i)) 5 = σ (264 + 76 * i) ∧ I (b + (56 + 5 * i)) 6 = σ (265 + 76 * i) ∧ I (b + (56 + 5 * i)) 11 = σ (266 + 76 * i)) ∧ (∀ w : Int, 0 ≤ w → w < 8 → I (b + (56 + 5 * i) + 1) w = σ (267 + 76 * i + w)) ∧ (∀ w : Int, 0 ≤ w → w < σ 0 → w < 8 → I (b + (56 + 5 * i) + 2) w = σ (1147 + 8 * i + w)) ∧ (∀ s w : Int, 0 ≤ s → s < 3 → 0 ≤ w → w < σ 0 → w < 8 → I (b + (56 + 5 * i) + 3) (s * 8 + w) = σ (1067 + 8 * i + w)) ∧ ∀ k : Int, 0 ≤ k → k < σ (266 + 76 * i) → I (b + (56 + 5 * i) + 4) k = cTk (σ (275 + 76 * i + k))
/-- what was planned is the plan -/
def ySa (I : mN) (b : Int) (σ : sT) : Prop := ∀ s : Int, 0 ≤ s → s < 3 → I (b + 4) s = 1 → ∀ i w : Int, 0 ≤ i → i < σ 3 → σ 0 ≤ w → w < 8 → I (b + (56 + 5 * i) + 3) (s * 8 + w) = sAm σ s i w
/-- the way that was found is the office's way -/
def ySw (I : mN) (b : Int) (σ : sT) : Prop := I b 8 = 1 → (∀ r w : Int, 0 ≤ r → r < σ 2 → σ 0 ≤ w → w < 8 → I (b + (29 + 3 * r) + 2) w = sSe σ r w) ∧ ∀ p w : Int, 0 ≤ p → p < σ 1 → σ 0 ≤ w → w < 8 → I (b + (5 + 4 * p) + 1) (w + 1) = sSt σ p (w + 1) ∧ I (b + (5 + 4 * p) + 2) w = sRa σ p w
def yS (I : mN) (b : Int) (σ : sT) : Prop := (I b 0 = σ 0 ∧ I b 1 = σ 1 ∧ I b 2 = σ 2 ∧ I b 3 = σ 3) ∧ ySp I b σ ∧ ySr I b σ ∧ ySi I b σ ∧ ySa I b σ ∧ ySw I b σ
/-- only the basin's cells count -/
theorem yS_k {I I' : mN} {b : Int} {σ : sT} (hw : sWf σ) (h : yS I b σ) (hk : yKp I I' b) : yS I' b σ := by
  obtain ⟨h1, h2, h3, h4, h5, h6⟩ := h
  obtain ⟨⟨-, w1, w2, w3⟩, -⟩ := hw
  have e0 : I' b = I b := hk b (by omega) (by omega)
  have e4 : I' (b + 4) = I (b + 4) := hk _ (by omega) (by omega)
  refine ⟨by rw [e0]; exact h1, fun p p0 p1 => ?_, fun r r0 r1 => ?_, fun i i0 i1 => ?_, fun s s0 s1 hs i w i0 i1 t0 t1 => ?_, fun h8 => ⟨fun r w r0 r1 t0 t1 => ?_, fun p w p0 p1 t0 t1 => ?_⟩⟩
  · rw [hk (b + (5 + 4 * p)) (by omega) (by omega), hk (b + (5 + 4 * p) + 1) (by omega) (by omega), hk (b + (5 + 4 * p) + 2) (by omega) (by omega), hk (b + (5 + 4 * p) + 3) (by omega) (by omega)]; exact h2 p p0 p1
  · rw [hk (b + (29 + 3 * r)) (by omega) (by omega), hk (b + (29 + 3 * r) + 1) (by omega) (by omega), hk (b + (29 + 3 * r) + 2) (by omega) (by omega)]; exact h3 r r0 r1
  · rw [hk (b + (56 + 5 * i)) (by omega) (by omega), hk (b + (56 + 5 * i) + 1) (by omega) (by omega), hk (b + (56 + 5 * i) + 2) (by omega) (by omega), hk (b + (56 + 5 * i) + 3) (by omega) (by omega), hk (b + (56 + 5 * i) + 4) (by omega) (by omega)]; exact h4 i i0 i1
  · rw [e4] at hs; rw [hk (b + (56 + 5 * i) + 3) (by omega) (by omega)]; exact h5 s s0 s1 hs i w i0 i1 t0 t1
  · rw [e0] at h8; rw [hk (b + (29 + 3 * r) + 2) (by omega) (by omega)]; exact (h6 h8).1 r w r0 r1 t0 t1
  · rw [e0] at h8; rw [hk (b + (5 + 4 * p) + 1) (by omega) (by omega), hk (b + (5 + 4 * p) + 2) (by omega) (by omega)]; exact (h6 h8).2 p w p0 p1 t0 t1
theorem yOk_k {I I' : mN} {b : Int} (h : yOk I b) (hk : yKp I I' b) : yOk I' b := by
  obtain ⟨h1, h2, h3, h4, h5⟩ := h
  have e0 : I' b = I b := hk b (by omega) (by omega)
  have e4 : I' (b + 4) = I (b + 4) := hk _ (by omega) (by omega)
  have c3 := h1.1.2.2.2
  refine ⟨yBd_k h1 hk, fun r r0 r1 => ?_, fun r r0 r1 => ?_, by rw [e4]; exact h4, by rw [e0, e4]; exact h5⟩
  · rw [hk (b + (56 + 5 * r)) (by omega) (by omega), hk (b + (56 + 5 * r) + 3) (by omega) (by omega), hk (b + (56 + 5 * r) + 4) (by omega) (by omega)]; exact h2 r r0 r1
  · rw [e0] at r1 ⊢; rw [hk (b + (56 + 5 * r)) (by omega) (by omega)]; exact h3 r r0 r1
section BS
variable {I : mN} {b : Int} {σ : sT}
theorem yS_su (hw : sWf σ) (h : yS I b σ) {s v : Int} (s0 : 0 ≤ s) (s1 : s < 3) (v0 : 0 ≤ v) (v1 : v < 48) : zSu I b s v = sSu σ s v := by
  obtain ⟨⟨h0, h1, h2, h3⟩, hp, hr, -⟩ := h
  obtain ⟨⟨w0, w1, w2, w3⟩, -, -, -, -, w6, -⟩ := hw
  unfold zSu ySu sSu
  rw [h0, h1, h2]
  by_cases c : σ 1 ≤ v / 8 ∨ v % 8 < σ 0
  · rw [if_pos c, if_pos c]
  · rw [if_neg c, if_neg c]
    obtain ⟨-, g2, g3, g4⟩ := hp (v / 8) (by omega) (by omega)
    rw [g4 s (v % 8) s0 s1 (by omega) (by omega), show 115 + 48 * s + 8 * (v / 8) + v % 8 = 115 + 48 * s + v by omega]
    have e1 : sm (σ 2).toNat (yCm I b (v / 8) (v % 8)) = σ (1019 + v) := by
      have h9 := w6 (v / 8) (v % 8) (by omega) (by omega) (by omega) (by omega)
      rw [show 1019 + 8 * (v / 8) + v % 8 = 1019 + v by omega] at h9
      rw [h9]
      refine sm_congr (fun r r0 r1 => ?_)
      obtain ⟨⟨a0, a1, a2⟩, -, a4⟩ := hr r r0 (by omega)
      unfold yCm
      rw [a1, a2, h0]
      by_cases cc : σ (17 + 11 * r) = v / 8 ∧ 0 ≤ v % 8 - σ (18 + 11 * r) ∧ v % 8 - σ (18 + 11 * r) < σ 0
      · rw [if_pos cc, if_pos cc]
        exact a4 _ cc.2.1 cc.2.2 (by omega)
      · rw [if_neg cc, if_neg cc]
    rw [e1]
    by_cases c2 : v % 8 = σ 0
    · rw [if_pos c2, if_pos c2, c2, g2]
    · rw [if_neg c2, if_neg c2]
theorem yS_ag (hw : sWf σ) (h : yS I b σ) {s : Int} (s0 : 0 ≤ s) (s1 : s < 3) : zAg (yNet I b s) (sNet σ s) := by
  refine ⟨fun a a0 a1 => ?_, fun v v0 v1 => yS_su hw h s0 s1 v0 v1⟩
  obtain ⟨⟨h0, h1, h2, h3⟩, hp, hr, -⟩ := h
  have e1 : zFr I b (a / 8) = sFr σ (a / 8) := by
    unfold zFr sFr
    rw [h1, h2]
    by_cases c9 : a / 8 < 9
    · rw [if_pos c9, if_pos c9]
      by_cases c2 : a / 8 < σ 2
      · rw [if_pos c2, if_pos c2]; exact (hr _ (by omega) c2).1.1
      · rw [if_neg c2, if_neg c2]
    · rw [if_neg c9, if_neg c9]
  have e2 : zTo I b (a / 8) = sTo σ (a / 8) := by
    unfold zTo sTo
    rw [h1, h2]
    by_cases c9 : a / 8 < 9
    · rw [if_pos c9, if_pos c9]
      by_cases c2 : a / 8 < σ 2
      · rw [if_pos c2, if_pos c2]; exact (hr _ (by omega) c2).1.2.1
      · rw [if_neg c2, if_neg c2]
    · rw [if_neg c9, if_neg c9]
  have e3 : sFr σ (a / 8) ≠ -1 → zTm I b (a / 8) = sTm σ (a / 8) ∧ zRm I b a = sRm σ a := fun hne => by
    unfold sFr at hne
    unfold zTm sTm zRm sRm
    by_cases c9 : a / 8 < 9
    · rw [if_pos c9] at hne
      by_cases c2 : a / 8 < σ 2
      · rw [if_pos c9, if_pos c9, if_pos (by omega), if_pos (by omega)]
        obtain ⟨⟨-, -, g1⟩, g2, -⟩ := hr _ (by omega) c2
        exact ⟨g1, g2 _ (by omega) (by omega)⟩
      · rw [if_neg c2] at hne; exact absurd rfl hne
    · rw [if_neg c9] at hne
      by_cases c2 : a / 8 - 9 < σ 1
      · rw [if_neg c9, if_neg c9, if_neg (by omega), if_neg (by omega)]
        exact ⟨rfl, (hp _ (by omega) c2).1⟩
      · rw [if_neg c2] at hne; exact absurd rfl hne
  have el : (yNet I b s).1 a = (sNet σ s).1 a := by
    show decide (zFr I b (a / 8) ≠ -1 ∧ I b 0 ≤ a % 8 ∧ a % 8 + zTm I b (a / 8) < 8) = decide (sFr σ (a / 8) ≠ -1 ∧ σ 0 ≤ a % 8 ∧ a % 8 + sTm σ (a / 8) < 8)
    rw [e1, h0]
    by_cases hne : sFr σ (a / 8) ≠ -1
    · rw [(e3 hne).1]
    · exact decide_eq_decide.mpr ⟨fun h9 => absurd h9.1 hne, fun h9 => absurd h9.1 hne⟩
  refine ⟨el, fun hl => ?_⟩
  have hl2 := el.symm.trans hl
  have hne : sFr σ (a / 8) ≠ -1 := (of_decide_eq_true (show decide (sFr σ (a / 8) ≠ -1 ∧ σ 0 ≤ a % 8 ∧ a % 8 + sTm σ (a / 8) < 8) = true from hl2)).1
  obtain ⟨e4, e5⟩ := e3 hne
  refine ⟨?_, ?_, e5⟩
  · show zFr I b (a / 8) * 8 + a % 8 = sFr σ (a / 8) * 8 + a % 8
    rw [e1]
  · show zTo I b (a / 8) * 8 + a % 8 + zTm I b (a / 8) = sTo σ (a / 8) * 8 + a % 8 + sTm σ (a / 8)
    rw [e2, e4]
theorem yS_rk (hw : sWf σ) (h : yS I b σ) {o : Int} (o0 : 0 ≤ o) (o1 : o < σ 3) : yRk I b o = sRk σ o := by
  obtain ⟨⟨h0, h1, h2, h3⟩, -, -, hi, -⟩ := h
  show zRank (I b 3).toNat (zYr I b) (zRt I b) o = zRank (σ 3).toNat (sYr σ) (sRt σ) o
  rw [h3]
  unfold zRank
  refine sm_congr (fun r r0 r1 => ?_)
  obtain ⟨⟨-, g1, -, -, g4, -⟩, -⟩ := hi r r0 (by omega)
  obtain ⟨⟨-, k1, -, -, k4, -⟩, -⟩ := hi o o0 o1
  simp only [zOld, zYr, zRt, sYr, sRt, g1, g4, k1, k4]
end BS
/-! What is asked. -/
section AS
variable {e b s r w : Int} {S : mH} {Q : mQ} {σ : sT} {I : mN} (D : Nat)
theorem p_worth (he : S.2.1 e = 3) (hB : yB S b) (heb : e < b ∨ b + 106 ≤ e) (hw : sWf σ) (hin : ∀ p : Int, 0 ≤ p → p < 6 → ∀ j : Int, 0 ≤ j → j < 24 → 0 ≤ I (b + (5 + 4 * p) + 3) j ∧ I (b + (5 + 4 * p) + 3) j ≤ 1000) (h1 : I b 1 = σ 1) (hfl : ∀ p : Int, 0 ≤ p → p < σ 1 → ∀ t : Int, 0 ≤ t → t < 8 → I (b + (5 + 4 * p) + 3) (s * 8 + t) = σ (115 + 48 * s + 8 * p + t)) (s0 : 0 ≤ s) (s1 : s < 3) (r0 : 0 ≤ r) (r1 : r < σ 3) (h11 : I (b + (56 + 5 * r)) 11 = σ (266 + 76 * r)) (hne : σ (266 + 76 * r) ≠ 0) (htk : ∀ k : Int, 0 ≤ k → k < σ (266 + 76 * r) → I (b + (56 + 5 * r) + 4) k = cTk (σ (275 + 76 * r + k))) (hb : ∀ j : Int, 0 ≤ j → j < 60 → -1000000 ≤ I (b + (56 + 5 * r) + 4) j ∧ I (b + (56 + 5 * r) + 4) j ≤ 1000000) (w0 : 0 ≤ w) (w1 : w < 8)
    (k : ∀ I' : mN, (∀ a : Int, a ≠ e → I' a = I a) → Q (.inl (some (mI (sVl σ s r w)))) I' S) : mRun (D + 38) 28 [mR e, mR b, mI s, mR (b + (56 + 5 * r)), mI w] I S Q := by
  have hw3 := hw.1.2.2.2
  have hw1 := hw.1.2.1
  obtain ⟨f, hf⟩ := sVl_spec (s := s) (w := w) ((hw.2.2.2.2.1 r r0 r1).2.2.2.2.2.2.2.2.2.1 hne)
  simp (disch := first | omega | exact Nat.le_of_ble_eq_true rfl | (simp (disch := omega) only [he] <;> omega)) only [w_iconst, w_bipush, w_sipush, w_ldc_s, w_ldcw_s, w_ldc_i, w_ldcw_i, w_lconst, w_fconst, w_dconst, w_iload, w_iload_n, w_aload, w_aload_n, w_dload, w_istore, w_istore_n, w_astore_r, w_astore_s, w_astore_n_r, w_astore_n_s, w_dstore, w_iinc, w_iadd, w_isub, w_imul, w_iand, w_iushr, v_idiv, v_irem, w_ineg, w_i2l, w_i2c, w_i2f, w_i2d, v_f2d, w_lcmp, w_dcmp, v_fdiv, v_ddiv, w_dup_i, w_dup_r, w_dup2, w_dup_x2, w_pop_i, w_pop_r, w_goto, w_switch, w_ret_i, v_ret_z, v_ret_c, w_ret_a, w_ret_s, w_ret_f, w_ret_d, w_ret_v, v_iaload, v_baload, v_caload, v_laload, v_aaload, v_iastore, v_bastore, v_castore, v_lastore, v_aastore, v_alen, v_newa, v_anewa, w_new, w_throw, w_dead, v_getf_i, v_getf_z, v_getf_r, v_putf_i, v_putf_z, v_putf_r, w_call0, w_call1, w_callv1, w_calli1, w_callt1, w_call2, w_callv2, w_calli2, w_callt2, w_call3, w_callv3, w_calli3, w_call4, w_callv4, w_calli4, w_call5, w_callv5, w_calli5, w_call6, w_callv6, w_calli6, w_call7, w_callv7, w_calli7, w_call8, w_callv8, w_calli8, c_if0_eq_t, c_if0_eq_f, c_if2_eq_t, c_if2_eq_f, c_if0_ne_t, c_if0_ne_f, c_if2_ne_t, c_if2_ne_f, c_if0_lt_t, c_if0_lt_f, c_if2_lt_t, c_if2_lt_f, c_if0_ge_t, c_if0_ge_f, c_if2_ge_t, c_if2_ge_f, c_if0_gt_t, c_if0_gt_f, c_if2_gt_t, c_if2_gt_f, c_if0_le_t, c_if0_le_f, c_if2_le_t, c_if2_le_f, w_nil, uI_s, uA_r, uA_s, uD_d, mPut_0, mCl_own, mCv_go, mCl_min, mCl_cpy, mCv_obj, mAct_len, mAct_chrc, mAft_v, mAft_n, mAft_x, mGet_0, mSet_0, mGet_1, mSet_1, mGet_2, mSet_2, mGet_3, mSet_3, mGet_4, mSet_4, mGet_5, mSet_5, mGet_6, mSet_6, mGet_7, mSet_7, mGet_8, mSet_8, mGet_9, mSet_9, mGet_10, mSet_10, mGet_11, mSet_11, mGet_12, mSet_12, mGet_13, mSet_13, e_Ev_worth, a_Ev_worth_0, bk_Ev_worth_0, he]
  generalize hJ : mUp (mUp I e 0 s) e 1 w = J
  have jne : ∀ a : Int, a ≠ e → J a = I a := fun a ha => by rw [← hJ, up_fa ha, up_fa ha]
  have j0 : J e 0 = s := by rw [← hJ, up_nk (by decide), up_eq rfl rfl]
  have j1 : J e 1 = w := by rw [← hJ, up_eq rfl rfl]
  clear hJ
  have hq : yRi S (b + (56 + 5 * r)) := yb_gP hB r0 (by omega)
  have eQ4 : J (b + (56 + 5 * r) + 4) = I (b + (56 + 5 * r) + 4) := jne _ (by omega)
  have eQ : J (b + (56 + 5 * r)) = I (b + (56 + 5 * r)) := jne _ (by omega)
  have hz : zEf (J (b + (56 + 5 * r) + 4)) (J (b + (56 + 5 * r)) 11) w (sFl σ s) f 3 8 0 0 = some (sVl σ s r w, σ (266 + 76 * r)) := by
    rw [eQ4, eQ, h11, ← hf]
    exact zEf_cg (fun j k0 k1 _ => htk j k0 k1) (fun _ => ⟨rfl, rfl⟩) f 3 8 0 0 (Int.le_refl 0)
  have main := (p_levels (S := S) (e := e) (b := b) (q := b + (56 + 5 * r)) (I0 := J) (wk := w) (fl := sFl σ s) (F := f) he hq (by omega) (by rw [eQ4]; exact hb) j1 w0 w1 (fun D p x y i x0 x1 Q hQ => by
    have e1 : ∀ a : Int, a ≠ e → (mUp J e 2 i) a = I a := fun a ha => by rw [up_fa ha, jne a ha]
    refine r_flow (s := s) D he hB (by rw [up_nk (by decide), j0]) s0 s1 x0 x1 (by rw [e1 b (by omega), h1]; omega) (fun p p0 p1 => by rw [e1 _ (by omega)]; exact hin p p0 p1) ?_
    have e3 : (if 0 ≤ p ∧ p < (mUp J e 2 i) b 1 then sm 8 (yFw (mUp J e 2 i) b s p x y) else 0) = sFl σ s p x y := by
      unfold sFl
      rw [e1 b (by omega), h1]
      by_cases c : 0 ≤ p ∧ p < σ 1
      · rw [if_pos c, if_pos c]
        refine sm_congr (fun t t0 t1 => ?_)
        unfold yFw
        by_cases c2 : x ≤ t ∧ t ≤ y
        · rw [if_pos c2, if_pos c2, e1 _ (by omega)]
          exact hfl p c.1 c.2 t t0 (by omega)
        · rw [if_neg c2, if_neg c2]
      · rw [if_neg c, if_neg c]
    rw [e3]
    exact hQ) 8 0 (by omega) (Int.le_refl 0)).2 D f 0 (sVl σ s r w) (σ (266 + 76 * r)) (Nat.le_refl f) hz (Int.le_refl 0) (by decide)
  rw [show D + 4 * 8 + 5 = D + 37 by omega] at main
  refine main _ ?_
  simp (disch := first | omega | exact Nat.le_of_ble_eq_true rfl) only [w_iconst, w_bipush, w_sipush, w_ldc_s, w_ldcw_s, w_ldc_i, w_ldcw_i, w_lconst, w_fconst, w_dconst, w_iload, w_iload_n, w_aload, w_aload_n, w_dload, w_istore, w_istore_n, w_astore_r, w_astore_s, w_astore_n_r, w_astore_n_s, w_dstore, w_iinc, w_iadd, w_isub, w_imul, w_iand, w_iushr, v_idiv, v_irem, w_ineg, w_i2l, w_i2c, w_i2f, w_i2d, v_f2d, w_lcmp, w_dcmp, v_fdiv, v_ddiv, w_dup_i, w_dup_r, w_dup2, w_dup_x2, w_pop_i, w_pop_r, w_goto, w_switch, w_ret_i, v_ret_z, v_ret_c, w_ret_a, w_ret_s, w_ret_f, w_ret_d, w_ret_v, v_iaload, v_baload, v_caload, v_laload, v_aaload, v_iastore, v_bastore, v_castore, v_lastore, v_aastore, v_alen, v_newa, v_anewa, w_new, w_throw, w_dead, v_getf_i, v_getf_z, v_getf_r, v_putf_i, v_putf_z, v_putf_r, w_call0, w_call1, w_callv1, w_calli1, w_callt1, w_call2, w_callv2, w_calli2, w_callt2, w_call3, w_callv3, w_calli3, w_call4, w_callv4, w_calli4, w_call5, w_callv5, w_calli5, w_call6, w_callv6, w_calli6, w_call7, w_callv7, w_calli7, w_call8, w_callv8, w_calli8, c_if0_eq_t, c_if0_eq_f, c_if2_eq_t, c_if2_eq_f, c_if0_ne_t, c_if0_ne_f, c_if2_ne_t, c_if2_ne_f, c_if0_lt_t, c_if0_lt_f, c_if2_lt_t, c_if2_lt_f, c_if0_ge_t, c_if0_ge_f, c_if2_ge_t, c_if2_ge_f, c_if0_gt_t, c_if0_gt_f, c_if2_gt_t, c_if2_gt_f, c_if0_le_t, c_if0_le_f, c_if2_le_t, c_if2_le_f, w_nil, uI_s, uA_r, uA_s, uD_d, mPut_0, mCl_own, mCv_go, mCl_min, mCl_cpy, mCv_obj, mAct_len, mAct_chrc, mAft_v, mAft_n, mAft_x, mGet_0, mSet_0, mGet_1, mSet_1, mGet_2, mSet_2, mGet_3, mSet_3, mGet_4, mSet_4, mGet_5, mSet_5, mGet_6, mSet_6, mGet_7, mSet_7, mGet_8, mSet_8, mGet_9, mSet_9, mGet_10, mSet_10, mGet_11, mSet_11, mGet_12, mSet_12, mGet_13, mSet_13]
  exact k _ (fun a ha => by rw [up_fa ha]; exact jne a ha)
/-- what is asked in a week that is not over, of cells that may have other amounts -/
theorem yS_nAsk {I0 : mN} (he : S.2.1 e = 3) (hB : yB S b) (heb : e < b ∨ b + 106 ≤ e) (hw : sWf σ) (ho : yOk I0 b) (h : yS I0 b σ) (s0 : 0 ≤ s) (s1 : s < 3) : nAsk S (D + 39) e b s I0 (sAk σ s) := by
  intro I r w hI r0 r1 w0 w1 Q k
  obtain ⟨⟨h0, h1, h2, h3⟩, hp, hr, hi, -⟩ := h
  obtain ⟨⟨c0, c1, c2, c3⟩, -⟩ := id hw
  have hbd := ho.1
  have r2 : r < σ 3 := by omega
  have e0 : I b = I0 b := hI b (by omega) (by omega) (fun i _ _ => by omega)
  have eq : I (b + (56 + 5 * r)) = I0 (b + (56 + 5 * r)) := hI _ (by omega) (by omega) (fun i _ _ => by omega)
  have eq1 : I (b + (56 + 5 * r) + 1) = I0 (b + (56 + 5 * r) + 1) := hI _ (by omega) (by omega) (fun i _ _ => by omega)
  have eq4 : I (b + (56 + 5 * r) + 4) = I0 (b + (56 + 5 * r) + 4) := hI _ (by omega) (by omega) (fun i _ _ => by omega)
  obtain ⟨⟨i0, i1, i2, i3, i4, i5, i6, i11⟩, ia, ib, ic, id'⟩ := hi r r0 r2
  obtain ⟨o6, o11, ob, -⟩ := ho.2.1 r r0 (by omega)
  rw [h0] at w0
  refine p_asked (D + 38) (v := sVl σ s r w) he hB r0 (by omega) (by rw [e0, h0]; exact w0) (by rw [e0, h0]; exact c0.1) w1 (by rw [eq]; exact o6) (fun hne Q' k' => ?_) (fun I' f => ?_)
  · rw [eq, i11] at hne
    refine p_worth D he hB heb hw (fun p p0 p1 => ?_) (by rw [e0]; exact h1) (fun p p0 p1 t t0 t1 => ?_) s0 s1 r0 r2 (by rw [eq]; exact i11) hne (fun k k0 k1 => by rw [eq4]; exact id' k k0 k1) (by rw [eq4]; exact ob) (by omega) w1 k'
    · rw [hI _ (by omega) (by omega) (fun i _ _ => by omega)]; exact (hbd.2.1 p p0 p1).2.2
    · rw [hI _ (by omega) (by omega) (fun i _ _ => by omega)]; exact (hp p p0 p1).2.2.2 s t s0 s1 t0 t1
  · have h9 : zAkd (I (b + (56 + 5 * r)) 6) (I (b + (56 + 5 * r)) 3) (I (b + (56 + 5 * r)) 11) (I (b + (56 + 5 * r) + 1) w) (sVl σ s r w) = sAk σ s r w := by
      unfold sAk
      rw [if_neg (by omega), eq, eq1, i6, i3, i11, ia w (by omega) w1]
    rw [h9]
    exact k I' f
theorem p_askS (he : S.2.1 e = 3) (hB : yB S b) (heb : e < b ∨ b + 106 ≤ e) (hw : sWf σ) (ho : yOk I b) (h : yS I b σ) (s0 : 0 ≤ s) (s1 : s < 3) (r0 : 0 ≤ r) (r1 : r < σ 3) (w0 : 0 ≤ w) (w1 : w < 8) (k : ∀ I' : mN, (∀ a : Int, a ≠ e → I' a = I a) → Q (.inl (some (mI (sAk σ s r w)))) I' S) : mRun (D + 39) 27 [mR e, mR b, mI s, mI r, mI w] I S Q := by
  have hc := hw.1.2.2.2
  have h0 := h.1.1
  by_cases c : w < σ 0
  · rw [r_asked_over (D + 38) he hB r0 (by omega) w0 w1 (by rw [h0]; exact c)]
    have h9 : I (b + (56 + 5 * r) + 2) w = sAk σ s r w := by
      unfold sAk
      rw [if_pos c]
      exact (h.2.2.2.1 r r0 r1).2.2.1 w w0 c w1
    rw [h9]
    exact k I (fun _ _ => rfl)
  · exact yS_nAsk D he hB heb hw ho h s0 s1 I r w (fun _ _ _ _ => rfl) r0 (by rw [h.1.2.2.2]; exact r1) (by rw [h0]; omega) w1 Q k
end AS
