/-! Amounts of states that ask the same; trials, by the model. -/
section SG
variable {σ σ' : sT}
theorem zAg_cg {s : Int} (hw : sWf σ) (s0 : 0 ≤ s) (s1 : s < 3) (he : ∀ c : Int, (0 ≤ c ∧ c < 259) ∨ (1019 ≤ c ∧ c < 1067) → σ' c = σ c) : zAg (sNet σ s) (sNet σ' s) := by
  have e0 := he 0 (by decide)
  have e1 := he 1 (by decide)
  have e2 := he 2 (by decide)
  refine ⟨fun a a0 a1 => ?_, fun v v0 v1 => ?_⟩
  · have hfr : sFr σ' (a / 8) = sFr σ (a / 8) := by
      unfold sFr
      rw [e1, e2]
      by_cases c : a / 8 < 9
      · rw [if_pos c, if_pos c, he _ (by omega)]
      · rw [if_neg c, if_neg c]
    have hto : sTo σ' (a / 8) = sTo σ (a / 8) := by
      unfold sTo
      rw [e1, e2]
      by_cases c : a / 8 < 9
      · rw [if_pos c, if_pos c, he _ (by omega)]
      · rw [if_neg c, if_neg c]
    have htm : sTm σ' (a / 8) = sTm σ (a / 8) := by
      unfold sTm
      by_cases c : a / 8 < 9
      · rw [if_pos c, if_pos c, he _ (by omega)]
      · rw [if_neg c, if_neg c]
    have hrm : sRm σ' a = sRm σ a := by
      unfold sRm
      by_cases c : a < 72
      · rw [if_pos c, if_pos c, he _ (by omega)]
      · rw [if_neg c, if_neg c, he _ (by omega)]
    refine ⟨?_, fun _ => ⟨?_, ?_, hrm.symm⟩⟩
    · show decide (sFr σ (a / 8) ≠ -1 ∧ σ 0 ≤ a % 8 ∧ a % 8 + sTm σ (a / 8) < 8) = decide (sFr σ' (a / 8) ≠ -1 ∧ σ' 0 ≤ a % 8 ∧ a % 8 + sTm σ' (a / 8) < 8)
      rw [hfr, htm, e0]
    · show sFr σ (a / 8) * 8 + a % 8 = sFr σ' (a / 8) * 8 + a % 8
      rw [hfr]
    · show sTo σ (a / 8) * 8 + a % 8 + sTm σ (a / 8) = sTo σ' (a / 8) * 8 + a % 8 + sTm σ' (a / 8)
      rw [hto, htm]
  · show sSu σ s v = sSu σ' s v
    unfold sSu
    rw [e0, e1, he (115 + 48 * s + v) (by omega), he (5 + 2 * (v / 8)) (by omega), he (1019 + v) (by omega)]
theorem sVl_cg {s r w : Int} (hl : σ' (266 + 76 * r) = σ (266 + 76 * r)) (ht : ∀ j : Int, 0 ≤ j → j < σ (266 + 76 * r) → j < 60 → σ' (275 + 76 * r + j) = σ (275 + 76 * r + j)) (hf : ∀ p x y : Int, sFl σ' s p x y = sFl σ s p x y) : sVl σ' s r w = sVl σ s r w := by
  have h : (fun v : Int => ∃ f : Nat, zEf (sTk σ' r) (σ' (266 + 76 * r)) w (sFl σ' s) f 3 8 0 0 = some (v, σ' (266 + 76 * r))) = (fun v : Int => ∃ f : Nat, zEf (sTk σ r) (σ (266 + 76 * r)) w (sFl σ s) f 3 8 0 0 = some (v, σ (266 + 76 * r))) := by
    funext v
    rw [hl]
    have e : ∀ f : Nat, zEf (sTk σ' r) (σ (266 + 76 * r)) w (sFl σ' s) f 3 8 0 0 = zEf (sTk σ r) (σ (266 + 76 * r)) w (sFl σ s) f 3 8 0 0 := fun f => zEf_cg (fun j j0 j1 j2 => by unfold sTk; rw [ht j j0 j1 j2]) (fun p => ⟨hf p w w, hf p 0 7⟩) f 3 8 0 0 (Int.le_refl 0)
    exact propext ⟨fun ⟨f, q⟩ => ⟨f, by rw [← e f]; exact q⟩, fun ⟨f, q⟩ => ⟨f, by rw [e f]; exact q⟩⟩
  unfold sVl
  rw [h]
theorem sAm_cg {s : Int} (hw : sWf σ) (hw' : sWf σ') (s0 : 0 ≤ s) (s1 : s < 3) (he : ∀ c : Int, (0 ≤ c ∧ c < 259) ∨ (1019 ≤ c ∧ c < 1147) → σ' c = σ c) (hk : ∀ o : Int, 0 ≤ o → o < σ 3 → σ' (259 + 76 * o) = σ (259 + 76 * o) ∧ σ' (260 + 76 * o) = σ (260 + 76 * o) ∧ σ' (263 + 76 * o) = σ (263 + 76 * o))
    (hak : ∀ o t : Int, 0 ≤ o → o < σ 3 → σ 0 ≤ t → t < 8 → sAk σ' s o t = sAk σ s o t) {r w : Int} (w0 : 0 ≤ w) (w1 : w < 8) : sAm σ' s r w = sAm σ s r w := by
  have e0 := he 0 (by decide)
  have e3 := he 3 (by decide)
  have h3 := hw.1.2.2.2
  by_cases c : 0 ≤ r ∧ r < σ 3
  · by_cases c2 : w < σ 0
    · unfold sAm
      rw [e0, e3, if_pos c, if_pos c2, if_pos c, if_pos c2, he _ (by omega)]
    · have hrk : ∀ o : Int, 0 ≤ o → o < (σ 3).toNat → sRk σ o = sRk σ' o := fun o o0 o1 => by
        show zRank (σ 3).toNat (sYr σ) (sRt σ) o = zRank (σ' 3).toNat (sYr σ') (sRt σ') o
        rw [e3]
        unfold zRank
        refine sm_congr (fun j j0 j1 => ?_)
        obtain ⟨-, k1, k2⟩ := hk j j0 (by omega)
        obtain ⟨-, q1, q2⟩ := hk o o0 (by omega)
        simp only [zOld, sYr, sRt, k1, k2, q1, q2]
      have hp : sPlan σ' s (sAm σ s) := by
        have h9 := sPlan_all hw s0 s1
        unfold sPlan at h9 ⊢
        rw [e0, e3]
        exact zPlan_cg (zAg_cg hw s0 s1 (fun q hq => he q (by omega))) hrk (fun o o0 o1 => ((hk o o0 (by omega)).1).symm) (fun _ _ _ _ _ _ _ => rfl) (fun o t o0 o1 t0 t1 t2 => (hak o t o0 (by omega) t0 t2).symm) h9
      exact sAm_eq (by rw [e3]; omega) hp c.1 (by rw [e3]; exact c.2) (by rw [e0]; omega) w0 w1
  · unfold sAm
    rw [e3, if_neg c, if_neg c]
/-- given up, or asking for nothing: the same amounts -/
theorem sAm_up {s c : Int} (hw : sWf σ) (s0 : 0 ≤ s) (s1 : s < 3) (c0 : 0 ≤ c) (c1 : c < σ 3) {r w : Int} (w0 : 0 ≤ w) (w1 : w < 8) : sAm (sAskR σ c (σ 0) 7 0) s r w = sAm (zU σ (265 + 76 * c) 1) s r w := by
  have hb := hw.1
  have hw1 : sWf (zU σ (265 + 76 * c) 1) := sWf_cell hw c0 c1 (Or.inr ⟨rfl, by decide, by decide⟩)
  have hw2 : sWf (sAskR σ c (σ 0) 7 0) := sWf_ask hw c0 c1 hb.1.1 (by decide) (by decide) (by decide)
  have a : ∀ k : Int, (k < 267 + 76 * c + σ 0 ∨ 267 + 76 * c + 7 < k) → sAskR σ c (σ 0) 7 0 k = σ k := fun k hk => if_neg (by omega)
  have u : ∀ k : Int, k ≠ 265 + 76 * c → zU σ (265 + 76 * c) 1 k = σ k := fun k hk => zU_ne hk
  have u3 : zU σ (265 + 76 * c) 1 3 = σ 3 := u 3 (by omega)
  have u0 : zU σ (265 + 76 * c) 1 0 = σ 0 := u 0 (by omega)
  refine sAm_cg hw1 hw2 s0 s1 (fun k hk => by rw [a k (by omega), u k (by omega)]) (fun o o0 o1 => ?_) (fun o t o0 o1 t0 t1 => ?_) w0 w1
  · rw [u3] at o1
    refine ⟨?_, ?_, ?_⟩ <;> rw [a _ (by omega), u _ (by omega)]
  · rw [u3] at o1
    rw [u0] at t0
    have a0 := a 0 (by omega)
    have hl := (sWf_I hw o0 o1).2.2.2.2.2.2.2.1
    have hfl : ∀ p x y : Int, sFl (sAskR σ c (σ 0) 7 0) s p x y = sFl σ s p x y := fun p x y => by
      unfold sFl
      rw [a 1 (by omega)]
      by_cases cp : 0 ≤ p ∧ p < σ 1
      · rw [if_pos cp, if_pos cp]
        refine sm_congr (fun t t0 t1 => ?_)
        rw [a _ (by omega)]
      · rw [if_neg cp, if_neg cp]
    have hfl2 : ∀ p x y : Int, sFl (zU σ (265 + 76 * c) 1) s p x y = sFl σ s p x y := fun p x y => by
      unfold sFl
      rw [u 1 (by omega)]
      by_cases cp : 0 ≤ p ∧ p < σ 1
      · rw [if_pos cp, if_pos cp]
        refine sm_congr (fun t t0 t1 => ?_)
        rw [u _ (by omega)]
      · rw [if_neg cp, if_neg cp]
    have v1 : sVl (sAskR σ c (σ 0) 7 0) s o t = sVl σ s o t := sVl_cg (a _ (by omega)) (fun j j0 j1 j2 => a _ (by omega)) hfl
    have v2 : sVl (zU σ (265 + 76 * c) 1) s o t = sVl σ s o t := sVl_cg (u _ (by omega)) (fun j j0 j1 j2 => u _ (by omega)) hfl2
    unfold sAk
    rw [a0, u0, if_neg (by omega), if_neg (by omega), v1, v2]
    rw [a (265 + 76 * o) (by omega), a (262 + 76 * o) (by omega), a (266 + 76 * o) (by omega), u (262 + 76 * o) (by omega), u (266 + 76 * o) (by omega), u (267 + 76 * o + t) (by omega)]
    by_cases e : o = c
    · have z0 : sAskR σ c (σ 0) 7 0 (267 + 76 * o + t) = 0 := if_pos (by omega)
      rw [z0, zU_eq (show 265 + 76 * o = 265 + 76 * c by omega)]
      unfold zAkd
      rw [if_pos (show (1 : Int) ≠ 0 ∨ σ (262 + 76 * o) < 0 from Or.inl (by decide))]
      split
      · rfl
      · split
        · rfl
        · split
          · rfl
          · first | rfl | (split <;> omega)
    · rw [a (267 + 76 * o + t) (by omega), u (265 + 76 * o) (by omega)]
end SG
section MT
variable {S : mH} {I : mN} {m z : Int} {G : gT} {Q : mQ} (D : Nat) {τ : sT}
theorem kSa_t (hm : yM S m) : kSa S m (m + 44) := ⟨ym_k65 hm, ym_l65 hm, Or.inr (by omega)⟩
theorem kO_45 (hm : yM S m) {sA : Int} (h : sA = m + 1 ∨ sA = m + 44) : kO S m sA (m + 45) := ⟨ym_k66 hm, ym_l66 hm, by omega, by omega, by omega⟩
theorem kO_46 (hm : yM S m) {sA : Int} (h : sA = m + 1 ∨ sA = m + 44) : kO S m sA (m + 46) := ⟨ym_k67 hm, ym_l67 hm, by omega, by omega, by omega⟩
/-- another trial -/
theorem oR_t {I' : mN} (h : oR S I m G) (e : ∀ a : Int, a ≠ m + 44 → I' a = I a) (hz : ∀ c : Int, c < 0 ∨ 1395 ≤ c → I' (m + 44) c = 0) : oR S I' m G := by
  obtain ⟨h1, h2, h3⟩ := id h.2.1
  refine oR_g h h.1 ⟨by rw [e (m + 1) (by omega)]; exact h1, fun s s0 s1 => ?_, kWo_k h3 (by rw [e m (by omega)]) (e _ (by omega)) (e _ (by omega)) (e _ (by omega))⟩ (e _ (by omega)) (e _ (by omega)) (e _ (by omega)) (e _ (by omega)) (e _ (by omega)) (e _ (by omega)) (fun f hf' => by rw [e m (by omega)]) (fun c hc => ?_)
  · rw [e (m + 16) (by omega), e (m + 13 + s) (by omega)]; exact h2 s s0 s1
  · rw [e (m + 25) (by omega), e (m + 42) (by omega)]
    exact ⟨(h.2.2.2.2.2.2.2.2 c hc).1, (h.2.2.2.2.2.2.2.2 c hc).2.1, hz c hc⟩
theorem r_begT2 (hg : gWf G) (h : oR (mSx S m z) I m G) : mRun (D + 1) 353 [mR m] I (mSx S m z) Q = Q (.inl none) (mUa I (m + 44) ((G.2.1 (G.1 1) (G.1 (10 + G.1 1))))) (mSx S m z) := by
  rw [r_begT D h.1]
  have hI : I (m + 1) = (G.2.1 (G.1 1) (G.1 (10 + G.1 1))) := h.2.1.1
  have e : (fun t => if 0 ≤ t ∧ t < 1395 then I (m + 1) t else I (m + 44) t) = (G.2.1 (G.1 1) (G.1 (10 + G.1 1))) := sZ_eq (gO_w hg).2 (fun c hc => by
    show (if _ then _ else _) = (0 : Int)
    rw [if_neg (by omega)]; exact (h.2.2.2.2.2.2.2.2 c hc).2.2) (fun c c0 c1 => by
    show (if _ then _ else _) = _
    rw [if_pos ⟨c0, c1⟩, hI])
  rw [e]
theorem q_pl1 {s : Int} (hg : gWf G) (h : oR (mSx S m z) I m G) (ht : I (m + 44) = τ) (s0 : 0 ≤ s) (s1 : s < 3)
    (kk : ∀ (I' : mN) (z' : Int), oR (mSx S m z') I' m G → I' (m + 44) = τ → oFm I I' m → I' m 1 = I m 1 → (∀ r w : Int, 0 ≤ r → r < 10 → 0 ≤ w → w < 8 → I' (m + 45) (8 * r + w) = sAm ((G.2.1 (G.1 1) (G.1 (10 + G.1 1)))) s r w) → Q (.inl none) I' (mSx S m z')) : mRun (D + 10) 220 [mR m, mR (m + 1), mI s, mR (m + 45)] I (mSx S m z) Q := by
  have hm := yM_u h.1
  refine p_mplan (D + 5) hm (kSa_1 hm) (by omega) (kO_45 hm (Or.inl rfl)) (gO_w hg).1 (kAsk_all D hm (kSa_1 hm) (by omega) (by omega) (gO_w hg).1 s0 s1) s0 s1 h.2.1.1 (fun I' z' f _ _ hA => ?_)
  exact kk I' z' (oR_p h f (Or.inr (Or.inr (Or.inl rfl)))) (by rw [f.1 (m + 44) (by omega) (by omega) (by omega) (by omega)]; exact ht) (fun a ha => f.1 a (by omega) (by omega) (by omega) (by omega)) (f.2 1 (by decide)) hA
theorem q_pl2 {s : Int} {σ : sT} (hg : gWf G) (h : oR (mSx S m z) I m G) (hτ : sWf τ) (ht : I (m + 44) = τ) (s0 : 0 ≤ s) (s1 : s < 3) (hA : ∀ r w : Int, 0 ≤ r → r < 10 → 0 ≤ w → w < 8 → I (m + 45) (8 * r + w) = sAm σ s r w)
    (kk : ∀ (I' : mN) (z' : Int), oR (mSx S m z') I' m G → I' (m + 44) = τ → oFm I I' m → I' m 1 = I m 1 → (∀ r w : Int, 0 ≤ r → r < 10 → 0 ≤ w → w < 8 → I' (m + 45) (8 * r + w) = sAm σ s r w) → (∀ r w : Int, 0 ≤ r → r < 10 → 0 ≤ w → w < 8 → I' (m + 46) (8 * r + w) = sAm τ s r w) → Q (.inl none) I' (mSx S m z')) : mRun (D + 10) 220 [mR m, mR (m + 44), mI s, mR (m + 46)] I (mSx S m z) Q := by
  have hm := yM_u h.1
  refine p_mplan (D + 5) hm (kSa_t hm) (by omega) (kO_46 hm (Or.inr rfl)) hτ (kAsk_all D hm (kSa_t hm) (by omega) (by omega) hτ s0 s1) s0 s1 ht (fun I' z' f _ _ hB => ?_)
  exact kk I' z' (oR_p h f (Or.inr (Or.inr (Or.inr rfl)))) (by rw [f.1 (m + 44) (by omega) (by omega) (by omega) (by omega)]; exact ht) (fun a ha => f.1 a (by omega) (by omega) (by omega) (by omega)) (f.2 1 (by decide)) (fun r w r0 r1 w0 w1 => by rw [f.1 (m + 45) (by omega) (by omega) (by omega) (by omega)]; exact hA r w r0 r1 w0 w1) hB
theorem p_plansB (hg : gWf G) (h : oR (mSx S m z) I m G) (hτ : sWf τ) (ht : I (m + 44) = τ)
    (kk : ∀ (I' : mN) (z' : Int), oR (mSx S m z') I' m G → oFm I I' m → I' m 1 = I m 1 → (∀ r w : Int, 0 ≤ r → r < 10 → 0 ≤ w → w < 8 → I' (m + 45) (8 * r + w) = sAm ((G.2.1 (G.1 1) (G.1 (10 + G.1 1)))) 0 r w) → (∀ r w : Int, 0 ≤ r → r < 10 → 0 ≤ w → w < 8 → I' (m + 46) (8 * r + w) = sAm τ 0 r w) → Q (.inl none) I' (mSx S m z')) : mRun (D + 11) 361 [mR m] I (mSx S m z) Q := by
  have hmz := h.1
  simp (disch := first | omega | exact Nat.le_of_ble_eq_true rfl | (simp (disch := omega) only [ym_k hmz, ym_0 hmz, ym_k0 hmz, ym_l0 hmz, ym_66 hmz, ym_k66 hmz, ym_l66 hmz] <;> omega)) only [w_iconst, w_bipush, w_sipush, w_ldc_s, w_ldcw_s, w_ldc_i, w_ldcw_i, w_lconst, w_fconst, w_dconst, w_iload, w_iload_n, w_aload, w_aload_n, w_dload, w_istore, w_istore_n, w_astore_r, w_astore_s, w_astore_n_r, w_astore_n_s, w_dstore, w_iinc, w_iadd, w_isub, w_imul, w_iand, w_iushr, v_idiv, v_irem, w_ineg, w_i2l, w_i2c, w_i2f, w_i2d, v_f2d, w_lcmp, w_dcmp, v_fdiv, v_ddiv, w_dup_i, w_dup_r, w_dup2, w_dup_x2, w_pop_i, w_pop_r, w_goto, w_switch, w_ret_i, v_ret_z, v_ret_c, w_ret_a, w_ret_s, w_ret_f, w_ret_d, w_ret_v, v_iaload, v_baload, v_caload, v_laload, v_aaload, v_iastore, v_bastore, v_castore, v_lastore, v_aastore, v_alen, v_newa, v_anewa, w_new, w_throw, w_dead, v_getf_i, v_getf_z, v_getf_r, v_putf_i, v_putf_z, v_putf_r, w_call0, w_call1, w_callv1, w_calli1, w_callt1, w_call2, w_callv2, w_calli2, w_callt2, w_call3, w_callv3, w_calli3, w_call4, w_callv4, w_calli4, w_call5, w_callv5, w_calli5, w_call6, w_callv6, w_calli6, w_call7, w_callv7, w_calli7, w_call8, w_callv8, w_calli8, c_if0_eq_t, c_if0_eq_f, c_if2_eq_t, c_if2_eq_f, c_if0_ne_t, c_if0_ne_f, c_if2_ne_t, c_if2_ne_f, c_if0_lt_t, c_if0_lt_f, c_if2_lt_t, c_if2_lt_f, c_if0_ge_t, c_if0_ge_f, c_if2_ge_t, c_if2_ge_f, c_if0_gt_t, c_if0_gt_f, c_if2_gt_t, c_if2_gt_f, c_if0_le_t, c_if0_le_f, c_if2_le_t, c_if2_le_f, w_nil, uI_s, uA_r, uA_s, uD_d, mPut_0, mCl_own, mCv_go, mCl_min, mCl_cpy, mCv_obj, mAct_len, mAct_chrc, mAft_v, mAft_n, mAft_x, mGet_0, mSet_0, mGet_1, mSet_1, mGet_2, mSet_2, mGet_3, mSet_3, mGet_4, mSet_4, mGet_5, mSet_5, mGet_6, mSet_6, mGet_7, mSet_7, mGet_8, mSet_8, mGet_9, mSet_9, mGet_10, mSet_10, mGet_11, mSet_11, mGet_12, mSet_12, mGet_13, mSet_13, e_Mo_plansBoth, a_Mo_plansBoth_0, bk_Mo_plansBoth_0, ym_k hmz, ym_0 hmz, ym_k0 hmz, ym_l0 hmz, ym_66 hmz, ym_k66 hmz, ym_l66 hmz]
  refine q_pl1 (s := 0) D hg h ht (by decide) (by decide) (fun I1 z1 h1 t1 f1 g1 a1 => ?_)
  have hm1 := h1.1
  simp (disch := first | omega | exact Nat.le_of_ble_eq_true rfl | (simp (disch := omega) only [ym_k hm1, ym_65 hm1, ym_k65 hm1, ym_l65 hm1, ym_67 hm1, ym_k67 hm1, ym_l67 hm1] <;> omega)) only [w_iconst, w_bipush, w_sipush, w_ldc_s, w_ldcw_s, w_ldc_i, w_ldcw_i, w_lconst, w_fconst, w_dconst, w_iload, w_iload_n, w_aload, w_aload_n, w_dload, w_istore, w_istore_n, w_astore_r, w_astore_s, w_astore_n_r, w_astore_n_s, w_dstore, w_iinc, w_iadd, w_isub, w_imul, w_iand, w_iushr, v_idiv, v_irem, w_ineg, w_i2l, w_i2c, w_i2f, w_i2d, v_f2d, w_lcmp, w_dcmp, v_fdiv, v_ddiv, w_dup_i, w_dup_r, w_dup2, w_dup_x2, w_pop_i, w_pop_r, w_goto, w_switch, w_ret_i, v_ret_z, v_ret_c, w_ret_a, w_ret_s, w_ret_f, w_ret_d, w_ret_v, v_iaload, v_baload, v_caload, v_laload, v_aaload, v_iastore, v_bastore, v_castore, v_lastore, v_aastore, v_alen, v_newa, v_anewa, w_new, w_throw, w_dead, v_getf_i, v_getf_z, v_getf_r, v_putf_i, v_putf_z, v_putf_r, w_call0, w_call1, w_callv1, w_calli1, w_callt1, w_call2, w_callv2, w_calli2, w_callt2, w_call3, w_callv3, w_calli3, w_call4, w_callv4, w_calli4, w_call5, w_callv5, w_calli5, w_call6, w_callv6, w_calli6, w_call7, w_callv7, w_calli7, w_call8, w_callv8, w_calli8, c_if0_eq_t, c_if0_eq_f, c_if2_eq_t, c_if2_eq_f, c_if0_ne_t, c_if0_ne_f, c_if2_ne_t, c_if2_ne_f, c_if0_lt_t, c_if0_lt_f, c_if2_lt_t, c_if2_lt_f, c_if0_ge_t, c_if0_ge_f, c_if2_ge_t, c_if2_ge_f, c_if0_gt_t, c_if0_gt_f, c_if2_gt_t, c_if2_gt_f, c_if0_le_t, c_if0_le_f, c_if2_le_t, c_if2_le_f, w_nil, uI_s, uA_r, uA_s, uD_d, mPut_0, mCl_own, mCv_go, mCl_min, mCl_cpy, mCv_obj, mAct_len, mAct_chrc, mAft_v, mAft_n, mAft_x, mGet_0, mSet_0, mGet_1, mSet_1, mGet_2, mSet_2, mGet_3, mSet_3, mGet_4, mSet_4, mGet_5, mSet_5, mGet_6, mSet_6, mGet_7, mSet_7, mGet_8, mSet_8, mGet_9, mSet_9, mGet_10, mSet_10, mGet_11, mSet_11, mGet_12, mSet_12, mGet_13, mSet_13, ym_k hm1, ym_65 hm1, ym_k65 hm1, ym_l65 hm1, ym_67 hm1, ym_k67 hm1, ym_l67 hm1]
  refine q_pl2 (s := 0) D hg h1 hτ t1 (by decide) (by decide) a1 (fun I2 z2 h2 t2 f2 g2 a2 b2 => ?_)
  simp (disch := first | omega | exact Nat.le_of_ble_eq_true rfl) only [w_iconst, w_bipush, w_sipush, w_ldc_s, w_ldcw_s, w_ldc_i, w_ldcw_i, w_lconst, w_fconst, w_dconst, w_iload, w_iload_n, w_aload, w_aload_n, w_dload, w_istore, w_istore_n, w_astore_r, w_astore_s, w_astore_n_r, w_astore_n_s, w_dstore, w_iinc, w_iadd, w_isub, w_imul, w_iand, w_iushr, v_idiv, v_irem, w_ineg, w_i2l, w_i2c, w_i2f, w_i2d, v_f2d, w_lcmp, w_dcmp, v_fdiv, v_ddiv, w_dup_i, w_dup_r, w_dup2, w_dup_x2, w_pop_i, w_pop_r, w_goto, w_switch, w_ret_i, v_ret_z, v_ret_c, w_ret_a, w_ret_s, w_ret_f, w_ret_d, w_ret_v, v_iaload, v_baload, v_caload, v_laload, v_aaload, v_iastore, v_bastore, v_castore, v_lastore, v_aastore, v_alen, v_newa, v_anewa, w_new, w_throw, w_dead, v_getf_i, v_getf_z, v_getf_r, v_putf_i, v_putf_z, v_putf_r, w_call0, w_call1, w_callv1, w_calli1, w_callt1, w_call2, w_callv2, w_calli2, w_callt2, w_call3, w_callv3, w_calli3, w_call4, w_callv4, w_calli4, w_call5, w_callv5, w_calli5, w_call6, w_callv6, w_calli6, w_call7, w_callv7, w_calli7, w_call8, w_callv8, w_calli8, c_if0_eq_t, c_if0_eq_f, c_if2_eq_t, c_if2_eq_f, c_if0_ne_t, c_if0_ne_f, c_if2_ne_t, c_if2_ne_f, c_if0_lt_t, c_if0_lt_f, c_if2_lt_t, c_if2_lt_f, c_if0_ge_t, c_if0_ge_f, c_if2_ge_t, c_if2_ge_f, c_if0_gt_t, c_if0_gt_f, c_if2_gt_t, c_if2_gt_f, c_if0_le_t, c_if0_le_f, c_if2_le_t, c_if2_le_f, w_nil, uI_s, uA_r, uA_s, uD_d, mPut_0, mCl_own, mCv_go, mCl_min, mCl_cpy, mCv_obj, mAct_len, mAct_chrc, mAft_v, mAft_n, mAft_x, mGet_0, mSet_0, mGet_1, mSet_1, mGet_2, mSet_2, mGet_3, mSet_3, mGet_4, mSet_4, mGet_5, mSet_5, mGet_6, mSet_6, mGet_7, mSet_7, mGet_8, mSet_8, mGet_9, mSet_9, mGet_10, mSet_10, mGet_11, mSet_11, mGet_12, mSet_12, mGet_13, mSet_13]
  exact kk I2 z2 h2 (oFm_t f1 f2) (g2.trans g1) a2 b2
/-- the sum of a row's amounts from the present week on -/
theorem l_osp {o row : Int} (hm : yM S m) (hw : sWf τ) (h0 : I (m + 1) 0 = (G.2.1 (G.1 1) (G.1 (10 + G.1 1))) 0) (hk : S.2.1 row = 50) (hl : S.2.2.1 row = 80) (o0 : 0 ≤ o) (o1 : o < 10) (hA : ∀ r w : Int, 0 ≤ r → r < 10 → 0 ≤ w → w < 8 → I row (8 * r + w) = sAm τ 0 r w) (k : Q (.inl (some (mI (sm 8 (sAf τ o ((G.2.1 (G.1 1) (G.1 (10 + G.1 1))) 0)))))) I S) :
    ∀ (c w : Nat), w + c = 8 → (G.2.1 (G.1 1) (G.1 (10 + G.1 1))) 0 ≤ w → ∀ q : Int, q = sm w (sAf τ o ((G.2.1 (G.1 1) (G.1 (10 + G.1 1))) 0)) → mAt (mRun D) 365 10 ([some (mR m), some (mR row), some (mI o), some (mI q), some (mI (w : Int))], [], I, S) Q
  | 0, w, h1, h2, q, hq => by
    obtain rfl : w = 8 := by omega
    rw [hq, a_Mo_sumOfPlan_10]
    simp (disch := first | omega | exact Nat.le_of_ble_eq_true rfl) only [w_iconst, w_bipush, w_sipush, w_ldc_s, w_ldcw_s, w_ldc_i, w_ldcw_i, w_lconst, w_fconst, w_dconst, w_iload, w_iload_n, w_aload, w_aload_n, w_dload, w_istore, w_istore_n, w_astore_r, w_astore_s, w_astore_n_r, w_astore_n_s, w_dstore, w_iinc, w_iadd, w_isub, w_imul, w_iand, w_iushr, v_idiv, v_irem, w_ineg, w_i2l, w_i2c, w_i2f, w_i2d, v_f2d, w_lcmp, w_dcmp, v_fdiv, v_ddiv, w_dup_i, w_dup_r, w_dup2, w_dup_x2, w_pop_i, w_pop_r, w_goto, w_switch, w_ret_i, v_ret_z, v_ret_c, w_ret_a, w_ret_s, w_ret_f, w_ret_d, w_ret_v, v_iaload, v_baload, v_caload, v_laload, v_aaload, v_iastore, v_bastore, v_castore, v_lastore, v_aastore, v_alen, v_newa, v_anewa, w_new, w_throw, w_dead, v_getf_i, v_getf_z, v_getf_r, v_putf_i, v_putf_z, v_putf_r, w_call0, w_call1, w_callv1, w_calli1, w_callt1, w_call2, w_callv2, w_calli2, w_callt2, w_call3, w_callv3, w_calli3, w_call4, w_callv4, w_calli4, w_call5, w_callv5, w_calli5, w_call6, w_callv6, w_calli6, w_call7, w_callv7, w_calli7, w_call8, w_callv8, w_calli8, c_if0_eq_t, c_if0_eq_f, c_if2_eq_t, c_if2_eq_f, c_if0_ne_t, c_if0_ne_f, c_if2_ne_t, c_if2_ne_f, c_if0_lt_t, c_if0_lt_f, c_if2_lt_t, c_if2_lt_f, c_if0_ge_t, c_if0_ge_f, c_if2_ge_t, c_if2_ge_f, c_if0_gt_t, c_if0_gt_f, c_if2_gt_t, c_if2_gt_f, c_if0_le_t, c_if0_le_f, c_if2_le_t, c_if2_le_f, w_nil, uI_s, uA_r, uA_s, uD_d, mPut_0, mCl_own, mCv_go, mCl_min, mCl_cpy, mCv_obj, mAct_len, mAct_chrc, mAft_v, mAft_n, mAft_x, mGet_0, mSet_0, mGet_1, mSet_1, mGet_2, mSet_2, mGet_3, mSet_3, mGet_4, mSet_4, mGet_5, mSet_5, mGet_6, mSet_6, mGet_7, mSet_7, mGet_8, mSet_8, mGet_9, mSet_9, mGet_10, mSet_10, mGet_11, mSet_11, mGet_12, mSet_12, mGet_13, mSet_13, bk_Mo_sumOfPlan_10, a_Mo_sumOfPlan_35, bk_Mo_sumOfPlan_35]
    exact k
  | c + 1, w, h1, h2, q, hq => by
    have hs : sm (w + 1) (sAf τ o ((G.2.1 (G.1 1) (G.1 (10 + G.1 1))) 0)) = sm w (sAf τ o ((G.2.1 (G.1 1) (G.1 (10 + G.1 1))) 0)) + sAf τ o ((G.2.1 (G.1 1) (G.1 (10 + G.1 1))) 0) (w : Int) := rfl
    have hv : sAf τ o ((G.2.1 (G.1 1) (G.1 (10 + G.1 1))) 0) (w : Int) = sAm τ 0 o w := if_pos h2
    have hcast : (w : Int) + 1 = ((w + 1 : Nat) : Int) := by omega
    have hb := sAf_s hw (r := o) (y := (G.2.1 (G.1 1) (G.1 (10 + G.1 1))) 0) w (by omega)
    have hb2 := sAm_bd hw (s := 0) (r := o) (by decide) (by decide) (show 0 ≤ (w : Int) by omega) (by omega)
    have hr := hA o w o0 o1 (by omega) (by omega)
    rw [a_Mo_sumOfPlan_10]
    simp (disch := first | omega | exact Nat.le_of_ble_eq_true rfl | (simp (disch := omega) only [hk, hl] <;> omega)) only [w_iconst, w_bipush, w_sipush, w_ldc_s, w_ldcw_s, w_ldc_i, w_ldcw_i, w_lconst, w_fconst, w_dconst, w_iload, w_iload_n, w_aload, w_aload_n, w_dload, w_istore, w_istore_n, w_astore_r, w_astore_s, w_astore_n_r, w_astore_n_s, w_dstore, w_iinc, w_iadd, w_isub, w_imul, w_iand, w_iushr, v_idiv, v_irem, w_ineg, w_i2l, w_i2c, w_i2f, w_i2d, v_f2d, w_lcmp, w_dcmp, v_fdiv, v_ddiv, w_dup_i, w_dup_r, w_dup2, w_dup_x2, w_pop_i, w_pop_r, w_goto, w_switch, w_ret_i, v_ret_z, v_ret_c, w_ret_a, w_ret_s, w_ret_f, w_ret_d, w_ret_v, v_iaload, v_baload, v_caload, v_laload, v_aaload, v_iastore, v_bastore, v_castore, v_lastore, v_aastore, v_alen, v_newa, v_anewa, w_new, w_throw, w_dead, v_getf_i, v_getf_z, v_getf_r, v_putf_i, v_putf_z, v_putf_r, w_call0, w_call1, w_callv1, w_calli1, w_callt1, w_call2, w_callv2, w_calli2, w_callt2, w_call3, w_callv3, w_calli3, w_call4, w_callv4, w_calli4, w_call5, w_callv5, w_calli5, w_call6, w_callv6, w_calli6, w_call7, w_callv7, w_calli7, w_call8, w_callv8, w_calli8, c_if0_eq_t, c_if0_eq_f, c_if2_eq_t, c_if2_eq_f, c_if0_ne_t, c_if0_ne_f, c_if2_ne_t, c_if2_ne_f, c_if0_lt_t, c_if0_lt_f, c_if2_lt_t, c_if2_lt_f, c_if0_ge_t, c_if0_ge_f, c_if2_ge_t, c_if2_ge_f, c_if0_gt_t, c_if0_gt_f, c_if2_gt_t, c_if2_gt_f, c_if0_le_t, c_if0_le_f, c_if2_le_t, c_if2_le_f, w_nil, uI_s, uA_r, uA_s, uD_d, mPut_0, mCl_own, mCv_go, mCl_min, mCl_cpy, mCv_obj, mAct_len, mAct_chrc, mAft_v, mAft_n, mAft_x, mGet_0, mSet_0, mGet_1, mSet_1, mGet_2, mSet_2, mGet_3, mSet_3, mGet_4, mSet_4, mGet_5, mSet_5, mGet_6, mSet_6, mGet_7, mSet_7, mGet_8, mSet_8, mGet_9, mSet_9, mGet_10, mSet_10, mGet_11, mSet_11, mGet_12, mSet_12, mGet_13, mSet_13, bk_Mo_sumOfPlan_10, hk, hl, hr, wr]
    rw [hcast]
    exact l_osp hm hw h0 hk hl o0 o1 hA k c (w + 1) (by omega) (by omega) _ (by omega)
theorem r_osp {o row : Int} (hg : gWf G) (hm : yM S m) (hw : sWf τ) (h0 : I (m + 1) 0 = (G.2.1 (G.1 1) (G.1 (10 + G.1 1))) 0) (hk : S.2.1 row = 50) (hl : S.2.2.1 row = 80) (o0 : 0 ≤ o) (o1 : o < 10) (hA : ∀ r w : Int, 0 ≤ r → r < 10 → 0 ≤ w → w < 8 → I row (8 * r + w) = sAm τ 0 r w) : mRun (D + 1) 365 [mR m, mR row, mI o] I S Q = Q (.inl (some (mI (sm 8 (sAf τ o ((G.2.1 (G.1 1) (G.1 (10 + G.1 1))) 0)))))) I S := by
  refine mRun_eq ?_ Q
  have hv := (gO_w hg).1.1
  have e0 : (((G.2.1 (G.1 1) (G.1 (10 + G.1 1))) 0).toNat : Int) = (G.2.1 (G.1 1) (G.1 (10 + G.1 1))) 0 := by omega
  have h9 := l_osp (G := G) (Q := mOne (.inl (some (mI (sm 8 (sAf τ o ((G.2.1 (G.1 1) (G.1 (10 + G.1 1))) 0)))))) I S) D hm hw h0 hk hl o0 o1 hA ⟨rfl, rfl, rfl⟩ (8 - ((G.2.1 (G.1 1) (G.1 (10 + G.1 1))) 0).toNat) ((G.2.1 (G.1 1) (G.1 (10 + G.1 1))) 0).toNat (by omega) (by omega) 0 (by
    rw [sm_zero (fun i i0 i1 => by unfold sAf; rw [if_neg (by omega)])])
  rw [e0] at h9
  simp (disch := first | omega | exact Nat.le_of_ble_eq_true rfl | (simp (disch := omega) only [ym_k hm, ym_0 hm, ym_k0 hm, ym_l0 hm] <;> omega)) only [w_iconst, w_bipush, w_sipush, w_ldc_s, w_ldcw_s, w_ldc_i, w_ldcw_i, w_lconst, w_fconst, w_dconst, w_iload, w_iload_n, w_aload, w_aload_n, w_dload, w_istore, w_istore_n, w_astore_r, w_astore_s, w_astore_n_r, w_astore_n_s, w_dstore, w_iinc, w_iadd, w_isub, w_imul, w_iand, w_iushr, v_idiv, v_irem, w_ineg, w_i2l, w_i2c, w_i2f, w_i2d, v_f2d, w_lcmp, w_dcmp, v_fdiv, v_ddiv, w_dup_i, w_dup_r, w_dup2, w_dup_x2, w_pop_i, w_pop_r, w_goto, w_switch, w_ret_i, v_ret_z, v_ret_c, w_ret_a, w_ret_s, w_ret_f, w_ret_d, w_ret_v, v_iaload, v_baload, v_caload, v_laload, v_aaload, v_iastore, v_bastore, v_castore, v_lastore, v_aastore, v_alen, v_newa, v_anewa, w_new, w_throw, w_dead, v_getf_i, v_getf_z, v_getf_r, v_putf_i, v_putf_z, v_putf_r, w_call0, w_call1, w_callv1, w_calli1, w_callt1, w_call2, w_callv2, w_calli2, w_callt2, w_call3, w_callv3, w_calli3, w_call4, w_callv4, w_calli4, w_call5, w_callv5, w_calli5, w_call6, w_callv6, w_calli6, w_call7, w_callv7, w_calli7, w_call8, w_callv8, w_calli8, c_if0_eq_t, c_if0_eq_f, c_if2_eq_t, c_if2_eq_f, c_if0_ne_t, c_if0_ne_f, c_if2_ne_t, c_if2_ne_f, c_if0_lt_t, c_if0_lt_f, c_if2_lt_t, c_if2_lt_f, c_if0_ge_t, c_if0_ge_f, c_if2_ge_t, c_if2_ge_f, c_if0_gt_t, c_if0_gt_f, c_if2_gt_t, c_if2_gt_f, c_if0_le_t, c_if0_le_f, c_if2_le_t, c_if2_le_f, w_nil, uI_s, uA_r, uA_s, uD_d, mPut_0, mCl_own, mCv_go, mCl_min, mCl_cpy, mCv_obj, mAct_len, mAct_chrc, mAft_v, mAft_n, mAft_x, mGet_0, mSet_0, mGet_1, mSet_1, mGet_2, mSet_2, mGet_3, mSet_3, mGet_4, mSet_4, mGet_5, mSet_5, mGet_6, mSet_6, mGet_7, mSet_7, mGet_8, mSet_8, mGet_9, mSet_9, mGet_10, mSet_10, mGet_11, mSet_11, mGet_12, mSet_12, mGet_13, mSet_13, e_Mo_sumOfPlan, a_Mo_sumOfPlan_0, bk_Mo_sumOfPlan_0, ym_k hm, ym_0 hm, ym_k0 hm, ym_l0 hm, h0]
  exact h9
end MT
