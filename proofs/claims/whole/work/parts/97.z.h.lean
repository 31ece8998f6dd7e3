/-! Undo, redo, branches, by the model. -/
section OV
variable {S : mH} {I : mN} {x m z : Int} {G : gT} {Q : mQ} (D : Nat)
theorem sZ_eq {σ : sT} {f : Int → Int} (hz : sZ σ) (h0 : ∀ c : Int, c < 0 ∨ 1395 ≤ c → f c = 0) (h1 : ∀ c : Int, 0 ≤ c → c < 1395 → f c = σ c) : f = σ := funext (fun c => by
  by_cases h : 0 ≤ c ∧ c < 1395
  · exact h1 c h.1 h.2
  · rw [h0 c (by omega), hz c (by omega)])
theorem kCa_f {σ : sT} {J : mN} : kCa (mUp (mUa J (m + 16) (fun j => if 0 ≤ j ∧ j < 3 then 0 else J (m + 16) j)) m 17 0) m σ := kCa_0 (fun s s0 s1 => by rw [up_fa (by omega), ua_eq rfl, if_pos ⟨s0, s1⟩])
/-- the state is kept, another one is taken -/
theorem oR_take {G' : gT} {J : mN} {I' : mN} {k' j' : Int} (hg : gWf G) (hg' : gWf G') (h : oR S I m G) (eN : (G'.1 0) = (G.1 0)) (eS : ∀ k j : Int, (G'.2.1 k j) = (G.2.1 k j)) (eE : ∀ k : Int, 0 ≤ k → k < 3 → (G'.1 (20 + k)) = (G.1 (20 + k))) (eT : (G'.1 2) = (G.1 2) ∧ (G'.1 3) = (G.1 3) ∧ (G'.1 4) = (G.1 4)) (eM : G'.2.2 = G.2.2)
    (hk : (G'.1 1) = k' ∧ (G'.1 (10 + G'.1 1)) = j')
    (hJ : ∀ t : Int, J (m + 22) t = if 1395 * (7 * (G.1 1) + (G.1 (10 + G.1 1))) ≤ t ∧ t < 1395 * (7 * (G.1 1) + (G.1 (10 + G.1 1))) + 1395 then I (m + 1) (t - 1395 * (7 * (G.1 1) + (G.1 (10 + G.1 1)))) else I (m + 22) t)
    (h22 : I' (m + 22) = J (m + 22)) (h1 : ∀ t : Int, I' (m + 1) t = if 0 ≤ t ∧ t < 1395 then J (m + 22) (1395 * (7 * k' + j') + t) else I (m + 1) t) (h16 : ∀ s : Int, 0 ≤ s → s < 3 → I' (m + 16) s = 0) (h17 : I' m 17 = 0)
    (h23 : ∀ k : Int, 0 ≤ k → k < (G.1 0) → I' (m + 23) k = (G'.1 (10 + k))) (hf : ∀ a : Int, a ≠ m → a ≠ m + 1 → a ≠ m + 16 → a ≠ m + 22 → a ≠ m + 23 → I' a = I a) (hf0 : I' m 26 = I m 26 ∧ I' m 27 = (G'.1 1) ∧ I' m 28 = (G'.1 5) ∧ ((G'.1 5) ≠ -1 → I' m 29 = (G'.1 6)) ∧ I' m 55 = I m 55 ∧ I' m 61 = I m 61 ∧ I' m 64 = I m 64) : oR S I' m G' := by
  obtain ⟨rfl, rfl⟩ := hk
  obtain ⟨⟨c0, c1, c2⟩, u0, u1, u2⟩ := gJ_b hg
  obtain ⟨⟨c0', c1', c2'⟩, u0', u1', u2'⟩ := gJ_b hg'
  obtain ⟨g1, ⟨g20, g21, g22⟩, g3, g4, ⟨g50, g51, g52, g53⟩, g6, ⟨g70, g71, g72⟩, ⟨g80, g81⟩, g9⟩ := h
  obtain ⟨f26, f27, f28, f29, f55, f61, f64⟩ := hf0
  have hI1 : ∀ t : Int, I (m + 1) t = (G.2.1 ((G.1 1)) ((G.1 (10 + G.1 1)))) t := fun t => by rw [g20]
  -- every row, the present one included
  have rows : ∀ k j : Int, 0 ≤ k → k < (G.1 0) → 0 ≤ j → j ≤ (G.1 (20 + k)) → ∀ c : Int, 0 ≤ c → c < 1395 → J (m + 22) (1395 * (7 * k + j) + c) = (G.2.1 k j) c := fun k j k0 k1 j0 j1 c q0 q1 => by
    have j6 : j ≤ 6 := by have := (hg.2.2.1 k k0 (by have := hg.1.2; omega)).1; omega
    rw [hJ]
    by_cases e : k = (G.1 1) ∧ j = (G.1 (10 + G.1 1))
    · rw [e.1, e.2, if_pos (by omega), hI1, show 1395 * (7 * (G.1 1) + (G.1 (10 + G.1 1))) + c - 1395 * (7 * (G.1 1) + (G.1 (10 + G.1 1))) = c by omega]
    · rw [if_neg (by omega)]
      refine g3 k j k0 k1 j0 j1 ?_ c q0 q1
      by_cases ek : k = (G.1 1)
      · right
        intro ej
        rw [ek] at ej
        exact e ⟨ek, ej⟩
      · exact Or.inl ek
  have hO : (G'.2.1 (G'.1 1) (G'.1 (10 + G'.1 1))) = (G.2.1 ((G'.1 1)) ((G'.1 (10 + G'.1 1)))) := eS _ _
  have hwz := hg.2.2.2.1 ((G'.1 1)) ((G'.1 (10 + G'.1 1))) c0' (by omega) u0' (by rw [← eE ((G'.1 1)) c0' c1']; exact u1')
  refine ⟨g1, ⟨?_, kCa_0 h16, kWo_0 h17⟩, fun k j k0 k1 j0 j1 hkj c q0 q1 => ?_, fun k k0 k1 => ?_, ⟨?_, ?_, f28, f29⟩, ?_, ⟨?_, ?_, ?_⟩, ⟨?_, ?_⟩, ?_⟩
  · rw [hO]
    refine sZ_eq hwz.2 (fun c hc => ?_) (fun c q0 q1 => ?_)
    · rw [h1, if_neg (by omega), hI1]; exact (gO_w hg).2 c hc
    · rw [h1, if_pos ⟨q0, q1⟩]
      exact rows ((G'.1 1)) ((G'.1 (10 + G'.1 1))) c0' (by omega) u0' (by rw [← eE ((G'.1 1)) c0' c1']; exact u1') c q0 q1
  · rw [eN] at k1
    rw [eE k k0 (by have := hg.1.2; omega)] at j1
    rw [h22, eS]
    exact rows k j k0 k1 j0 j1 c q0 q1
  · rw [eN] at k1
    rw [h23 k k0 k1, hf (m + 24) (by omega) (by omega) (by omega) (by omega) (by omega), eE k k0 (by have := hg.1.2; omega)]
    exact ⟨rfl, (g4 k k0 k1).2⟩
  · rw [f26, eN]; exact g50
  · exact f27
  · rw [hf _ (by omega) (by omega) (by omega) (by omega) (by omega), show (G'.2.2 0) = (G.2.2 0) by rw [eM]]; exact g6
  · rw [f55, eT.1]; exact g70
  · rw [f61, eT.2.1]; exact g71
  · rw [hf _ (by omega) (by omega) (by omega) (by omega) (by omega), show (G'.2.2 1) = (G.2.2 1) by rw [eM], eT.1]; exact g72
  · rw [f64, eT.2.2]; exact g80
  · rw [hf _ (by omega) (by omega) (by omega) (by omega) (by omega), show (G'.2.2 2) = (G.2.2 2) by rw [eM], eT.2.2]; exact g81
  · rw [hf (m + 25) (by omega) (by omega) (by omega) (by omega) (by omega), hf (m + 42) (by omega) (by omega) (by omega) (by omega) (by omega), hf (m + 44) (by omega) (by omega) (by omega) (by omega) (by omega)]; exact g9
theorem cm_mv {d : Int} {J I' : mN} (hg : gWf G) (h : oR S I m G) (hd : (d = -1 ∧ (G.1 (10 + G.1 1)) ≠ 0) ∨ (d = 1 ∧ (G.1 (20 + ((G.1 1)))) ≠ (G.1 (10 + G.1 1))))
    (hJ : J = mUp (mUa I (m + 22) (fun t => if 1395 * (7 * (G.1 1) + (G.1 (10 + G.1 1))) ≤ t ∧ t < 1395 * (7 * (G.1 1) + (G.1 (10 + G.1 1))) + 1395 then I (m + 1) (t - 1395 * (7 * (G.1 1) + (G.1 (10 + G.1 1)))) else I (m + 22) t)) (m + 23) ((G.1 1)) ((G.1 (10 + G.1 1)) + d))
    (hI' : ∀ K : mN, K = mUa J (m + 1) (fun t => if 0 ≤ t ∧ t < 1395 then J (m + 22) (1395 * (7 * (G.1 1) + ((G.1 (10 + G.1 1)) + d)) + t) else J (m + 1) t) → I' = mUp (mUp (mUp (mUa K (m + 16) (fun j => if 0 ≤ j ∧ j < 3 then 0 else K (m + 16) j)) m 17 0) m 28 ((G.1 1))) m 29 (-d)) : oR S I' m (gMv G d) ∧ oFm I I' m ∧ I' m 1 = I m 1 := by
  obtain ⟨⟨c0, c1, c2⟩, u0, u1, u2⟩ := gJ_b hg
  have hI9 := hI' _ rfl
  have jne : ∀ a : Int, a ≠ m + 22 → a ≠ m + 23 → J a = I a := fun a a1 a2 => by rw [hJ, up_fa a2, ua_ne a1]
  have j22 : ∀ t : Int, J (m + 22) t = if 1395 * (7 * (G.1 1) + (G.1 (10 + G.1 1))) ≤ t ∧ t < 1395 * (7 * (G.1 1) + (G.1 (10 + G.1 1))) + 1395 then I (m + 1) (t - 1395 * (7 * (G.1 1) + (G.1 (10 + G.1 1)))) else I (m + 22) t := fun t => by rw [hJ, up_fa (by omega), ua_eq rfl]
  have ine : ∀ a : Int, a ≠ m → a ≠ m + 1 → a ≠ m + 16 → I' a = J a := fun a a1 a2 a3 => by rw [hI9, up_fa a1, up_fa a1, up_fa a1, ua_ne a3, ua_ne a2]
  have im : ∀ k : Int, k ≠ 17 → k ≠ 28 → k ≠ 29 → I' m k = I m k := fun k k1 k2 k3 => by rw [hI9, up_nk k3, up_nk k2, up_nk k1, ua_ne (by omega), ua_ne (by omega), jne m (by omega) (by omega)]
  refine ⟨oR_take hg (gWf_mv hg hd) h (gMv_N hg) (fun _ _ => rfl) (fun k k0 k1 => gMv_E hg k0 k1) ⟨gMv_1 (by omega) (by omega) (by omega), gMv_1 (by omega) (by omega) (by omega), gMv_1 (by omega) (by omega) (by omega)⟩ rfl ⟨gMv_C hg, gMv_J hg⟩ j22 (ine _ (by omega) (by omega) (by omega)) (fun t => ?_) (fun s s0 s1 => ?_) ?_ (fun k k0 k1 => ?_) (fun a a1 a2 a3 a4 a5 => ?_) ⟨?_, ?_, ?_, fun _ => ?_, ?_, ?_, ?_⟩, fun a ha => ?_, im 1 (by decide) (by decide) (by decide)⟩
  · rw [hI9, up_fa (by omega), up_fa (by omega), up_fa (by omega), ua_ne (by omega), ua_eq rfl, jne (m + 1) (by omega) (by omega)]
  · rw [hI9, up_fa (by omega), up_fa (by omega), up_fa (by omega), ua_eq rfl, if_pos ⟨s0, s1⟩]
  · rw [hI9, up_nk (by decide), up_nk (by decide), up_eq rfl rfl]
  · rw [ine _ (by omega) (by omega) (by omega), hJ, gMv_U hg k0 (by have := hg.1.2; omega)]
    by_cases c : k = (G.1 1)
    · rw [if_pos c, up_eq rfl c]
    · rw [if_neg c, up_nk c, ua_ne (by omega)]; exact (h.2.2.2.1 k k0 k1).1
  · rw [ine a a1 a2 a3, jne a a4 a5]
  · exact im 26 (by decide) (by decide) (by decide)
  · rw [im 27 (by decide) (by decide) (by decide), gMv_C hg]; exact h.2.2.2.2.1.2.1
  · rw [show ((gMv G d).1 5) = (G.1 1) from gMv_5, hI9, up_nk (by decide), up_eq rfl rfl]
  · rw [show ((gMv G d).1 6) = -d from gMv_6, hI9, up_eq rfl rfl]
  · exact im 55 (by decide) (by decide) (by decide)
  · exact im 61 (by decide) (by decide) (by decide)
  · exact im 64 (by decide) (by decide) (by decide)
  · rw [ine a (by omega) (by omega) (by omega), jne a (by omega) (by omega)]
theorem cm_19 (hg : gWf G) (h : oR (mSx S m z) I m G) (kk : oK S I m Q [] (r19 G)) : mRun (D + 50) 256 [mR m] I (mSx S m z) Q := by
  obtain ⟨⟨c0, c1, c2⟩, u0, u1, u2⟩ := gJ_b hg
  have hmz := h.1
  have hc := h.2.2.2.2.1.2.1
  have hu : I (m + 23) ((G.1 1)) = (G.1 (10 + G.1 1)) := (h.2.2.2.1 ((G.1 1)) c0 c2).1
  unfold r19 at kk
  have h' := oR_1 (v := 0) h
  by_cases c : (G.1 (10 + G.1 1)) = 0
  · rw [if_pos c] at kk
    have hu0 : I (m + 23) ((G.1 1)) = 0 := by rw [hu]; exact c
    simp (disch := first | omega | exact Nat.le_of_ble_eq_true rfl | (simp (disch := omega) only [ym_k hmz, ym_24 hmz, ym_k24 hmz, ym_l24 hmz, hc, up_fa, up_nk] <;> omega)) only [w_iconst, w_bipush, w_sipush, w_ldc_s, w_ldcw_s, w_ldc_i, w_ldcw_i, w_lconst, w_fconst, w_dconst, w_iload, w_iload_n, w_aload, w_aload_n, w_dload, w_istore, w_istore_n, w_astore_r, w_astore_s, w_astore_n_r, w_astore_n_s, w_dstore, w_iinc, w_iadd, w_isub, w_imul, w_iand, w_iushr, v_idiv, v_irem, w_ineg, w_i2l, w_i2c, w_i2f, w_i2d, v_f2d, w_lcmp, w_dcmp, v_fdiv, v_ddiv, w_dup_i, w_dup_r, w_dup2, w_dup_x2, w_pop_i, w_pop_r, w_goto, w_switch, w_ret_i, v_ret_z, v_ret_c, w_ret_a, w_ret_s, w_ret_f, w_ret_d, w_ret_v, v_iaload, v_baload, v_caload, v_laload, v_aaload, v_iastore, v_bastore, v_castore, v_lastore, v_aastore, v_alen, v_newa, v_anewa, w_new, w_throw, w_dead, v_getf_i, v_getf_z, v_getf_r, v_putf_i, v_putf_z, v_putf_r, w_call0, w_call1, w_callv1, w_calli1, w_callt1, w_call2, w_callv2, w_calli2, w_callt2, w_call3, w_callv3, w_calli3, w_call4, w_callv4, w_calli4, w_call5, w_callv5, w_calli5, w_call6, w_callv6, w_calli6, w_call7, w_callv7, w_calli7, w_call8, w_callv8, w_calli8, c_if0_eq_t, c_if0_eq_f, c_if2_eq_t, c_if2_eq_f, c_if0_ne_t, c_if0_ne_f, c_if2_ne_t, c_if2_ne_f, c_if0_lt_t, c_if0_lt_f, c_if2_lt_t, c_if2_lt_f, c_if0_ge_t, c_if0_ge_f, c_if2_ge_t, c_if2_ge_f, c_if0_gt_t, c_if0_gt_f, c_if2_gt_t, c_if2_gt_f, c_if0_le_t, c_if0_le_f, c_if2_le_t, c_if2_le_f, w_nil, uI_s, uA_r, uA_s, uD_d, mPut_0, mCl_own, mCv_go, mCl_min, mCl_cpy, mCv_obj, mAct_len, mAct_chrc, mAft_v, mAft_n, mAft_x, mGet_0, mSet_0, mGet_1, mSet_1, mGet_2, mSet_2, mGet_3, mSet_3, mGet_4, mSet_4, mGet_5, mSet_5, mGet_6, mSet_6, mGet_7, mSet_7, mGet_8, mSet_8, mGet_9, mSet_9, mGet_10, mSet_10, mGet_11, mSet_11, mGet_12, mSet_12, mGet_13, mSet_13, e_Mo_undo, a_Mo_undo_0, bk_Mo_undo_0, a_Mo_undo_19, bk_Mo_undo_19, ym_k hmz, ym_24 hmz, ym_k24 hmz, ym_l24 hmz, hc, up_fa, up_nk, hu0]
    exact oSay h (oFm_r I m) rfl (fun u hu => oV hu) kk
  · rw [if_neg c] at kk
    generalize hI1 : mUp I m 1 0 = I1 at h'
    have e23 : I1 (m + 23) ((G.1 1)) = (G.1 (10 + G.1 1)) := by rw [← hI1, up_fa (by omega)]; exact hu
    have e27 : I1 m 27 = (G.1 1) := by rw [← hI1, up_nk (by decide)]; exact hc
    have hd : ((-1 : Int) = -1 ∧ (G.1 (10 + G.1 1)) ≠ 0) ∨ ((-1 : Int) = 1 ∧ (G.1 (20 + ((G.1 1)))) ≠ (G.1 (10 + G.1 1))) := Or.inl ⟨rfl, c⟩
    have hkp : ∀ (I : mN) (Q : mQ), mRun (D + 49) 252 [mR m, mI ((G.1 1)), mI ((G.1 (10 + G.1 1)))] I (mSx S m z) Q = Q (.inl none) (mUa I (m + 22) (fun t => if 1395 * (7 * (G.1 1) + (G.1 (10 + G.1 1))) ≤ t ∧ t < 1395 * (7 * (G.1 1) + (G.1 (10 + G.1 1))) + 1395 then I (m + 1) (t - 1395 * (7 * (G.1 1) + (G.1 (10 + G.1 1)))) else I (m + 22) t)) (mSx S m z) := fun I Q => r_keep (D + 47) hmz c0 c1 u0 (by omega) I
    generalize hJ : mUp (mUa I1 (m + 22) (fun t => if 1395 * (7 * (G.1 1) + (G.1 (10 + G.1 1))) ≤ t ∧ t < 1395 * (7 * (G.1 1) + (G.1 (10 + G.1 1))) + 1395 then I1 (m + 1) (t - 1395 * (7 * (G.1 1) + (G.1 (10 + G.1 1)))) else I1 (m + 22) t)) (m + 23) ((G.1 1)) ((G.1 (10 + G.1 1)) - 1) = J
    have j23 : J (m + 23) ((G.1 1)) = (G.1 (10 + G.1 1)) - 1 := by rw [← hJ, up_eq rfl rfl]
    have j27 : J m 27 = (G.1 1) := by rw [← hJ, up_fa (by omega), ua_ne (by omega)]; exact e27
    generalize hK : mUa J (m + 1) (fun t => if 0 ≤ t ∧ t < 1395 then J (m + 22) (1395 * (7 * (G.1 1) + ((G.1 (10 + G.1 1)) - 1)) + t) else J (m + 1) t) = K
    have htk : ∀ (Q : mQ), mRun (D + 49) 253 [mR m, mI ((G.1 1)), mI ((G.1 (10 + G.1 1)) - 1)] J (mSx S m z) Q = Q (.inl none) (mUp (mUa K (m + 16) (fun j => if 0 ≤ j ∧ j < 3 then 0 else K (m + 16) j)) m 17 0) (mSx S m z) := fun Q => r_take (D + 47) hmz c0 c1 (by omega) (by omega) hK.symm
    generalize hL : mUp (mUa K (m + 16) (fun j => if 0 ≤ j ∧ j < 3 then 0 else K (m + 16) j)) m 17 0 = L at htk
    have l27 : L m 27 = (G.1 1) := by rw [← hL, up_nk (by decide), ua_ne (by omega), ← hK, ua_ne (by omega)]; exact j27
    have l23 : L (m + 23) ((G.1 1)) = (G.1 (10 + G.1 1)) - 1 := by rw [← hL, up_fa (by omega), ua_ne (by omega), ← hK, ua_ne (by omega)]; exact j23
    have hnt : ∀ (Q : mQ), mRun (D + 49) 254 [mR m, mI 1] L (mSx S m z) Q = Q (.inl none) (mUp (mUp L m 28 ((G.1 1))) m 29 1) (mSx S m z) := fun Q => by rw [r_note (D + 48) hmz, l27]
    have hfin := cm_mv (d := -1) (J := J) (I' := mUp (mUp L m 28 ((G.1 1))) m 29 1) hg h' hd (by rw [← hJ]; rfl) (fun K' e => by
      have : K' = K := by rw [e, ← hK]; rfl
      rw [this, hL]; rfl)
    have e23' : mUa I1 (m + 22) (fun t => if 1395 * (7 * (G.1 1) + (G.1 (10 + G.1 1))) ≤ t ∧ t < 1395 * (7 * (G.1 1) + (G.1 (10 + G.1 1))) + 1395 then I1 (m + 1) (t - 1395 * (7 * (G.1 1) + (G.1 (10 + G.1 1)))) else I1 (m + 22) t) (m + 23) ((G.1 1)) = (G.1 (10 + G.1 1)) := by rw [ua_ne (by omega)]; exact e23
    have e27' : mUa I1 (m + 22) (fun t => if 1395 * (7 * (G.1 1) + (G.1 (10 + G.1 1))) ≤ t ∧ t < 1395 * (7 * (G.1 1) + (G.1 (10 + G.1 1))) + 1395 then I1 (m + 1) (t - 1395 * (7 * (G.1 1) + (G.1 (10 + G.1 1)))) else I1 (m + 22) t) m 27 = (G.1 1) := by rw [ua_ne (by omega)]; exact e27
    simp (disch := first | omega | exact Nat.le_of_ble_eq_true rfl | (simp (disch := omega) only [ym_k hmz, ym_24 hmz, ym_k24 hmz, ym_l24 hmz, e27, e27', j27] <;> omega)) only [w_iconst, w_bipush, w_sipush, w_ldc_s, w_ldcw_s, w_ldc_i, w_ldcw_i, w_lconst, w_fconst, w_dconst, w_iload, w_iload_n, w_aload, w_aload_n, w_dload, w_istore, w_istore_n, w_astore_r, w_astore_s, w_astore_n_r, w_astore_n_s, w_dstore, w_iinc, w_iadd, w_isub, w_imul, w_iand, w_iushr, v_idiv, v_irem, w_ineg, w_i2l, w_i2c, w_i2f, w_i2d, v_f2d, w_lcmp, w_dcmp, v_fdiv, v_ddiv, w_dup_i, w_dup_r, w_dup2, w_dup_x2, w_pop_i, w_pop_r, w_goto, w_switch, w_ret_i, v_ret_z, v_ret_c, w_ret_a, w_ret_s, w_ret_f, w_ret_d, w_ret_v, v_iaload, v_baload, v_caload, v_laload, v_aaload, v_iastore, v_bastore, v_castore, v_lastore, v_aastore, v_alen, v_newa, v_anewa, w_new, w_throw, w_dead, v_getf_i, v_getf_z, v_getf_r, v_putf_i, v_putf_z, v_putf_r, w_call0, w_call1, w_callv1, w_calli1, w_callt1, w_call2, w_callv2, w_calli2, w_callt2, w_call3, w_callv3, w_calli3, w_call4, w_callv4, w_calli4, w_call5, w_callv5, w_calli5, w_call6, w_callv6, w_calli6, w_call7, w_callv7, w_calli7, w_call8, w_callv8, w_calli8, c_if0_eq_t, c_if0_eq_f, c_if2_eq_t, c_if2_eq_f, c_if0_ne_t, c_if0_ne_f, c_if2_ne_t, c_if2_ne_f, c_if0_lt_t, c_if0_lt_f, c_if2_lt_t, c_if2_lt_f, c_if0_ge_t, c_if0_ge_f, c_if2_ge_t, c_if2_ge_f, c_if0_gt_t, c_if0_gt_f, c_if2_gt_t, c_if2_gt_f, c_if0_le_t, c_if0_le_f, c_if2_le_t, c_if2_le_f, w_nil, uI_s, uA_r, uA_s, uD_d, mPut_0, mCl_own, mCv_go, mCl_min, mCl_cpy, mCv_obj, mAct_len, mAct_chrc, mAft_v, mAft_n, mAft_x, mGet_0, mSet_0, mGet_1, mSet_1, mGet_2, mSet_2, mGet_3, mSet_3, mGet_4, mSet_4, mGet_5, mSet_5, mGet_6, mSet_6, mGet_7, mSet_7, mGet_8, mSet_8, mGet_9, mSet_9, mGet_10, mSet_10, mGet_11, mSet_11, mGet_12, mSet_12, mGet_13, mSet_13, e_Mo_undo, a_Mo_undo_0, bk_Mo_undo_0, a_Mo_undo_19, bk_Mo_undo_19, ym_k hmz, ym_24 hmz, ym_k24 hmz, ym_l24 hmz, hI1, e27, e23, hkp, e27', e23', hJ, j27, j23, htk, l27, l23, hnt, up_fa, up_nk, wr]
    refine kk _ z _ hfin.1 (oFm_t (by rw [← hI1]; exact oFm_1) hfin.2.1) (by rw [hfin.2.2, ← hI1, up_eq rfl rfl]; rfl) (fun u hu => oV hu)
theorem cm_20 (hg : gWf G) (h : oR (mSx S m z) I m G) (kk : oK S I m Q [] (r20 G)) : mRun (D + 50) 257 [mR m] I (mSx S m z) Q := by
  obtain ⟨⟨c0, c1, c2⟩, u0, u1, u2⟩ := gJ_b hg
  have hmz := h.1
  have hc := h.2.2.2.2.1.2.1
  have hu : I (m + 23) ((G.1 1)) = (G.1 (10 + G.1 1)) := (h.2.2.2.1 ((G.1 1)) c0 c2).1
  have hv : I (m + 24) ((G.1 1)) = (G.1 (20 + ((G.1 1)))) := (h.2.2.2.1 ((G.1 1)) c0 c2).2
  unfold r20 at kk
  have h' := oR_1 (v := 0) h
  by_cases c : (G.1 (20 + ((G.1 1)))) = (G.1 (10 + G.1 1))
  · rw [if_pos c] at kk
    simp (disch := first | omega | exact Nat.le_of_ble_eq_true rfl | (simp (disch := omega) only [ym_k hmz, ym_24 hmz, ym_k24 hmz, ym_l24 hmz, ym_25 hmz, ym_k25 hmz, ym_l25 hmz, hc, up_fa, up_nk] <;> omega)) only [w_iconst, w_bipush, w_sipush, w_ldc_s, w_ldcw_s, w_ldc_i, w_ldcw_i, w_lconst, w_fconst, w_dconst, w_iload, w_iload_n, w_aload, w_aload_n, w_dload, w_istore, w_istore_n, w_astore_r, w_astore_s, w_astore_n_r, w_astore_n_s, w_dstore, w_iinc, w_iadd, w_isub, w_imul, w_iand, w_iushr, v_idiv, v_irem, w_ineg, w_i2l, w_i2c, w_i2f, w_i2d, v_f2d, w_lcmp, w_dcmp, v_fdiv, v_ddiv, w_dup_i, w_dup_r, w_dup2, w_dup_x2, w_pop_i, w_pop_r, w_goto, w_switch, w_ret_i, v_ret_z, v_ret_c, w_ret_a, w_ret_s, w_ret_f, w_ret_d, w_ret_v, v_iaload, v_baload, v_caload, v_laload, v_aaload, v_iastore, v_bastore, v_castore, v_lastore, v_aastore, v_alen, v_newa, v_anewa, w_new, w_throw, w_dead, v_getf_i, v_getf_z, v_getf_r, v_putf_i, v_putf_z, v_putf_r, w_call0, w_call1, w_callv1, w_calli1, w_callt1, w_call2, w_callv2, w_calli2, w_callt2, w_call3, w_callv3, w_calli3, w_call4, w_callv4, w_calli4, w_call5, w_callv5, w_calli5, w_call6, w_callv6, w_calli6, w_call7, w_callv7, w_calli7, w_call8, w_callv8, w_calli8, c_if0_eq_t, c_if0_eq_f, c_if2_eq_t, c_if2_eq_f, c_if0_ne_t, c_if0_ne_f, c_if2_ne_t, c_if2_ne_f, c_if0_lt_t, c_if0_lt_f, c_if2_lt_t, c_if2_lt_f, c_if0_ge_t, c_if0_ge_f, c_if2_ge_t, c_if2_ge_f, c_if0_gt_t, c_if0_gt_f, c_if2_gt_t, c_if2_gt_f, c_if0_le_t, c_if0_le_f, c_if2_le_t, c_if2_le_f, w_nil, uI_s, uA_r, uA_s, uD_d, mPut_0, mCl_own, mCv_go, mCl_min, mCl_cpy, mCv_obj, mAct_len, mAct_chrc, mAft_v, mAft_n, mAft_x, mGet_0, mSet_0, mGet_1, mSet_1, mGet_2, mSet_2, mGet_3, mSet_3, mGet_4, mSet_4, mGet_5, mSet_5, mGet_6, mSet_6, mGet_7, mSet_7, mGet_8, mSet_8, mGet_9, mSet_9, mGet_10, mSet_10, mGet_11, mSet_11, mGet_12, mSet_12, mGet_13, mSet_13, e_Mo_redo, a_Mo_redo_0, bk_Mo_redo_0, a_Mo_redo_28, bk_Mo_redo_28, ym_k hmz, ym_24 hmz, ym_k24 hmz, ym_l24 hmz, ym_25 hmz, ym_k25 hmz, ym_l25 hmz, hc, up_fa, up_nk, hu, hv]
    exact oSay h (oFm_r I m) rfl (fun u hu => oV hu) kk
  · rw [if_neg c] at kk
    generalize hI1 : mUp I m 1 0 = I1 at h'
    have e23 : I1 (m + 23) ((G.1 1)) = (G.1 (10 + G.1 1)) := by rw [← hI1, up_fa (by omega)]; exact hu
    have e24 : I1 (m + 24) ((G.1 1)) = (G.1 (20 + ((G.1 1)))) := by rw [← hI1, up_fa (by omega)]; exact hv
    have e27 : I1 m 27 = (G.1 1) := by rw [← hI1, up_nk (by decide)]; exact hc
    have hd : ((1 : Int) = -1 ∧ (G.1 (10 + G.1 1)) ≠ 0) ∨ ((1 : Int) = 1 ∧ (G.1 (20 + ((G.1 1)))) ≠ (G.1 (10 + G.1 1))) := Or.inr ⟨rfl, c⟩
    have hkp : ∀ (I : mN) (Q : mQ), mRun (D + 49) 252 [mR m, mI ((G.1 1)), mI ((G.1 (10 + G.1 1)))] I (mSx S m z) Q = Q (.inl none) (mUa I (m + 22) (fun t => if 1395 * (7 * (G.1 1) + (G.1 (10 + G.1 1))) ≤ t ∧ t < 1395 * (7 * (G.1 1) + (G.1 (10 + G.1 1))) + 1395 then I (m + 1) (t - 1395 * (7 * (G.1 1) + (G.1 (10 + G.1 1)))) else I (m + 22) t)) (mSx S m z) := fun I Q => r_keep (D + 47) hmz c0 c1 u0 (by omega) I
    generalize hJ : mUp (mUa I1 (m + 22) (fun t => if 1395 * (7 * (G.1 1) + (G.1 (10 + G.1 1))) ≤ t ∧ t < 1395 * (7 * (G.1 1) + (G.1 (10 + G.1 1))) + 1395 then I1 (m + 1) (t - 1395 * (7 * (G.1 1) + (G.1 (10 + G.1 1)))) else I1 (m + 22) t)) (m + 23) ((G.1 1)) ((G.1 (10 + G.1 1)) + 1) = J
    have j23 : J (m + 23) ((G.1 1)) = (G.1 (10 + G.1 1)) + 1 := by rw [← hJ, up_eq rfl rfl]
    have j27 : J m 27 = (G.1 1) := by rw [← hJ, up_fa (by omega), ua_ne (by omega)]; exact e27
    have j24 : J (m + 24) ((G.1 1)) = (G.1 (20 + ((G.1 1)))) := by rw [← hJ, up_fa (by omega), ua_ne (by omega)]; exact e24
    generalize hK : mUa J (m + 1) (fun t => if 0 ≤ t ∧ t < 1395 then J (m + 22) (1395 * (7 * (G.1 1) + ((G.1 (10 + G.1 1)) + 1)) + t) else J (m + 1) t) = K
    have htk : ∀ (Q : mQ), mRun (D + 49) 253 [mR m, mI ((G.1 1)), mI ((G.1 (10 + G.1 1)) + 1)] J (mSx S m z) Q = Q (.inl none) (mUp (mUa K (m + 16) (fun j => if 0 ≤ j ∧ j < 3 then 0 else K (m + 16) j)) m 17 0) (mSx S m z) := fun Q => r_take (D + 47) hmz c0 c1 (by omega) (by omega) hK.symm
    generalize hL : mUp (mUa K (m + 16) (fun j => if 0 ≤ j ∧ j < 3 then 0 else K (m + 16) j)) m 17 0 = L at htk
    have l27 : L m 27 = (G.1 1) := by rw [← hL, up_nk (by decide), ua_ne (by omega), ← hK, ua_ne (by omega)]; exact j27
    have l23 : L (m + 23) ((G.1 1)) = (G.1 (10 + G.1 1)) + 1 := by rw [← hL, up_fa (by omega), ua_ne (by omega), ← hK, ua_ne (by omega)]; exact j23
    have l24 : L (m + 24) ((G.1 1)) = (G.1 (20 + ((G.1 1)))) := by rw [← hL, up_fa (by omega), ua_ne (by omega), ← hK, ua_ne (by omega)]; exact j24
    have hnt : ∀ (Q : mQ), mRun (D + 49) 254 [mR m, mI (-1)] L (mSx S m z) Q = Q (.inl none) (mUp (mUp L m 28 ((G.1 1))) m 29 (-1)) (mSx S m z) := fun Q => by rw [r_note (D + 48) hmz, l27]
    have hfin := cm_mv (d := 1) (J := J) (I' := mUp (mUp L m 28 ((G.1 1))) m 29 (-1)) hg h' hd (by rw [← hJ]) (fun K' e => by
      have : K' = K := by rw [e, ← hK]
      rw [this, hL])
    have e23' : mUa I1 (m + 22) (fun t => if 1395 * (7 * (G.1 1) + (G.1 (10 + G.1 1))) ≤ t ∧ t < 1395 * (7 * (G.1 1) + (G.1 (10 + G.1 1))) + 1395 then I1 (m + 1) (t - 1395 * (7 * (G.1 1) + (G.1 (10 + G.1 1)))) else I1 (m + 22) t) (m + 23) ((G.1 1)) = (G.1 (10 + G.1 1)) := by rw [ua_ne (by omega)]; exact e23
    have e27' : mUa I1 (m + 22) (fun t => if 1395 * (7 * (G.1 1) + (G.1 (10 + G.1 1))) ≤ t ∧ t < 1395 * (7 * (G.1 1) + (G.1 (10 + G.1 1))) + 1395 then I1 (m + 1) (t - 1395 * (7 * (G.1 1) + (G.1 (10 + G.1 1)))) else I1 (m + 22) t) m 27 = (G.1 1) := by rw [ua_ne (by omega)]; exact e27
    have e9 : (G.1 (20 + ((G.1 1)))) - ((G.1 (10 + G.1 1)) + 1) = (G.1 (20 + ((G.1 1)))) - (G.1 (10 + G.1 1)) - 1 := by omega
    have ene : (G.1 (10 + G.1 1)) ≠ (G.1 (20 + ((G.1 1)))) := fun e => c e.symm
    simp (disch := first | omega | exact Nat.le_of_ble_eq_true rfl | (simp (disch := omega) only [ym_k hmz, ym_24 hmz, ym_k24 hmz, ym_l24 hmz, ym_25 hmz, ym_k25 hmz, ym_l25 hmz, e27, e27', j27] <;> omega)) only [w_iconst, w_bipush, w_sipush, w_ldc_s, w_ldcw_s, w_ldc_i, w_ldcw_i, w_lconst, w_fconst, w_dconst, w_iload, w_iload_n, w_aload, w_aload_n, w_dload, w_istore, w_istore_n, w_astore_r, w_astore_s, w_astore_n_r, w_astore_n_s, w_dstore, w_iinc, w_iadd, w_isub, w_imul, w_iand, w_iushr, v_idiv, v_irem, w_ineg, w_i2l, w_i2c, w_i2f, w_i2d, v_f2d, w_lcmp, w_dcmp, v_fdiv, v_ddiv, w_dup_i, w_dup_r, w_dup2, w_dup_x2, w_pop_i, w_pop_r, w_goto, w_switch, w_ret_i, v_ret_z, v_ret_c, w_ret_a, w_ret_s, w_ret_f, w_ret_d, w_ret_v, v_iaload, v_baload, v_caload, v_laload, v_aaload, v_iastore, v_bastore, v_castore, v_lastore, v_aastore, v_alen, v_newa, v_anewa, w_new, w_throw, w_dead, v_getf_i, v_getf_z, v_getf_r, v_putf_i, v_putf_z, v_putf_r, w_call0, w_call1, w_callv1, w_calli1, w_callt1, w_call2, w_callv2, w_calli2, w_callt2, w_call3, w_callv3, w_calli3, w_call4, w_callv4, w_calli4, w_call5, w_callv5, w_calli5, w_call6, w_callv6, w_calli6, w_call7, w_callv7, w_calli7, w_call8, w_callv8, w_calli8, c_if0_eq_t, c_if0_eq_f, c_if2_eq_t, c_if2_eq_f, c_if0_ne_t, c_if0_ne_f, c_if2_ne_t, c_if2_ne_f, c_if0_lt_t, c_if0_lt_f, c_if2_lt_t, c_if2_lt_f, c_if0_ge_t, c_if0_ge_f, c_if2_ge_t, c_if2_ge_f, c_if0_gt_t, c_if0_gt_f, c_if2_gt_t, c_if2_gt_f, c_if0_le_t, c_if0_le_f, c_if2_le_t, c_if2_le_f, w_nil, uI_s, uA_r, uA_s, uD_d, mPut_0, mCl_own, mCv_go, mCl_min, mCl_cpy, mCv_obj, mAct_len, mAct_chrc, mAft_v, mAft_n, mAft_x, mGet_0, mSet_0, mGet_1, mSet_1, mGet_2, mSet_2, mGet_3, mSet_3, mGet_4, mSet_4, mGet_5, mSet_5, mGet_6, mSet_6, mGet_7, mSet_7, mGet_8, mSet_8, mGet_9, mSet_9, mGet_10, mSet_10, mGet_11, mSet_11, mGet_12, mSet_12, mGet_13, mSet_13, e_Mo_redo, a_Mo_redo_0, bk_Mo_redo_0, a_Mo_redo_28, bk_Mo_redo_28, ym_k hmz, ym_24 hmz, ym_k24 hmz, ym_l24 hmz, ym_25 hmz, ym_k25 hmz, ym_l25 hmz, hI1, e27, e23, e24, hkp, e27', e23', hJ, j27, j23, htk, l27, l23, l24, hnt, up_fa, up_nk, wr, e9]
    refine kk _ z _ hfin.1 (oFm_t (by rw [← hI1]; exact oFm_1) hfin.2.1) (by rw [hfin.2.2, ← hI1, up_eq rfl rfl]; rfl) (fun u hu => oV hu)
end OV
