/-! What a text read as a basin says is well formed. -/
theorem zXf_le {K V : Int → Int} {wk : Int} {fl : Int → Int → Int → Int} : ∀ (f c k : Nat) (v i u j : Int), zXf K V wk fl f c k v i = some (some u, j) → i ≤ 60 → j ≤ 60
  | 0, _, _, _, _, _, _, h, _ => by cases h
  | f + 1, c, k, v, i, u, j, h, hi => by
    have ih := zXf_le (K := K) (V := V) (wk := wk) (fl := fl) f
    rw [zXf] at h
    by_cases c0 : c = 0
    · rw [if_pos c0] at h
      split at h
      · split at h <;> cases h; omega
      · split at h
        · split at h <;> cases h; omega
        · split at h
          · split at h
            · cases h
            · split at h
              · cases h
              · obtain ⟨x, l, ha, hg⟩ := xBd_ok h
                have i1 := ih _ _ _ _ _ _ ha (by omega)
                split at hg
                · split at hg
                  · cases hg
                  · obtain ⟨x2, l2, ha2, hg2⟩ := xBd_ok hg
                    have i2 := ih _ _ _ _ _ _ ha2 (by omega)
                    split at hg2
                    · cases hg2
                    · cases hg2; omega
                · split at hg
                  · cases hg
                  · cases hg; omega
          · split at h
            · cases h
            · obtain ⟨x, l, ha, hg⟩ := xBd_ok h
              have i1 := ih _ _ _ _ _ _ ha (by omega)
              split at hg
              · cases hg
              · cases hg; omega
    · rw [if_neg c0] at h
      by_cases c1 : c = 1
      · rw [if_pos c1] at h
        obtain ⟨x, l, ha, hg⟩ := xBd_ok h
        exact ih _ _ _ _ _ _ hg (ih _ _ _ _ _ _ ha hi)
      · rw [if_neg c1] at h
        by_cases c4 : c = 4
        · rw [if_pos c4] at h
          split at h
          · split at h
            · cases h
            · obtain ⟨x, l, ha, hg⟩ := xBd_ok h
              exact ih _ _ _ _ _ _ hg (ih _ _ _ _ _ _ ha (by omega))
          · cases h; exact hi
        · rw [if_neg c4] at h
          by_cases c2 : c = 2
          · rw [if_pos c2] at h
            obtain ⟨x, l, ha, hg⟩ := xBd_ok h
            exact ih _ _ _ _ _ _ hg (ih _ _ _ _ _ _ ha hi)
          · rw [if_neg c2] at h
            by_cases c5 : c = 5
            · rw [if_pos c5] at h
              split at h
              · split at h
                · cases h
                · obtain ⟨x, l, ha, hg⟩ := xBd_ok h
                  exact ih _ _ _ _ _ _ hg (ih _ _ _ _ _ _ ha (by omega))
              · cases h; exact hi
            · rw [if_neg c5] at h
              split at h
              · split at h
                · cases h
                · obtain ⟨x, l, ha, hg⟩ := xBd_ok h
                  split at hg
                  · cases hg
                  · obtain ⟨x2, l2, ha2, hg2⟩ := xBd_ok hg
                    split at hg2
                    · cases hg2
                    · obtain ⟨x3, l3, ha3, hg3⟩ := xBd_ok hg2
                      split at hg3
                      · cases hg3
                      · obtain ⟨x4, l4, ha4, hg4⟩ := xBd_ok hg3
                        cases hg4
                        exact ih _ _ _ _ _ _ ha4 (by omega)
              · exact ih _ _ _ _ _ _ h hi
section QE
variable {tx : Int → Int} {N t : Int} {σ : sT}
theorem zDr_60 (b : Int) (h : (zDr tx N b).1 ≠ none) : 0 ≤ (zDr tx N b).2 ∧ (zDr tx N b).2 ≤ 60 := by
  have hx := zDr_e tx N b
  generalize hz : zDr tx N b = z at h hx
  obtain ⟨res, j⟩ := z
  match res, h, hx with
  | some u, h, hx => exact ⟨zXf_n0 400 3 8 0 0 _ j hx (Int.le_refl 0), zXf_le 400 3 8 0 0 u j hx (by decide)⟩
theorem qN_x {lo hi : Int} {f : Int → zRr} (h : (qNum tx N lo hi t f).1 = 1) : ∃ v : Int, (lo ≤ v ∧ v ≤ hi) ∧ qNum tx N lo hi t f = f v := by
  by_cases c : zK tx N t = 2 ∧ lo ≤ zV tx N t ∧ zV tx N t ≤ hi
  · exact ⟨zV tx N t, c.2, qNum_1 c⟩
  · rw [qNum_0 c] at h
    exact absurd (show (0 : Int) = 1 from h) (by decide)
def sWz (σ : sT) : Prop := sWf σ ∧ sZ σ
theorem qW_p {r : Int} (r0 : 0 ≤ r) : ∀ (n : Nat) (σ : sT) (t : Int), sWz σ → r < σ 2 → (qWk tx N r n σ t).1 = 1 → sWz (qWk tx N r n σ t).2.2
  | 0, σ, t, hw, _, _ => hw
  | n + 1, σ, t, hw, hr, h => by
    have hb := hw.1.1
    have e0 : qWk tx N r (n + 1) σ t = if zK tx N t = 17 then qNum tx N 0 7 (t + 1) (fun w => qNum tx N 0 50 (t + 2) (fun c => qWk tx N r n (zU σ (19 + 11 * r + w) c) (t + 3))) else (1, t, σ) := rfl
    rw [e0] at h ⊢
    by_cases c : zK tx N t = 17
    · rw [if_pos c] at h ⊢
      obtain ⟨w, hw1, e⟩ := qN_x h
      rw [e] at h ⊢
      obtain ⟨v, hv1, e⟩ := qN_x h
      rw [e] at h ⊢
      exact qW_p r0 n _ _ ⟨sWf_cap hw.1 r0 hr hw1.1 (by omega) hv1.1 (by omega), sZ_u hw.2 (by omega) (by omega)⟩ (by rw [zU_ne (by omega)]; exact hr) h
    · rw [if_neg c] at h ⊢
      exact hw
theorem qP_p (n0 : 0 ≤ N) (n9 : N ≤ 900) {i : Int} (i0 : 0 ≤ i) : ∀ (n : Nat) (σ : sT) (t : Int), sWz σ → i < σ 3 → (qPa tx N i n σ t).1 = 1 → sWz (qPa tx N i n σ t).2.2
  | 0, σ, t, hw, _, _ => hw
  | n + 1, σ, t, hw, hi, h => by
    have hb := hw.1.1
    rw [qPa_e] at h ⊢
    by_cases c19 : zK tx N t = 19
    · rw [if_pos c19] at h ⊢
      obtain ⟨v, hv, e⟩ := qN_x h
      rw [e] at h ⊢
      exact qP_p n0 n9 i0 n _ _ ⟨sWf_cell hw.1 i0 hi (Or.inl ⟨rfl, by omega, by omega⟩), sZ_u hw.2 (by omega) (by omega)⟩ (by rw [zU_ne (by omega)]; exact hi) h
    · rw [if_neg c19] at h ⊢
      by_cases c20 : zK tx N t = 20
      · rw [if_pos c20] at h ⊢
        obtain ⟨f, hf, e⟩ := qN_x h
        rw [e] at h ⊢
        obtain ⟨l, hl, e⟩ := qN_x h
        rw [e] at h ⊢
        obtain ⟨a, ha, e⟩ := qN_x h
        rw [e] at h ⊢
        have e3 : sAskR σ i f l a 3 = σ 3 := if_neg (by omega)
        exact qP_p n0 n9 i0 n _ _ ⟨sWf_ask hw.1 i0 hi hf.1 (by omega) ha.1 ha.2, sZ_ask hw.2 i0 (by omega) hf.1 (by omega)⟩ (by rw [e3]; exact hi) h
      · rw [if_neg c20] at h ⊢
        by_cases c21 : zK tx N t = 21
        · rw [if_pos c21] at h ⊢
          by_cases cn : (zDr tx N (t + 1)).1 = none
          · rw [if_pos cn] at h
            exact absurd (show (0 : Int) = 1 from h) (by decide)
          · rw [if_neg cn] at h ⊢
            obtain ⟨j0, j1⟩ := zDr_60 (t + 1) cn
            obtain ⟨g1, g2⟩ := zDr_s n0 n9 (t + 1) cn j1
            have e3 : sDcr σ i (zDr tx N (t + 1)).2 (zTT tx N (t + 1)) 3 = σ 3 := by
              unfold sDcr
              rw [if_neg (by omega), if_neg (by omega)]
            exact qP_p n0 n9 i0 n _ _ ⟨sWf_dcr hw.1 i0 hi j0 j1 (fun k k0 k1 => (g1 k k0 k1).2) (fun _ => g2), sZ_dcr hw.2 i0 (by omega)⟩ (by rw [e3]; exact hi) h
        · rw [if_neg c21] at h ⊢
          exact hw
theorem qF_p {s p : Int} (s0 : 0 ≤ s) (s1 : s < 3) (p0 : 0 ≤ p) : ∀ (n : Nat) (w : Int) (σ : sT) (t : Int), 0 ≤ w → w + n ≤ 8 → sWz σ → p < σ 1 → (qFl tx N s p n w σ t).1 = 1 → sWz (qFl tx N s p n w σ t).2.2
  | 0, w, σ, t, _, _, hw, _, _ => hw
  | n + 1, w, σ, t, w0, w1, hw, hp, h => by
    have hb := hw.1.1
    have e0 : qFl tx N s p (n + 1) w σ t = if zK tx N t = 2 then qNum tx N 0 40 t (fun a => qFl tx N s p n (w + 1) (zU σ (115 + 48 * s + 8 * p + w) a) (t + 1)) else (1, t, σ) := rfl
    rw [e0] at h ⊢
    by_cases c : zK tx N t = 2
    · rw [if_pos c] at h ⊢
      obtain ⟨a, ha, e⟩ := qN_x h
      rw [e] at h ⊢
      exact qF_p s0 s1 p0 n (w + 1) _ _ (by omega) (by omega) ⟨sWf_inf hw.1 s0 s1 p0 hp w0 (by omega) ha.1 ha.2, sZ_u hw.2 (by omega) (by omega)⟩ (by rw [zU_ne (by omega)]; exact hp) h
    · rw [if_neg c] at h ⊢
      exact hw
theorem qS_p (n0 : 0 ≤ N) (n9 : N ≤ 900) (hw : sWz σ) (h : (qSt tx N σ t).1 = 1) : sWz (qSt tx N σ t).2.2 := by
  have hb := hw.1.1
  unfold qSt at h ⊢
  by_cases c15 : zK tx N t = 15 ∧ σ 1 < 6
  · rw [if_pos c15] at h ⊢
    unfold qPl at h ⊢
    obtain ⟨c, hc, e⟩ := qN_x h
    rw [e] at h ⊢
    obtain ⟨s, hs, e⟩ := qN_x h
    rw [e]
    exact ⟨sWf_adp hw.1 c15.2 hc.1 hc.2 hs.1 hs.2, sZ_adp hw.2 hw.1 c15.2⟩
  · rw [if_neg c15] at h ⊢
    by_cases c16 : zK tx N t = 16 ∧ σ 2 < 9
    · rw [if_pos c16] at h ⊢
      unfold qRe at h ⊢
      obtain ⟨f, hf, e⟩ := qN_x h
      rw [e] at h ⊢
      by_cases cf : zK tx N (t + 1 + 1) = 2 ∧ zV tx N (t + 1 + 1) = f
      · rw [if_pos cf] at h
        exact absurd (show (0 : Int) = 1 from h) (by decide)
      · rw [if_neg cf] at h ⊢
        have hgx : ∃ g : Int, ((0 ≤ g ∧ g ≤ σ 1 - 1) ∧ g ≠ f) ∧ qNum tx N 0 (σ 1 - 1) (t + 1 + 1) (fun g => qNum tx N 0 50 (t + 1 + 2) (fun c => qNum tx N 0 2 (t + 1 + 3) (fun w => qWk tx N (σ 2) 900 (sAddE σ f g c w) (t + 1 + 4)))) = qNum tx N 0 50 (t + 1 + 2) (fun c => qNum tx N 0 2 (t + 1 + 3) (fun w => qWk tx N (σ 2) 900 (sAddE σ f g c w) (t + 1 + 4))) := by
          by_cases c : zK tx N (t + 1 + 1) = 2 ∧ 0 ≤ zV tx N (t + 1 + 1) ∧ zV tx N (t + 1 + 1) ≤ σ 1 - 1
          · exact ⟨zV tx N (t + 1 + 1), ⟨c.2, fun q => cf ⟨c.1, q⟩⟩, qNum_1 c⟩
          · rw [qNum_0 c] at h
            exact absurd (show (0 : Int) = 1 from h) (by decide)
        obtain ⟨g, hg, e⟩ := hgx
        rw [e] at h ⊢
        obtain ⟨c, hc, e⟩ := qN_x h
        rw [e] at h ⊢
        obtain ⟨w, hw2, e⟩ := qN_x h
        rw [e] at h ⊢
        have e2 : sAddE σ f g c w 2 = σ 2 + 1 := if_pos rfl
        exact qW_p (by omega) 900 _ _ ⟨sWf_ade hw.1 c16.2 hf.1 (by omega) hg.1.1 (by omega) (Ne.symm hg.2) hc.1 hc.2 hw2.1 hw2.2, sZ_ade hw.2 hw.1 c16.2⟩ (by omega) h
    · rw [if_neg c16] at h ⊢
      by_cases c18 : zK tx N t = 18 ∧ σ 3 < 10
      · rw [if_pos c18] at h ⊢
        unfold qRi at h ⊢
        obtain ⟨p, hp, e⟩ := qN_x h
        rw [e] at h ⊢
        obtain ⟨y, hy, e⟩ := qN_x h
        rw [e] at h ⊢
        obtain ⟨c, hc, e⟩ := qN_x h
        rw [e] at h ⊢
        have e3 : sAddI σ p y c (σ 3) (-1) 3 = σ 3 + 1 := if_pos rfl
        exact qP_p n0 n9 (by omega) 900 _ _ ⟨sWf_adi hw.1 c18.2 hp.1 (by omega) hy.1 hy.2 hc.1 hc.2 (by omega) c18.2 (by decide) (by decide), sZ_adi hw.2 hw.1 c18.2⟩ (by omega) h
      · rw [if_neg c18] at h ⊢
        by_cases c22 : zK tx N t = 22
        · rw [if_pos c22] at h ⊢
          unfold qIn at h ⊢
          obtain ⟨s, hs, e⟩ := qN_x h
          rw [e] at h ⊢
          obtain ⟨p, hp, e⟩ := qN_x h
          rw [e] at h ⊢
          obtain ⟨a, ha, e⟩ := qN_x h
          rw [e] at h ⊢
          exact qF_p hs.1 (by omega) hp.1 7 1 _ _ (by decide) (by decide) ⟨sWf_inf hw.1 hs.1 (by omega) hp.1 (by omega) (Int.le_refl 0) (by decide) ha.1 ha.2, sZ_u hw.2 (by omega) (by omega)⟩ (by rw [zU_ne (by omega)]; omega) h
        · rw [if_neg c22] at h
          exact absurd (show (0 : Int) = 1 from h) (by decide)
theorem qB_p (n0 : 0 ≤ N) (n9 : N ≤ 900) : ∀ (n : Nat) (σ : sT) (t : Int), sWz σ → (qBs tx N n σ t).1 = 1 → sWz (qBs tx N n σ t).2.2
  | 0, σ, t, hw, h => by
    have e : qBs tx N 0 σ t = if zK tx N t = 0 then (1, t, σ) else (0, t, fun _ => 0) := rfl
    rw [e] at h ⊢
    by_cases c : zK tx N t = 0
    · rw [if_pos c]; exact hw
    · rw [if_neg c] at h
      exact absurd (show (0 : Int) = 1 from h) (by decide)
  | n + 1, σ, t, hw, h => by
    rw [qBs_e] at h ⊢
    by_cases c : zK tx N t = 0
    · rw [if_pos c]; exact hw
    · rw [if_neg c] at h ⊢
      by_cases c1 : (qSt tx N σ t).1 = 1
      · rw [if_pos c1] at h ⊢
        by_cases c3 : zK tx N (qSt tx N σ t).2.1 = 3
        · rw [if_pos c3] at h ⊢
          exact qB_p n0 n9 n _ _ (qS_p n0 n9 hw c1) h
        · rw [if_neg c3] at h
          exact absurd (show (0 : Int) = 1 from h) (by decide)
      · rw [if_neg c1] at h
        exact absurd (show (0 : Int) = 1 from h) (by decide)
theorem qTop_p (n0 : 0 ≤ N) (n9 : N ≤ 900) (h : (qTop tx N).1 = 1) : sWz (qTop tx N).2.2 := by
  unfold qTop at h ⊢
  by_cases c1 : zK tx N 0 = 14
  · rw [if_pos c1] at h ⊢
    by_cases c2 : zK tx N 1 = 3
    · rw [if_pos c2] at h ⊢
      exact qB_p n0 n9 900 _ _ ⟨sWf_0, sZ_0⟩ h
    · rw [if_neg c2] at h
      exact absurd (show (0 : Int) = 1 from h) (by decide)
  · rw [if_neg c1] at h
    exact absurd (show (0 : Int) = 1 from h) (by decide)
end QE
section QG
variable {S : mH} {I : mN} {x m z : Int} {π : Int → Int → Int} {G : gT} {Q : mQ} (D : Nat)
theorem cx_2 (hg : gWf G) (h : xR S I x G) (hn : x + 2369 ≤ S.2.2.2.1) (kk : xK S I x Q (r2 G)) : mRun (D + 50) 118 [mR x] I S Q := by
  obtain ⟨π, hx, h3⟩ := id h
  have h1 := hx.1
  have hr := yx_r h1
  have hT := yx_T h1
  obtain ⟨t1, t2, t3⟩ := hx.2.2.2.2.2.2.2.2.1
  have tb := hg.2.2.2.2.1.1
  have hokT := hx.2.2.2.2.2.1
  unfold r2 at kk
  have htx : zTxR I (x + 2359) ((G.2.2 1)) ((G.1 2)) := ⟨tb.2, fun i i0 i1 => by rw [show x + 2359 + 1 = x + 2360 by omega]; exact t3 i i0 i1⟩
  have hbd : rBd I (x + 2359) := fun j j0 j1 => by rw [show x + 2359 + 5 = x + 2364 by omega]; exact hx.2.2.2.2.2.2.2.2.2.1.1 j j0 j1
  simp (disch := first | omega | exact Nat.le_of_ble_eq_true rfl | (simp (disch := omega) only [yx_k h1, yx_0 h1, yx_4 h1, yx_5 h1, yx_6 h1, yx_7 h1, yx_8 h1, yx_9 h1, yx_10 h1, yx_k1 h1, yx_l1 h1, yx_b h1, yx_bk h1, yx_bs h1, yx_sk h1, yx_sl h1, yx_s h1, yx_e h1, yx_k9 h1, yx_l9 h1, yx_k10 h1, yx_l10 h1, yr_k hr] <;> omega)) only [w_iconst, w_bipush, w_sipush, w_ldc_s, w_ldcw_s, w_ldc_i, w_ldcw_i, w_lconst, w_fconst, w_dconst, w_iload, w_iload_n, w_aload, w_aload_n, w_dload, w_istore, w_istore_n, w_astore_r, w_astore_s, w_astore_n_r, w_astore_n_s, w_dstore, w_iinc, w_iadd, w_isub, w_imul, w_iand, w_iushr, v_idiv, v_irem, w_ineg, w_i2l, w_i2c, w_i2f, w_i2d, v_f2d, w_lcmp, w_dcmp, v_fdiv, v_ddiv, w_dup_i, w_dup_r, w_dup2, w_dup_x2, w_pop_i, w_pop_r, w_goto, w_switch, w_ret_i, v_ret_z, v_ret_c, w_ret_a, w_ret_s, w_ret_f, w_ret_d, w_ret_v, v_iaload, v_baload, v_caload, v_laload, v_aaload, v_iastore, v_bastore, v_castore, v_lastore, v_aastore, v_alen, v_newa, v_anewa, w_new, w_throw, w_dead, v_getf_i, v_getf_z, v_getf_r, v_putf_i, v_putf_z, v_putf_r, w_call0, w_call1, w_callv1, w_calli1, w_callt1, w_call2, w_callv2, w_calli2, w_callt2, w_call3, w_callv3, w_calli3, w_call4, w_callv4, w_calli4, w_call5, w_callv5, w_calli5, w_call6, w_callv6, w_calli6, w_call7, w_callv7, w_calli7, w_call8, w_callv8, w_calli8, c_if0_eq_t, c_if0_eq_f, c_if2_eq_t, c_if2_eq_f, c_if0_ne_t, c_if0_ne_f, c_if2_ne_t, c_if2_ne_f, c_if0_lt_t, c_if0_lt_f, c_if2_lt_t, c_if2_lt_f, c_if0_ge_t, c_if0_ge_f, c_if2_ge_t, c_if2_ge_f, c_if0_gt_t, c_if0_gt_f, c_if2_gt_t, c_if2_gt_f, c_if0_le_t, c_if0_le_f, c_if2_le_t, c_if2_le_f, w_nil, uI_s, uA_r, uA_s, uD_d, mPut_0, mCl_own, mCv_go, mCl_min, mCl_cpy, mCv_obj, mAct_len, mAct_chrc, mAft_v, mAft_n, mAft_x, mGet_0, mSet_0, mGet_1, mSet_1, mGet_2, mSet_2, mGet_3, mSet_3, mGet_4, mSet_4, mGet_5, mSet_5, mGet_6, mSet_6, mGet_7, mSet_7, mGet_8, mSet_8, mGet_9, mSet_9, mGet_10, mSet_10, mGet_11, mSet_11, mGet_12, mSet_12, mGet_13, mSet_13, e_RS_readBasin, a_RS_readBasin_0, bk_RS_readBasin_0, yx_k h1, yx_0 h1, yx_4 h1, yx_5 h1, yx_6 h1, yx_7 h1, yx_8 h1, yx_9 h1, yx_10 h1, yx_k1 h1, yx_l1 h1, yx_b h1, yx_bk h1, yx_bs h1, yx_sk h1, yx_sl h1, yx_s h1, yx_e h1, yx_k9 h1, yx_l9 h1, yx_k10 h1, yx_l10 h1, yr_k hr]
  have hG : zSi I (x + 2359) := by unfold zSi; rw [show x + 2359 - 3 + 1 = x + 2357 by omega, show x + 2359 - 3 + 2 = x + 2358 by omega]; exact hx.2.2.2.2.2.2.2.2.2.1.2
  refine p_takeBas D (by omega) hT tb.1 tb.2 hr hG t1 htx hokT hbd (fun I1 f1 hb1 i1 hyes hno h01 => ?_)
  have hok1 : yOk I1 (x + 2234) := by
    rcases h01 with q | q
    · exact (hno q).2
    · exact (hyes q).2.2.1
  have hxc : ∀ e : Int, I1 (x + 2359) 2 = e → xQ S I1 x π (gCl G e) := fun e he => by
    have hJ : xQ S (fun a => if x + 2234 ≤ a ∧ a < x + 2340 then I1 a else I a) x π G := xQ_T hg hx (fun a ha => if_neg (by omega)) (yOk_k hok1 (fun a a0 a1 => if_pos (by omega)))
    refine xQ_cl hg hJ ⟨fun a a0 a2 a3 a4 a5 => ?_, fun _ => hb1⟩ i1 he
    show I1 a = if x + 2234 ≤ a ∧ a < x + 2340 then I1 a else I a
    by_cases c : x + 2234 ≤ a ∧ a < x + 2340
    · rw [if_pos c]
    · rw [if_neg c]
      exact f1 a a0 a2 a3 a4 a5 (by omega)
  have hout : xF I I1 x := fun q hq => f1 q (by omega) (by omega) (by omega) (by omega) (by omega) (by omega)
  have h31 : I1 x 3 = gCh G := by rw [f1 x (by omega) (by omega) (by omega) (by omega) (by omega) (by omega)]; exact h3
  by_cases c : (qTop ((G.2.2 1)) ((G.1 2))).1 = 1
  · rw [if_pos c] at kk
    rw [c]
    obtain ⟨y2, ys, yo, yf, yw⟩ := hyes c
    have hwz := qTop_p tb.1 tb.2 c
    have hx1 := hxc (-1) y2
    have hg1 := gWf_cl (e := -1) hg
    generalize (qTop ((G.2.2 1)) ((G.1 2))).2.2 = τ at kk ys yw hwz
    simp (disch := first | omega | exact Nat.le_of_ble_eq_true rfl | (simp (disch := omega) only [yx_k h1, yx_0 h1, yx_4 h1, yx_5 h1, yx_6 h1, yx_7 h1, yx_8 h1, yx_9 h1, yx_10 h1, yx_k1 h1, yx_l1 h1, yx_b h1, yx_bk h1, yx_bs h1, yx_sk h1, yx_sl h1, yx_s h1, yx_e h1, yx_k9 h1, yx_l9 h1, yx_k10 h1, yx_l10 h1] <;> omega)) only [w_iconst, w_bipush, w_sipush, w_ldc_s, w_ldcw_s, w_ldc_i, w_ldcw_i, w_lconst, w_fconst, w_dconst, w_iload, w_iload_n, w_aload, w_aload_n, w_dload, w_istore, w_istore_n, w_astore_r, w_astore_s, w_astore_n_r, w_astore_n_s, w_dstore, w_iinc, w_iadd, w_isub, w_imul, w_iand, w_iushr, v_idiv, v_irem, w_ineg, w_i2l, w_i2c, w_i2f, w_i2d, v_f2d, w_lcmp, w_dcmp, v_fdiv, v_ddiv, w_dup_i, w_dup_r, w_dup2, w_dup_x2, w_pop_i, w_pop_r, w_goto, w_switch, w_ret_i, v_ret_z, v_ret_c, w_ret_a, w_ret_s, w_ret_f, w_ret_d, w_ret_v, v_iaload, v_baload, v_caload, v_laload, v_aaload, v_iastore, v_bastore, v_castore, v_lastore, v_aastore, v_alen, v_newa, v_anewa, w_new, w_throw, w_dead, v_getf_i, v_getf_z, v_getf_r, v_putf_i, v_putf_z, v_putf_r, w_call0, w_call1, w_callv1, w_calli1, w_callt1, w_call2, w_callv2, w_calli2, w_callt2, w_call3, w_callv3, w_calli3, w_call4, w_callv4, w_calli4, w_call5, w_callv5, w_calli5, w_call6, w_callv6, w_calli6, w_call7, w_callv7, w_calli7, w_call8, w_callv8, w_calli8, c_if0_eq_t, c_if0_eq_f, c_if2_eq_t, c_if2_eq_f, c_if0_ne_t, c_if0_ne_f, c_if2_ne_t, c_if2_ne_f, c_if0_lt_t, c_if0_lt_f, c_if2_lt_t, c_if2_lt_f, c_if0_ge_t, c_if0_ge_f, c_if2_ge_t, c_if2_ge_f, c_if0_gt_t, c_if0_gt_f, c_if2_gt_t, c_if2_gt_f, c_if0_le_t, c_if0_le_f, c_if2_le_t, c_if2_le_f, w_nil, uI_s, uA_r, uA_s, uD_d, mPut_0, mCl_own, mCv_go, mCl_min, mCl_cpy, mCv_obj, mAct_len, mAct_chrc, mAft_v, mAft_n, mAft_x, mGet_0, mSet_0, mGet_1, mSet_1, mGet_2, mSet_2, mGet_3, mSet_3, mGet_4, mSet_4, mGet_5, mSet_5, mGet_6, mSet_6, mGet_7, mSet_7, mGet_8, mSet_8, mGet_9, mSet_9, mGet_10, mSet_10, mGet_11, mSet_11, mGet_12, mSet_12, mGet_13, mSet_13, yx_k h1, yx_0 h1, yx_4 h1, yx_5 h1, yx_6 h1, yx_7 h1, yx_8 h1, yx_9 h1, yx_10 h1, yx_k1 h1, yx_l1 h1, yx_b h1, yx_bk h1, yx_bs h1, yx_sk h1, yx_sl h1, yx_s h1, yx_e h1, yx_k9 h1, yx_l9 h1, yx_k10 h1, yx_l10 h1, a_RS_readBasin_24, bk_RS_readBasin_24]
    refine p_start9 (D + 44) hg1 hx1 (fun I2 S1 π1 b1 b0 hX hB1 hs1 ho1 hf1 hbb _ ⟨o1, o3⟩ fin => ?_)
    have hT1 := yx_T hX
    have s2 : yS I2 (x + 2234) τ := yS_k yw ys (fun a a0 a1 => o3 a (by omega))
    have k2 : yOk I2 (x + 2234) := yOk_k yo (fun a a0 a1 => o3 a (by omega))
    simp (disch := first | omega | exact Nat.le_of_ble_eq_true rfl | (simp (disch := omega) only [yx_k hX, yx_0 hX, yx_4 hX, yx_5 hX, yx_6 hX, yx_7 hX, yx_8 hX, yx_9 hX, yx_10 hX, yx_k1 hX, yx_l1 hX, yx_b hX, yx_bk hX, yx_bs hX, yx_sk hX, yx_sl hX, yx_s hX, yx_e hX, yx_k9 hX, yx_l9 hX, yx_k10 hX, yx_l10 hX, yb_k hB1] <;> omega)) only [w_iconst, w_bipush, w_sipush, w_ldc_s, w_ldcw_s, w_ldc_i, w_ldcw_i, w_lconst, w_fconst, w_dconst, w_iload, w_iload_n, w_aload, w_aload_n, w_dload, w_istore, w_istore_n, w_astore_r, w_astore_s, w_astore_n_r, w_astore_n_s, w_dstore, w_iinc, w_iadd, w_isub, w_imul, w_iand, w_iushr, v_idiv, v_irem, w_ineg, w_i2l, w_i2c, w_i2f, w_i2d, v_f2d, w_lcmp, w_dcmp, v_fdiv, v_ddiv, w_dup_i, w_dup_r, w_dup2, w_dup_x2, w_pop_i, w_pop_r, w_goto, w_switch, w_ret_i, v_ret_z, v_ret_c, w_ret_a, w_ret_s, w_ret_f, w_ret_d, w_ret_v, v_iaload, v_baload, v_caload, v_laload, v_aaload, v_iastore, v_bastore, v_castore, v_lastore, v_aastore, v_alen, v_newa, v_anewa, w_new, w_throw, w_dead, v_getf_i, v_getf_z, v_getf_r, v_putf_i, v_putf_z, v_putf_r, w_call0, w_call1, w_callv1, w_calli1, w_callt1, w_call2, w_callv2, w_calli2, w_callt2, w_call3, w_callv3, w_calli3, w_call4, w_callv4, w_calli4, w_call5, w_callv5, w_calli5, w_call6, w_callv6, w_calli6, w_call7, w_callv7, w_calli7, w_call8, w_callv8, w_calli8, c_if0_eq_t, c_if0_eq_f, c_if2_eq_t, c_if2_eq_f, c_if0_ne_t, c_if0_ne_f, c_if2_ne_t, c_if2_ne_f, c_if0_lt_t, c_if0_lt_f, c_if2_lt_t, c_if2_lt_f, c_if0_ge_t, c_if0_ge_f, c_if2_ge_t, c_if2_ge_f, c_if0_gt_t, c_if0_gt_f, c_if2_gt_t, c_if2_gt_f, c_if0_le_t, c_if0_le_f, c_if2_le_t, c_if2_le_f, w_nil, uI_s, uA_r, uA_s, uD_d, mPut_0, mCl_own, mCv_go, mCl_min, mCl_cpy, mCv_obj, mAct_len, mAct_chrc, mAft_v, mAft_n, mAft_x, mGet_0, mSet_0, mGet_1, mSet_1, mGet_2, mSet_2, mGet_3, mSet_3, mGet_4, mSet_4, mGet_5, mSet_5, mGet_6, mSet_6, mGet_7, mSet_7, mGet_8, mSet_8, mGet_9, mSet_9, mGet_10, mSet_10, mGet_11, mSet_11, mGet_12, mSet_12, mGet_13, mSet_13, yx_k hX, yx_0 hX, yx_4 hX, yx_5 hX, yx_6 hX, yx_7 hX, yx_8 hX, yx_9 hX, yx_10 hX, yx_k1 hX, yx_l1 hX, yx_b hX, yx_bk hX, yx_bs hX, yx_sk hX, yx_sl hX, yx_s hX, yx_e hX, yx_k9 hX, yx_l9 hX, yx_k10 hX, yx_l10 hX, yb_k hB1]
    refine p_Ba_copy (D + 46) hB1 hT1 (by omega) k2 (fun I3 hc => ?_)
    have hs3 := yS_cp yw s2 hc
    have ho3 := yOk_cp (by omega) k2 ho1 hc
    have hF := hc.1.1.1
    obtain ⟨f172, f170, f173⟩ := fin τ I3 hwz.1 hwz.2 hs3 ho3 (fun a ha _ => hF a ha)
    have g172 := f172 (D + 47)
    have g170 := f170 (D + 47)
    have e3 : I3 b1 3 = τ 3 := hs3.1.2.2.2
    simp (disch := first | omega | exact Nat.le_of_ble_eq_true rfl | (simp (disch := omega) only [yx_k hX, yx_0 hX, yx_4 hX, yx_5 hX, yx_6 hX, yx_7 hX, yx_8 hX, yx_9 hX, yx_10 hX, yx_k1 hX, yx_l1 hX, yx_b hX, yx_bk hX, yx_bs hX, yx_sk hX, yx_sl hX, yx_s hX, yx_e hX, yx_k9 hX, yx_l9 hX, yx_k10 hX, yx_l10 hX, yb_k hB1, yb_4 hB1, yb_5 hB1, yb_6 hB1, yb_7 hB1, yb_k1 hB1, yb_l1 hB1, yb_k2 hB1, yb_l2 hB1, yb_k3 hB1, yb_l3 hB1, yb_k4 hB1, yb_l4 hB1, yb_p hB1, yb_pk hB1, yb_p1 hB1, yb_pk1 hB1, yb_pl1 hB1, yb_p2 hB1, yb_pk2 hB1, yb_pl2 hB1, yb_p3 hB1, yb_pk3 hB1, yb_pl3 hB1, yb_r hB1, yb_rk hB1, yb_r3 hB1, yb_rk3 hB1, yb_rl3 hB1, yb_r4 hB1, yb_rk4 hB1, yb_rl4 hB1, yb_g hB1, yb_gk hB1, yb_g7 hB1, yb_gk7 hB1, yb_gl7 hB1, yb_g8 hB1, yb_gk8 hB1, yb_gl8 hB1, yb_g9 hB1, yb_gk9 hB1, yb_gl9 hB1, yb_g10 hB1, yb_gk10 hB1, yb_gl10 hB1] <;> omega)) only [w_iconst, w_bipush, w_sipush, w_ldc_s, w_ldcw_s, w_ldc_i, w_ldcw_i, w_lconst, w_fconst, w_dconst, w_iload, w_iload_n, w_aload, w_aload_n, w_dload, w_istore, w_istore_n, w_astore_r, w_astore_s, w_astore_n_r, w_astore_n_s, w_dstore, w_iinc, w_iadd, w_isub, w_imul, w_iand, w_iushr, v_idiv, v_irem, w_ineg, w_i2l, w_i2c, w_i2f, w_i2d, v_f2d, w_lcmp, w_dcmp, v_fdiv, v_ddiv, w_dup_i, w_dup_r, w_dup2, w_dup_x2, w_pop_i, w_pop_r, w_goto, w_switch, w_ret_i, v_ret_z, v_ret_c, w_ret_a, w_ret_s, w_ret_f, w_ret_d, w_ret_v, v_iaload, v_baload, v_caload, v_laload, v_aaload, v_iastore, v_bastore, v_castore, v_lastore, v_aastore, v_alen, v_newa, v_anewa, w_new, w_throw, w_dead, v_getf_i, v_getf_z, v_getf_r, v_putf_i, v_putf_z, v_putf_r, w_call0, w_call1, w_callv1, w_calli1, w_callt1, w_call2, w_callv2, w_calli2, w_callt2, w_call3, w_callv3, w_calli3, w_call4, w_callv4, w_calli4, w_call5, w_callv5, w_calli5, w_call6, w_callv6, w_calli6, w_call7, w_callv7, w_calli7, w_call8, w_callv8, w_calli8, c_if0_eq_t, c_if0_eq_f, c_if2_eq_t, c_if2_eq_f, c_if0_ne_t, c_if0_ne_f, c_if2_ne_t, c_if2_ne_f, c_if0_lt_t, c_if0_lt_f, c_if2_lt_t, c_if2_lt_f, c_if0_ge_t, c_if0_ge_f, c_if2_ge_t, c_if2_ge_f, c_if0_gt_t, c_if0_gt_f, c_if2_gt_t, c_if2_gt_f, c_if0_le_t, c_if0_le_f, c_if2_le_t, c_if2_le_f, w_nil, uI_s, uA_r, uA_s, uD_d, mPut_0, mCl_own, mCv_go, mCl_min, mCl_cpy, mCv_obj, mAct_len, mAct_chrc, mAft_v, mAft_n, mAft_x, mGet_0, mSet_0, mGet_1, mSet_1, mGet_2, mSet_2, mGet_3, mSet_3, mGet_4, mSet_4, mGet_5, mSet_5, mGet_6, mSet_6, mGet_7, mSet_7, mGet_8, mSet_8, mGet_9, mSet_9, mGet_10, mSet_10, mGet_11, mSet_11, mGet_12, mSet_12, mGet_13, mSet_13, yx_k hX, yx_0 hX, yx_4 hX, yx_5 hX, yx_6 hX, yx_7 hX, yx_8 hX, yx_9 hX, yx_10 hX, yx_k1 hX, yx_l1 hX, yx_b hX, yx_bk hX, yx_bs hX, yx_sk hX, yx_sl hX, yx_s hX, yx_e hX, yx_k9 hX, yx_l9 hX, yx_k10 hX, yx_l10 hX, yb_k hB1, yb_4 hB1, yb_5 hB1, yb_6 hB1, yb_7 hB1, yb_k1 hB1, yb_l1 hB1, yb_k2 hB1, yb_l2 hB1, yb_k3 hB1, yb_l3 hB1, yb_k4 hB1, yb_l4 hB1, yb_p hB1, yb_pk hB1, yb_p1 hB1, yb_pk1 hB1, yb_pl1 hB1, yb_p2 hB1, yb_pk2 hB1, yb_pl2 hB1, yb_p3 hB1, yb_pk3 hB1, yb_pl3 hB1, yb_r hB1, yb_rk hB1, yb_r3 hB1, yb_rk3 hB1, yb_rl3 hB1, yb_r4 hB1, yb_rk4 hB1, yb_rl4 hB1, yb_g hB1, yb_gk hB1, yb_g7 hB1, yb_gk7 hB1, yb_gl7 hB1, yb_g8 hB1, yb_gk8 hB1, yb_gl8 hB1, yb_g9 hB1, yb_gk9 hB1, yb_gl9 hB1, yb_g10 hB1, yb_gk10 hB1, yb_gl10 hB1, g172, g170, e3]
    exact f173 (D + 8) _ _ (fun I4 hR hE => by simp (disch := first | omega | exact Nat.le_of_ble_eq_true rfl) only [w_iconst, w_bipush, w_sipush, w_ldc_s, w_ldcw_s, w_ldc_i, w_ldcw_i, w_lconst, w_fconst, w_dconst, w_iload, w_iload_n, w_aload, w_aload_n, w_dload, w_istore, w_istore_n, w_astore_r, w_astore_s, w_astore_n_r, w_astore_n_s, w_dstore, w_iinc, w_iadd, w_isub, w_imul, w_iand, w_iushr, v_idiv, v_irem, w_ineg, w_i2l, w_i2c, w_i2f, w_i2d, v_f2d, w_lcmp, w_dcmp, v_fdiv, v_ddiv, w_dup_i, w_dup_r, w_dup2, w_dup_x2, w_pop_i, w_pop_r, w_goto, w_switch, w_ret_i, v_ret_z, v_ret_c, w_ret_a, w_ret_s, w_ret_f, w_ret_d, w_ret_v, v_iaload, v_baload, v_caload, v_laload, v_aaload, v_iastore, v_bastore, v_castore, v_lastore, v_aastore, v_alen, v_newa, v_anewa, w_new, w_throw, w_dead, v_getf_i, v_getf_z, v_getf_r, v_putf_i, v_putf_z, v_putf_r, w_call0, w_call1, w_callv1, w_calli1, w_callt1, w_call2, w_callv2, w_calli2, w_callt2, w_call3, w_callv3, w_calli3, w_call4, w_callv4, w_calli4, w_call5, w_callv5, w_calli5, w_call6, w_callv6, w_calli6, w_call7, w_callv7, w_calli7, w_call8, w_callv8, w_calli8, c_if0_eq_t, c_if0_eq_f, c_if2_eq_t, c_if2_eq_f, c_if0_ne_t, c_if0_ne_f, c_if2_ne_t, c_if2_ne_f, c_if0_lt_t, c_if0_lt_f, c_if2_lt_t, c_if2_lt_f, c_if0_ge_t, c_if0_ge_f, c_if2_ge_t, c_if2_ge_f, c_if0_gt_t, c_if0_gt_f, c_if2_gt_t, c_if2_gt_f, c_if0_le_t, c_if0_le_f, c_if2_le_t, c_if2_le_f, w_nil, uI_s, uA_r, uA_s, uD_d, mPut_0, mCl_own, mCv_go, mCl_min, mCl_cpy, mCv_obj, mAct_len, mAct_chrc, mAft_v, mAft_n, mAft_x, mGet_0, mSet_0, mGet_1, mSet_1, mGet_2, mSet_2, mGet_3, mSet_3, mGet_4, mSet_4, mGet_5, mSet_5, mGet_6, mSet_6, mGet_7, mSet_7, mGet_8, mSet_8, mGet_9, mSet_9, mGet_10, mSet_10, mGet_11, mSet_11, mGet_12, mSet_12, mGet_13, mSet_13]; exact kk I4 S1 hR (xEnd_p hout hE))
  · rw [if_neg c] at kk
    have c0 : (qTop ((G.2.2 1)) ((G.1 2))).1 = 0 := h01.resolve_right c
    rw [c0]
    obtain ⟨n2, -⟩ := hno c0
    simp (disch := first | omega | exact Nat.le_of_ble_eq_true rfl | (simp (disch := omega) only [yx_k h1, yx_0 h1, yx_4 h1, yx_5 h1, yx_6 h1, yx_7 h1, yx_8 h1, yx_9 h1, yx_10 h1, yx_k1 h1, yx_l1 h1, yx_b h1, yx_bk h1, yx_bs h1, yx_sk h1, yx_sl h1, yx_s h1, yx_e h1, yx_k9 h1, yx_l9 h1, yx_k10 h1, yx_l10 h1] <;> omega)) only [w_iconst, w_bipush, w_sipush, w_ldc_s, w_ldcw_s, w_ldc_i, w_ldcw_i, w_lconst, w_fconst, w_dconst, w_iload, w_iload_n, w_aload, w_aload_n, w_dload, w_istore, w_istore_n, w_astore_r, w_astore_s, w_astore_n_r, w_astore_n_s, w_dstore, w_iinc, w_iadd, w_isub, w_imul, w_iand, w_iushr, v_idiv, v_irem, w_ineg, w_i2l, w_i2c, w_i2f, w_i2d, v_f2d, w_lcmp, w_dcmp, v_fdiv, v_ddiv, w_dup_i, w_dup_r, w_dup2, w_dup_x2, w_pop_i, w_pop_r, w_goto, w_switch, w_ret_i, v_ret_z, v_ret_c, w_ret_a, w_ret_s, w_ret_f, w_ret_d, w_ret_v, v_iaload, v_baload, v_caload, v_laload, v_aaload, v_iastore, v_bastore, v_castore, v_lastore, v_aastore, v_alen, v_newa, v_anewa, w_new, w_throw, w_dead, v_getf_i, v_getf_z, v_getf_r, v_putf_i, v_putf_z, v_putf_r, w_call0, w_call1, w_callv1, w_calli1, w_callt1, w_call2, w_callv2, w_calli2, w_callt2, w_call3, w_callv3, w_calli3, w_call4, w_callv4, w_calli4, w_call5, w_callv5, w_calli5, w_call6, w_callv6, w_calli6, w_call7, w_callv7, w_calli7, w_call8, w_callv8, w_calli8, c_if0_eq_t, c_if0_eq_f, c_if2_eq_t, c_if2_eq_f, c_if0_ne_t, c_if0_ne_f, c_if2_ne_t, c_if2_ne_f, c_if0_lt_t, c_if0_lt_f, c_if2_lt_t, c_if2_lt_f, c_if0_ge_t, c_if0_ge_f, c_if2_ge_t, c_if2_ge_f, c_if0_gt_t, c_if0_gt_f, c_if2_gt_t, c_if2_gt_f, c_if0_le_t, c_if0_le_f, c_if2_le_t, c_if2_le_f, w_nil, uI_s, uA_r, uA_s, uD_d, mPut_0, mCl_own, mCv_go, mCl_min, mCl_cpy, mCv_obj, mAct_len, mAct_chrc, mAft_v, mAft_n, mAft_x, mGet_0, mSet_0, mGet_1, mSet_1, mGet_2, mSet_2, mGet_3, mSet_3, mGet_4, mSet_4, mGet_5, mSet_5, mGet_6, mSet_6, mGet_7, mSet_7, mGet_8, mSet_8, mGet_9, mSet_9, mGet_10, mSet_10, mGet_11, mSet_11, mGet_12, mSet_12, mGet_13, mSet_13, yx_k h1, yx_0 h1, yx_4 h1, yx_5 h1, yx_6 h1, yx_7 h1, yx_8 h1, yx_9 h1, yx_10 h1, yx_k1 h1, yx_l1 h1, yx_b h1, yx_bk h1, yx_bs h1, yx_sk h1, yx_sl h1, yx_s h1, yx_e h1, yx_k9 h1, yx_l9 h1, yx_k10 h1, yx_l10 h1]
    exact xThrow (gWf_cl hg) ⟨π, hxc _ n2, by rw [gCh_cl hg]; exact h31⟩ hn hout kk
end QG
