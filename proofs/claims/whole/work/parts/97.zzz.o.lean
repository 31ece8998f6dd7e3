/-! Reading a decree ends; the model's reading of it. -/
section ZO2
variable {K V : Int → Int} {wk : Int} {fl : Int → Int → Int → Int}
theorem xBd_t {a : Option (Option Int × Int)} {g : Int → Int → Option (Option Int × Int)} (h : ∃ r, a = some r) (h2 : ∀ x l, a = some (some x, l) → ∃ r, g x l = some r) : ∃ r, xBd a g = some r := by
  obtain ⟨r, hr⟩ := h
  match r, hr with
  | (none, l), hr => rw [hr]; exact ⟨_, rfl⟩
  | (some x, l), hr =>
    obtain ⟨r2, h3⟩ := h2 x l hr
    rw [hr]; exact ⟨r2, h3⟩
theorem it_t {c : Prop} [Decidable c] {a b : Option (Option Int × Int)} (h1 : c → ∃ r, a = some r) (h2 : ¬ c → ∃ r, b = some r) : ∃ r, (if c then a else b) = some r := by
  by_cases h : c
  · rw [if_pos h]; exact h1 h
  · rw [if_neg h]; exact h2 h
theorem zXf_tot : ∀ (f c k : Nat) (v i : Int), 6 * (60 - i).toNat + (if c = 4 ∨ c = 5 then 1 else if c = 0 then 2 else if c = 1 then 3 else if c = 2 then 4 else 5) ≤ f → ∃ r, zXf K V wk fl f c k v i = some r
  | 0, c, k, v, i, h => by
    exfalso
    revert h
    repeat' split
    all_goals omega
  | f + 1, c, k, v, i, h => by
    have ih := zXf_tot f
    have i3 : ∀ (k : Nat) (v i : Int), 6 * (60 - i).toNat + 5 ≤ f → ∃ r, zXf K V wk fl f 3 k v i = some r := fun k v i q => ih 3 k v i q
    have i0 : ∀ (k : Nat) (v i : Int), 6 * (60 - i).toNat + 2 ≤ f → ∃ r, zXf K V wk fl f 0 k v i = some r := fun k v i q => ih 0 k v i q
    have i1 : ∀ (k : Nat) (v i : Int), 6 * (60 - i).toNat + 3 ≤ f → ∃ r, zXf K V wk fl f 1 k v i = some r := fun k v i q => ih 1 k v i q
    have i2 : ∀ (k : Nat) (v i : Int), 6 * (60 - i).toNat + 4 ≤ f → ∃ r, zXf K V wk fl f 2 k v i = some r := fun k v i q => ih 2 k v i q
    have i4 : ∀ (k : Nat) (v i : Int), 6 * (60 - i).toNat + 1 ≤ f → ∃ r, zXf K V wk fl f 4 k v i = some r := fun k v i q => ih 4 k v i q
    have i5 : ∀ (k : Nat) (v i : Int), 6 * (60 - i).toNat + 1 ≤ f → ∃ r, zXf K V wk fl f 5 k v i = some r := fun k v i q => ih 5 k v i q
    have ge := zXf_ge (K := K) (V := V) (wk := wk) (fl := fl) f
    have g3 : ∀ (k : Nat) (v i u j : Int), zXf K V wk fl f 3 k v i = some (some u, j) → i + 1 ≤ j := fun k v i u j q => ge 3 k v i u j q
    have g0 : ∀ (k : Nat) (v i u j : Int), zXf K V wk fl f 0 k v i = some (some u, j) → i + 1 ≤ j := fun k v i u j q => ge 0 k v i u j q
    have g1 : ∀ (k : Nat) (v i u j : Int), zXf K V wk fl f 1 k v i = some (some u, j) → i + 1 ≤ j := fun k v i u j q => ge 1 k v i u j q
    have g2 : ∀ (k : Nat) (v i u j : Int), zXf K V wk fl f 2 k v i = some (some u, j) → i + 1 ≤ j := fun k v i u j q => ge 2 k v i u j q
    have su : ∀ a : Option Int × Int, ∃ r, (some a : Option (Option Int × Int)) = some r := fun a => ⟨a, rfl⟩
    rw [zXf]
    by_cases c0 : c = 0
    · rw [if_pos c0]
      rw [if_neg (by omega), if_pos c0] at h
      refine it_t (fun _ => it_t (fun _ => su _) (fun _ => su _)) (fun _ => it_t (fun _ => it_t (fun _ => su _) (fun _ => su _)) (fun _ => it_t (fun _ => it_t (fun _ => su _) (fun a1 => it_t (fun _ => su _) (fun a2 => ?_))) (fun _ => it_t (fun _ => su _) (fun a3 => ?_))))
      · refine xBd_t (i3 _ _ _ (by omega)) (fun x l hl => ?_)
        have q1 := g3 _ _ _ _ _ hl
        refine it_t (fun _ => it_t (fun _ => su _) (fun a4 => xBd_t (i3 _ _ _ (by omega)) (fun x2 l2 hl2 => it_t (fun _ => su _) (fun _ => su _)))) (fun _ => it_t (fun _ => su _) (fun _ => su _))
      · exact xBd_t (i3 _ _ _ (by omega)) (fun x l hl => it_t (fun _ => su _) (fun _ => su _))
    · rw [if_neg c0]
      by_cases c1 : c = 1
      · rw [if_pos c1]
        rw [if_neg (by omega), if_neg c0, if_pos c1] at h
        refine xBd_t (i0 _ _ _ (by omega)) (fun x l hl => i4 _ _ _ ?_)
        have := g0 _ _ _ _ _ hl
        omega
      · rw [if_neg c1]
        by_cases c4 : c = 4
        · rw [if_pos c4]
          rw [if_pos (Or.inl c4)] at h
          refine it_t (fun _ => it_t (fun _ => su _) (fun a1 => xBd_t (i0 _ _ _ (by omega)) (fun x l hl => i4 _ _ _ ?_))) (fun _ => su _)
          have := g0 _ _ _ _ _ hl
          omega
        · rw [if_neg c4]
          by_cases c2 : c = 2
          · rw [if_pos c2]
            rw [if_neg (by omega), if_neg c0, if_neg c1, if_pos c2] at h
            refine xBd_t (i1 _ _ _ (by omega)) (fun x l hl => i5 _ _ _ ?_)
            have := g1 _ _ _ _ _ hl
            omega
          · rw [if_neg c2]
            by_cases c5 : c = 5
            · rw [if_pos c5]
              rw [if_pos (Or.inr c5)] at h
              refine it_t (fun _ => it_t (fun _ => su _) (fun a1 => xBd_t (i1 _ _ _ (by omega)) (fun x l hl => i5 _ _ _ ?_))) (fun _ => su _)
              have := g1 _ _ _ _ _ hl
              omega
            · rw [if_neg c5]
              rw [if_neg (by omega), if_neg c0, if_neg c1, if_neg c2] at h
              refine it_t (fun _ => it_t (fun _ => su _) (fun a1 => xBd_t (i2 _ _ _ (by omega)) (fun x l hl => ?_))) (fun _ => i2 _ _ _ (by omega))
              have q1 := g2 _ _ _ _ _ hl
              refine it_t (fun _ => su _) (fun a2 => xBd_t (i2 _ _ _ (by omega)) (fun x2 l2 hl2 => ?_))
              have q2 := g2 _ _ _ _ _ hl2
              refine it_t (fun _ => su _) (fun a3 => xBd_t (i3 _ _ _ (by omega)) (fun x3 l3 hl3 => ?_))
              have q3 := g3 _ _ _ _ _ hl3
              exact it_t (fun _ => su _) (fun a4 => xBd_t (i3 _ _ _ (by omega)) (fun x4 l4 hl4 => su _))
theorem zXf_all : ∃ res j, zXf K V wk fl 400 3 8 0 0 = some (res, j) := by
  obtain ⟨⟨res, j⟩, h⟩ := zXf_tot (K := K) (V := V) (wk := wk) (fl := fl) 400 3 8 0 0 (by decide)
  exact ⟨res, j, h⟩
end ZO2
def aEq (A J : mN) (m : Int) : Prop := (∀ a : Int, m + 33 ≤ a → a ≤ m + 39 → A a = J a) ∧ ∀ k : Int, 48 ≤ k → k ≤ 51 → A m k = J m k
theorem aEq_g {A J : mN} {m : Int} (h : aEq A J m) : aMg A J m = A := by
  refine funext (fun a => ?_)
  unfold aMg
  by_cases c : a = m
  · rw [if_pos c]
    refine funext (fun k => ?_)
    by_cases c2 : 48 ≤ k ∧ k ≤ 51
    · rw [if_pos c2, c, h.2 k c2.1 c2.2]
    · rw [if_neg c2, c]
  · rw [if_neg c]
    by_cases c2 : m + 33 ≤ a ∧ a ≤ m + 39
    · rw [if_pos c2, h.1 a c2.1 c2.2]
    · rw [if_neg c2]
/-- what the model's reading of a decree may change -/
def zFq (I I' : mN) (m : Int) : Prop := (∀ a : Int, a ≠ m → (a < m + 33 ∨ m + 39 < a) → a ≠ m + 41 → I' a = I a) ∧ ∀ k : Int, (k < 46 ∨ 51 < k) → (k < 56 ∨ 59 < k) → k ≠ 62 → I' m k = I m k
theorem zFq_r (I : mN) (m : Int) : zFq I I m := ⟨fun _ _ _ _ => rfl, fun _ _ _ _ => rfl⟩
theorem zFq_t {I I' I'' : mN} {m : Int} (h : zFq I I' m) (h' : zFq I' I'' m) : zFq I I'' m := ⟨fun a a0 a1 a2 => (h'.1 a a0 a1 a2).trans (h.1 a a0 a1 a2), fun k k0 k1 k2 => (h'.2 k k0 k1 k2).trans (h.2 k k0 k1 k2)⟩
theorem zFq_a {I I' : mN} {m : Int} (h : aKp I I' m) : zFq I I' m := ⟨fun a a0 a1 _ => h.1 a a0 a1, fun k k0 _ _ => h.2 k (by omega)⟩
theorem zFq_f {I I' : mN} {m : Int} (h : zFt I I' m) : zFq I I' m := ⟨fun a a0 _ _ => h.1 a a0, fun k _ k1 _ => h.2 k k1⟩
section ZP2
variable {S : mH} {m : Int} {tx : Int → Int} {N t : Int} (D : Nat)
theorem zTk9_k {I J : mN} {t : Int} (h : zTk9 I m tx N t) (k : aKp I J m) : zTk9 J m tx N t := by
  obtain ⟨⟨h1, h2⟩, h3⟩ := h
  have e : ∀ k : Int, 52 ≤ k → J m k = I m k := fun j hj => k.2 j (by omega)
  refine ⟨⟨by rw [e 55 (by decide)]; exact h1, fun i i0 i1 => by rw [k.1 (m + 40) (by omega) (by omega)]; exact h2 i i0 i1⟩, ?_⟩
  unfold zTkS at h3 ⊢
  rw [e 57 (by decide), e 56 (by decide), e 58 (by decide), e 59 (by decide)]
  exact h3
noncomputable abbrev zTT (tx : Int → Int) (N t : Int) : Int → Int := mTk (fun i => zK tx N (t + i)) (fun i => zV tx N (t + i))
theorem zTT_e (i : Int) : zTT tx N t i = zTd (zK tx N (t + i)) (zV tx N (t + i)) := rfl
theorem l_rdd (hm : yM S m) (h45 : S.1 m 45 = m + 42) (n0 : 0 ≤ N) (n9 : N ≤ 900) (t0 : 0 ≤ t) {Q : mQ} : ∀ (n : Nat) (J L A : mN) (i : Int), aSs S m (zTT tx N t) n J i L → aEq A J m → aCo S A J m → 0 ≤ i → zTk9 A m tx N (t + i) → A m 62 = i → (∀ j : Int, 0 ≤ j → j < i → A (m + 41) j = zTT tx N t j) → (∀ A' : mN, aEq A' L m → aCo S A' L m → zTk9 A' m tx N (t + (i + n)) → A' m 62 = i + n → (∀ j : Int, 0 ≤ j → j < i + n → A' (m + 41) j = zTT tx N t j) → zFq A A' m → (0 < n → i + n ≤ 60) → mAt (mRun (D + 7)) 328 20 ([some (mR m), some (mI (zTT tx N t (i + n)))], [], A', S) Q) → mAt (mRun (D + 7)) 328 20 ([some (mR m), some (mI (zTT tx N t i))], [], A, S) Q
  | 0, J, L, A, i, h, hE, hC, i0, ht, h62, h41, kk => by
    obtain rfl : L = J := h
    have e : i + ((0 : Nat) : Int) = i := Int.add_zero i
    have := kk A hE hC (by rw [e]; exact ht) (by rw [e]; exact h62) (by rw [e]; exact h41) (zFq_r A m) (fun q => by omega)
    rw [e] at this
    exact this
  | n + 1, J, L, A, i, ⟨h1, h2, I1, h3, h4⟩, hE, hC, i0, ht, h62, h41, kk => by
    have g1 : ∀ Q : mQ, mRun (D + 7) 305 [mR m, mI (zTT tx N t i)] A S Q = Q (.inl (some (mI 1))) (aMg A I1 m) S := fun Q => by
      have h9 := h3.1 A hC D Q
      rw [aEq_g hE] at h9
      exact h9
    generalize hA1 : aMg A I1 m = A1 at g1
    have k1 : aKp A A1 m := by
      have := aMg_kp A J I1 m
      rw [aEq_g hE, hA1] at this
      exact this
    have t1 := zTk9_k ht k1
    have w62 : A1 m 62 = i := by rw [k1.2 62 (by decide)]; exact h62
    rw [a_Mo_readsDecree_20]
    simp (disch := first | omega | exact Nat.le_of_ble_eq_true rfl | (simp (disch := omega) only [ym_k hm, ym_53 hm, ym_k53 hm, ym_l53 hm, ym_65 hm, ym_k65 hm, ym_l65 hm, w62] <;> omega)) only [w_iconst, w_bipush, w_sipush, w_ldc_s, w_ldcw_s, w_ldc_i, w_ldcw_i, w_lconst, w_fconst, w_dconst, w_iload, w_iload_n, w_aload, w_aload_n, w_dload, w_istore, w_istore_n, w_astore_r, w_astore_s, w_astore_n_r, w_astore_n_s, w_dstore, w_iinc, w_iadd, w_isub, w_imul, w_iand, w_iushr, v_idiv, v_irem, w_ineg, w_i2l, w_i2c, w_i2f, w_i2d, v_f2d, w_lcmp, w_dcmp, v_fdiv, v_ddiv, w_dup_i, w_dup_r, w_dup2, w_dup_x2, w_pop_i, w_pop_r, w_goto, w_switch, w_ret_i, v_ret_z, v_ret_c, w_ret_a, w_ret_s, w_ret_f, w_ret_d, w_ret_v, v_iaload, v_baload, v_caload, v_laload, v_aaload, v_iastore, v_bastore, v_castore, v_lastore, v_aastore, v_alen, v_newa, v_anewa, w_new, w_throw, w_dead, v_getf_i, v_getf_z, v_getf_r, v_putf_i, v_putf_z, v_putf_r, w_call0, w_call1, w_callv1, w_calli1, w_callt1, w_call2, w_callv2, w_calli2, w_callt2, w_call3, w_callv3, w_calli3, w_call4, w_callv4, w_calli4, w_call5, w_callv5, w_calli5, w_call6, w_callv6, w_calli6, w_call7, w_callv7, w_calli7, w_call8, w_callv8, w_calli8, c_if0_eq_t, c_if0_eq_f, c_if2_eq_t, c_if2_eq_f, c_if0_ne_t, c_if0_ne_f, c_if2_ne_t, c_if2_ne_f, c_if0_lt_t, c_if0_lt_f, c_if2_lt_t, c_if2_lt_f, c_if0_ge_t, c_if0_ge_f, c_if2_ge_t, c_if2_ge_f, c_if0_gt_t, c_if0_gt_f, c_if2_gt_t, c_if2_gt_f, c_if0_le_t, c_if0_le_f, c_if2_le_t, c_if2_le_f, w_nil, uI_s, uA_r, uA_s, uD_d, mPut_0, mCl_own, mCv_go, mCl_min, mCl_cpy, mCv_obj, mAct_len, mAct_chrc, mAft_v, mAft_n, mAft_x, mGet_0, mSet_0, mGet_1, mSet_1, mGet_2, mSet_2, mGet_3, mSet_3, mGet_4, mSet_4, mGet_5, mSet_5, mGet_6, mSet_6, mGet_7, mSet_7, mGet_8, mSet_8, mGet_9, mSet_9, mGet_10, mSet_10, mGet_11, mSet_11, mGet_12, mSet_12, mGet_13, mSet_13, bk_Mo_readsDecree_20, a_Mo_readsDecree_44, bk_Mo_readsDecree_44, ym_k hm, ym_53 hm, ym_k53 hm, ym_l53 hm, g1, w62, up_na, wr]
    have t2 : zTk9 (mUp (mUp A1 (m + 41) i (zTT tx N t i)) m 62 (i + 1)) m tx N (t + i) := zTk9_u (zTk9_o t1 (by omega) (by omega)) (by decide)
    refine p_nextT (D + 4) hm n0 n9 (by omega) t2 (fun A3 f3 t3 => ?_)
    rw [Int.add_assoc] at t3
    have g2 : ∀ Q : mQ, mRun (D + 7) 327 [mR m] A3 S Q = Q (.inl (some (mI (zTT tx N t (i + 1))))) A3 S := fun Q => r_tokD (D + 5) hm n0 n9 t3
    simp (disch := first | omega | exact Nat.le_of_ble_eq_true rfl | (simp (disch := omega) only [ym_k hm, ym_53 hm, ym_k53 hm, ym_l53 hm, ym_65 hm, ym_k65 hm, ym_l65 hm] <;> omega)) only [w_iconst, w_bipush, w_sipush, w_ldc_s, w_ldcw_s, w_ldc_i, w_ldcw_i, w_lconst, w_fconst, w_dconst, w_iload, w_iload_n, w_aload, w_aload_n, w_dload, w_istore, w_istore_n, w_astore_r, w_astore_s, w_astore_n_r, w_astore_n_s, w_dstore, w_iinc, w_iadd, w_isub, w_imul, w_iand, w_iushr, v_idiv, v_irem, w_ineg, w_i2l, w_i2c, w_i2f, w_i2d, v_f2d, w_lcmp, w_dcmp, v_fdiv, v_ddiv, w_dup_i, w_dup_r, w_dup2, w_dup_x2, w_pop_i, w_pop_r, w_goto, w_switch, w_ret_i, v_ret_z, v_ret_c, w_ret_a, w_ret_s, w_ret_f, w_ret_d, w_ret_v, v_iaload, v_baload, v_caload, v_laload, v_aaload, v_iastore, v_bastore, v_castore, v_lastore, v_aastore, v_alen, v_newa, v_anewa, w_new, w_throw, w_dead, v_getf_i, v_getf_z, v_getf_r, v_putf_i, v_putf_z, v_putf_r, w_call0, w_call1, w_callv1, w_calli1, w_callt1, w_call2, w_callv2, w_calli2, w_callt2, w_call3, w_callv3, w_calli3, w_call4, w_callv4, w_calli4, w_call5, w_callv5, w_calli5, w_call6, w_callv6, w_calli6, w_call7, w_callv7, w_calli7, w_call8, w_callv8, w_calli8, c_if0_eq_t, c_if0_eq_f, c_if2_eq_t, c_if2_eq_f, c_if0_ne_t, c_if0_ne_f, c_if2_ne_t, c_if2_ne_f, c_if0_lt_t, c_if0_lt_f, c_if2_lt_t, c_if2_lt_f, c_if0_ge_t, c_if0_ge_f, c_if2_ge_t, c_if2_ge_f, c_if0_gt_t, c_if0_gt_f, c_if2_gt_t, c_if2_gt_f, c_if0_le_t, c_if0_le_f, c_if2_le_t, c_if2_le_f, w_nil, uI_s, uA_r, uA_s, uD_d, mPut_0, mCl_own, mCv_go, mCl_min, mCl_cpy, mCv_obj, mAct_len, mAct_chrc, mAft_v, mAft_n, mAft_x, mGet_0, mSet_0, mGet_1, mSet_1, mGet_2, mSet_2, mGet_3, mSet_3, mGet_4, mSet_4, mGet_5, mSet_5, mGet_6, mSet_6, mGet_7, mSet_7, mGet_8, mSet_8, mGet_9, mSet_9, mGet_10, mSet_10, mGet_11, mSet_11, mGet_12, mSet_12, mGet_13, mSet_13, ym_k hm, ym_53 hm, ym_k53 hm, ym_l53 hm, g2]
    have o3 : ∀ a : Int, a ≠ m → a ≠ m + 41 → A3 a = A1 a := fun a a0 a1 => by rw [f3.1 a a0, up_fa a0, up_fa a1]
    have q3 : ∀ k : Int, (k < 56 ∨ 59 < k) → k ≠ 62 → A3 m k = A1 m k := fun k k0 k1 => by rw [f3.2 k k0, up_nk k1, up_na (by omega)]
    have hE1 : aEq A3 I1 m := by
      refine ⟨fun a a0 a1 => ?_, fun k k0 k1 => ?_⟩
      · rw [o3 a (by omega) (by omega), ← hA1]; exact aMg_c ⟨a0, a1⟩
      · rw [q3 k (by omega) (by omega), ← hA1]; exact aMg_f ⟨k0, k1⟩
    have hC1 : aCo S A3 I1 m := by
      obtain ⟨c1, c2, c3⟩ := hC
      rw [h45] at c3
      refine ⟨?_, ?_, ?_⟩
      · rw [q3 46 (by decide) (by decide), k1.2 46 (by decide), c1, h3.2.2 46 (by decide)]
      · rw [q3 47 (by decide) (by decide), k1.2 47 (by decide), c2, h3.2.2 47 (by decide)]
      · rw [h45, o3 (m + 42) (by omega) (by omega), k1.1 (m + 42) (by omega) (by omega), c3, h3.2.1 (m + 42) (by omega) (by omega)]
    have w3 : A3 m 62 = i + 1 := by rw [f3.2 62 (by decide), up_eq rfl rfl]
    have w41 : ∀ j : Int, 0 ≤ j → j < i + 1 → A3 (m + 41) j = zTT tx N t j := fun j j0 j1 => by
      rw [f3.1 (m + 41) (by omega), up_fa (by omega)]
      by_cases c : j = i
      · rw [c, up_eq rfl rfl]
      · rw [up_nk c, k1.1 (m + 41) (by omega) (by omega)]; exact h41 j j0 (by omega)
    have fq : zFq A A3 m := ⟨fun a a0 a1 a2 => by rw [o3 a a0 a2, k1.1 a a0 a1], fun k k0 k1' k2 => by rw [q3 k k1' k2, k1.2 k (by omega)]⟩
    refine l_rdd hm h45 n0 n9 t0 n I1 L A3 (i + 1) h4 hE1 hC1 (by omega) t3 w3 w41 (fun A' a1 a2 a3 a4 a5 a6 a7 => ?_)
    have ee : i + 1 + (n : Int) = i + ((n + 1 : Nat) : Int) := by omega
    rw [ee] at a3 a4 a5 ⊢
    refine kk A' a1 a2 a3 a4 a5 (zFq_t fq a6) (fun _ => ?_)
    by_cases c : 0 < n
    · have := a7 c; omega
    · omega
end ZP2
