/-! Append. -/
theorem and255 (x : Int) : 0 ≤ mAnd x 255 ∧ mAnd x 255 ≤ 255 := by
  unfold mAnd
  generalize Int32.ofInt x = y
  have h : (y &&& Int32.ofInt 255).toBitVec = y.toBitVec &&& 255#32 := rfl
  show 0 ≤ (y &&& Int32.ofInt 255).toBitVec.toInt ∧ (y &&& Int32.ofInt 255).toBitVec.toInt ≤ 255
  rw [h]
  have h2 : (y.toBitVec &&& 255#32).toNat ≤ 255 := by rw [BitVec.toNat_and]; exact Nat.and_le_right
  rw [BitVec.toInt_eq_toNat_of_lt (by omega)]
  omega
def zBy (w s : Int) : Int := mAnd (mShr w s) 255
theorem zBy_b (w s : Int) : 0 ≤ zBy w s ∧ zBy w s ≤ 255 := and255 _
abbrev zTx : Type := (Int → Int) × Int
def zA1 (v : Int) (p : zTx) : zTx := if v = 0 then p else (zU p.1 p.2 v, p.2 + 1)
def zAb (w : Int) : Nat → zTx → zTx
  | 0, p => p
  | c + 1, p => zAb w c (zA1 (zBy w (8 * (c : Int))) p)
def zC1 (w s : Int) : Int := if zBy w s = 0 then 0 else 1
def zCn (w : Int) : Nat → Int
  | 0 => 0
  | c + 1 => zCn w c + zC1 w (8 * (c : Int))
theorem zC1_b (w s : Int) : 0 ≤ zC1 w s ∧ zC1 w s ≤ 1 := by
  unfold zC1
  split <;> omega
theorem zCn_b (w : Int) : ∀ c : Nat, 0 ≤ zCn w c ∧ zCn w c ≤ c
  | 0 => ⟨Int.le_refl 0, Int.le_refl 0⟩
  | c + 1 => by
    have h := zCn_b w c
    have h1 := zC1_b w (8 * (c : Int))
    show 0 ≤ zCn w c + zC1 w (8 * (c : Int)) ∧ zCn w c + zC1 w (8 * (c : Int)) ≤ ((c + 1 : Nat) : Int)
    omega
theorem zA1_2 (w s : Int) (p : zTx) : (zA1 (zBy w s) p).2 = p.2 + zC1 w s := by
  unfold zA1 zC1
  by_cases h : zBy w s = 0
  · rw [if_pos h, if_pos h]; omega
  · rw [if_neg h, if_neg h]
theorem zAb_2 (w : Int) : ∀ (c : Nat) (p : zTx), (zAb w c p).2 = p.2 + zCn w c
  | 0, p => (Int.add_zero _).symm
  | c + 1, p => by
    show (zAb w c (zA1 (zBy w (8 * (c : Int))) p)).2 = p.2 + (zCn w c + zC1 w (8 * (c : Int)))
    rw [zAb_2 w c, zA1_2]; omega
/-- two texts that agree -/
def zTe (p p' : zTx) : Prop := p.2 = p'.2 ∧ ∀ i : Int, 0 ≤ i → i < p.2 → p.1 i = p'.1 i
theorem zTe_1 {p p' : zTx} {v : Int} (h : zTe p p') : zTe (zA1 v p) (zA1 v p') := by
  unfold zA1
  by_cases c : v = 0
  · rw [if_pos c, if_pos c]; exact h
  · rw [if_neg c, if_neg c]
    refine ⟨by show p.2 + 1 = p'.2 + 1; rw [h.1], fun i i0 i1 => ?_⟩
    show zU p.1 p.2 v i = zU p'.1 p'.2 v i
    have i1 : i < p.2 + 1 := i1
    rw [← h.1]
    by_cases e : i = p.2
    · rw [zU_eq e, zU_eq e]
    · rw [zU_ne e, zU_ne e]; exact h.2 i i0 (by omega)
theorem zTe_b {w : Int} : ∀ (c : Nat) {p p' : zTx}, zTe p p' → zTe (zAb w c p) (zAb w c p')
  | 0, _, _, h => h
  | c + 1, _, _, h => zTe_b c (zTe_1 h)
/-- bytes of a text -/
def zTb (p : zTx) : Prop := 0 ≤ p.2 ∧ ∀ i : Int, 0 ≤ i → i < p.2 → 0 < p.1 i ∧ p.1 i ≤ 255
theorem zTb_1 {p : zTx} {w s : Int} (h : zTb p) : zTb (zA1 (zBy w s) p) := by
  have hb := zBy_b w s
  unfold zA1
  by_cases c : zBy w s = 0
  · rw [if_pos c]; exact h
  · rw [if_neg c]
    refine ⟨by show 0 ≤ p.2 + 1; have := h.1; omega, fun i i0 i1 => ?_⟩
    show 0 < zU p.1 p.2 _ i ∧ zU p.1 p.2 _ i ≤ 255
    have i1 : i < p.2 + 1 := i1
    by_cases e : i = p.2
    · rw [zU_eq e]; omega
    · rw [zU_ne e]; exact h.2 i i0 (by omega)
theorem zTb_b {w : Int} : ∀ (c : Nat) {p : zTx}, zTb p → zTb (zAb w c p)
  | 0, _, h => h
  | c + 1, _, h => zTb_b c (zTb_1 h)
def zAp (a b c d e : Int) (p : zTx) : zTx := zAb e 4 (zAb d 4 (zAb c 4 (zAb b 4 (zAb a 4 p))))
def zAc (a b c d e : Int) : Int := zCn a 4 + zCn b 4 + zCn c 4 + zCn d 4 + zCn e 4
theorem zAp_2 (a b c d e : Int) (p : zTx) : (zAp a b c d e p).2 = p.2 + zAc a b c d e := by
  unfold zAp zAc
  rw [zAb_2, zAb_2, zAb_2, zAb_2, zAb_2]; omega
/-- a text set -/
def gTx (G : gT) (p : zTx) : gT := (fun i => if i = 2 then p.2 else G.1 i, G.2.1, fun j => if j = 1 then p.1 else G.2.2 j)
theorem gTx_1 {G : gT} {p : zTx} {i : Int} (h : i ≠ 2) : (gTx G p).1 i = G.1 i := if_neg h
def r0 (G : gT) (a b c d e : Int) : mZ × gT := if (G.1 2) + zAc a b c d e ≤ 900 then (.inl (some (mI ((G.1 2) + zAc a b c d e))), gTx G (zAp a b c d e ((G.2.2 1), (G.1 2)))) else (.inr 0, G)
theorem gWf_tx {G : gT} (hg : gWf G) {p : zTx} (h : zTb p) (h9 : p.2 ≤ 900) : gWf (gTx G p) := by
  obtain ⟨g1, g2, g3, g4, g5, g6, g7, g8⟩ := hg
  refine ⟨g1, g2, fun k k0 k1 => ?_, fun k j k0 k1 j0 j1 => ?_, ⟨⟨h.1, h9⟩, h.2⟩, g6, g7, ?_⟩
  · have h9 := g3 k k0 k1
    have e1 : (gTx G p).1 (10 + k) = G.1 (10 + k) := gTx_1 (by omega)
    have e2 : (gTx G p).1 (20 + k) = G.1 (20 + k) := gTx_1 (by omega)
    rw [e1, e2]; exact h9
  · have e2 : (gTx G p).1 (20 + k) = G.1 (20 + k) := gTx_1 (by omega)
    rw [e2] at j1
    exact g4 k j k0 k1 j0 j1
  · have e5 : (gTx G p).1 5 = G.1 5 := gTx_1 (by decide)
    rw [e5]
    rcases g8 with g8 | g8
    · exact Or.inl g8
    · refine Or.inr ⟨g8.1, ?_⟩
      have e6 : (gTx G p).1 6 = G.1 6 := gTx_1 (by decide)
      have e1 : (gTx G p).1 (10 + G.1 5) = G.1 (10 + G.1 5) := gTx_1 (by omega)
      have e2 : (gTx G p).1 (20 + G.1 5) = G.1 (20 + G.1 5) := gTx_1 (by omega)
      rw [e6, e1, e2]; exact g8.2
section ZA0
variable {S : mH} {I : mN} {x m z : Int} {π : Int → Int → Int} {G : gT} {Q : mQ} (D : Nat)
theorem l_bi {w : Int} : ∀ (c : Nat) (q z0 : Int), c ≤ 4 → 0 ≤ z0 → z0 + c ≤ 1000 → q = z0 → mAt (mRun D) 116 5 ([some (mI w), some (mI q), some (mI (8 * (c : Int) - 8))], [], I, S) Q = Q (.inl (some (mI (z0 + zCn w c)))) I S
  | 0, q, z0, hc, h0, h1, hq => by
    rw [hq, a_RS_bytesIn_5, show z0 + zCn w 0 = z0 from Int.add_zero z0]
    simp (disch := first | omega | exact Nat.le_of_ble_eq_true rfl) only [w_iconst, w_bipush, w_sipush, w_ldc_s, w_ldcw_s, w_ldc_i, w_ldcw_i, w_lconst, w_fconst, w_dconst, w_iload, w_iload_n, w_aload, w_aload_n, w_dload, w_istore, w_istore_n, w_astore_r, w_astore_s, w_astore_n_r, w_astore_n_s, w_dstore, w_iinc, w_iadd, w_isub, w_imul, w_iand, w_iushr, v_idiv, v_irem, w_ineg, w_i2l, w_i2c, w_i2f, w_i2d, v_f2d, w_lcmp, w_dcmp, v_fdiv, v_ddiv, w_dup_i, w_dup_r, w_dup2, w_dup_x2, w_pop_i, w_pop_r, w_goto, w_switch, w_ret_i, v_ret_z, v_ret_c, w_ret_a, w_ret_s, w_ret_f, w_ret_d, w_ret_v, v_iaload, v_baload, v_caload, v_laload, v_aaload, v_iastore, v_bastore, v_castore, v_lastore, v_aastore, v_alen, v_newa, v_anewa, w_new, w_throw, w_dead, v_getf_i, v_getf_z, v_getf_r, v_putf_i, v_putf_z, v_putf_r, w_call0, w_call1, w_callv1, w_calli1, w_callt1, w_call2, w_callv2, w_calli2, w_callt2, w_call3, w_callv3, w_calli3, w_call4, w_callv4, w_calli4, w_call5, w_callv5, w_calli5, w_call6, w_callv6, w_calli6, w_call7, w_callv7, w_calli7, w_call8, w_callv8, w_calli8, c_if0_eq_t, c_if0_eq_f, c_if2_eq_t, c_if2_eq_f, c_if0_ne_t, c_if0_ne_f, c_if2_ne_t, c_if2_ne_f, c_if0_lt_t, c_if0_lt_f, c_if2_lt_t, c_if2_lt_f, c_if0_ge_t, c_if0_ge_f, c_if2_ge_t, c_if2_ge_f, c_if0_gt_t, c_if0_gt_f, c_if2_gt_t, c_if2_gt_f, c_if0_le_t, c_if0_le_f, c_if2_le_t, c_if2_le_f, w_nil, uI_s, uA_r, uA_s, uD_d, mPut_0, mCl_own, mCv_go, mCl_min, mCl_cpy, mCv_obj, mAct_len, mAct_chrc, mAft_v, mAft_n, mAft_x, mGet_0, mSet_0, mGet_1, mSet_1, mGet_2, mSet_2, mGet_3, mSet_3, mGet_4, mSet_4, mGet_5, mSet_5, mGet_6, mSet_6, mGet_7, mSet_7, mGet_8, mSet_8, mGet_9, mSet_9, mGet_10, mSet_10, mGet_11, mSet_11, mGet_12, mSet_12, mGet_13, mSet_13, bk_RS_bytesIn_5, a_RS_bytesIn_28, bk_RS_bytesIn_28]
  | c + 1, q, z0, hc, h0, h1, hq => by
    have e : 8 * ((c + 1 : Nat) : Int) - 8 = 8 * (c : Int) := by omega
    have e2 : 8 * (c : Int) + -8 = 8 * (c : Int) - 8 := by omega
    have hz : zCn w (c + 1) = zCn w c + zC1 w (8 * (c : Int)) := rfl
    have hb : mAnd (mShr w (8 * (c : Int))) 255 = zBy w (8 * (c : Int)) := rfl
    have h9 := zBy_b w (8 * (c : Int))
    rw [hq, a_RS_bytesIn_5, e, hz]
    by_cases c1 : zBy w (8 * (c : Int)) = 0
    · simp (disch := first | omega | exact Nat.le_of_ble_eq_true rfl) only [w_iconst, w_bipush, w_sipush, w_ldc_s, w_ldcw_s, w_ldc_i, w_ldcw_i, w_lconst, w_fconst, w_dconst, w_iload, w_iload_n, w_aload, w_aload_n, w_dload, w_istore, w_istore_n, w_astore_r, w_astore_s, w_astore_n_r, w_astore_n_s, w_dstore, w_iinc, w_iadd, w_isub, w_imul, w_iand, w_iushr, v_idiv, v_irem, w_ineg, w_i2l, w_i2c, w_i2f, w_i2d, v_f2d, w_lcmp, w_dcmp, v_fdiv, v_ddiv, w_dup_i, w_dup_r, w_dup2, w_dup_x2, w_pop_i, w_pop_r, w_goto, w_switch, w_ret_i, v_ret_z, v_ret_c, w_ret_a, w_ret_s, w_ret_f, w_ret_d, w_ret_v, v_iaload, v_baload, v_caload, v_laload, v_aaload, v_iastore, v_bastore, v_castore, v_lastore, v_aastore, v_alen, v_newa, v_anewa, w_new, w_throw, w_dead, v_getf_i, v_getf_z, v_getf_r, v_putf_i, v_putf_z, v_putf_r, w_call0, w_call1, w_callv1, w_calli1, w_callt1, w_call2, w_callv2, w_calli2, w_callt2, w_call3, w_callv3, w_calli3, w_call4, w_callv4, w_calli4, w_call5, w_callv5, w_calli5, w_call6, w_callv6, w_calli6, w_call7, w_callv7, w_calli7, w_call8, w_callv8, w_calli8, c_if0_eq_t, c_if0_eq_f, c_if2_eq_t, c_if2_eq_f, c_if0_ne_t, c_if0_ne_f, c_if2_ne_t, c_if2_ne_f, c_if0_lt_t, c_if0_lt_f, c_if2_lt_t, c_if2_lt_f, c_if0_ge_t, c_if0_ge_f, c_if2_ge_t, c_if2_ge_f, c_if0_gt_t, c_if0_gt_f, c_if2_gt_t, c_if2_gt_f, c_if0_le_t, c_if0_le_f, c_if2_le_t, c_if2_le_f, w_nil, uI_s, uA_r, uA_s, uD_d, mPut_0, mCl_own, mCv_go, mCl_min, mCl_cpy, mCv_obj, mAct_len, mAct_chrc, mAft_v, mAft_n, mAft_x, mGet_0, mSet_0, mGet_1, mSet_1, mGet_2, mSet_2, mGet_3, mSet_3, mGet_4, mSet_4, mGet_5, mSet_5, mGet_6, mSet_6, mGet_7, mSet_7, mGet_8, mSet_8, mGet_9, mSet_9, mGet_10, mSet_10, mGet_11, mSet_11, mGet_12, mSet_12, mGet_13, mSet_13, bk_RS_bytesIn_5, a_RS_bytesIn_22, bk_RS_bytesIn_22, hb, c1, wr]
      rw [e2, l_bi c z0 z0 (by omega) h0 (by omega) rfl]
      unfold zC1
      rw [if_pos c1, Int.add_zero]
    · simp (disch := first | omega | exact Nat.le_of_ble_eq_true rfl) only [w_iconst, w_bipush, w_sipush, w_ldc_s, w_ldcw_s, w_ldc_i, w_ldcw_i, w_lconst, w_fconst, w_dconst, w_iload, w_iload_n, w_aload, w_aload_n, w_dload, w_istore, w_istore_n, w_astore_r, w_astore_s, w_astore_n_r, w_astore_n_s, w_dstore, w_iinc, w_iadd, w_isub, w_imul, w_iand, w_iushr, v_idiv, v_irem, w_ineg, w_i2l, w_i2c, w_i2f, w_i2d, v_f2d, w_lcmp, w_dcmp, v_fdiv, v_ddiv, w_dup_i, w_dup_r, w_dup2, w_dup_x2, w_pop_i, w_pop_r, w_goto, w_switch, w_ret_i, v_ret_z, v_ret_c, w_ret_a, w_ret_s, w_ret_f, w_ret_d, w_ret_v, v_iaload, v_baload, v_caload, v_laload, v_aaload, v_iastore, v_bastore, v_castore, v_lastore, v_aastore, v_alen, v_newa, v_anewa, w_new, w_throw, w_dead, v_getf_i, v_getf_z, v_getf_r, v_putf_i, v_putf_z, v_putf_r, w_call0, w_call1, w_callv1, w_calli1, w_callt1, w_call2, w_callv2, w_calli2, w_callt2, w_call3, w_callv3, w_calli3, w_call4, w_callv4, w_calli4, w_call5, w_callv5, w_calli5, w_call6, w_callv6, w_calli6, w_call7, w_callv7, w_calli7, w_call8, w_callv8, w_calli8, c_if0_eq_t, c_if0_eq_f, c_if2_eq_t, c_if2_eq_f, c_if0_ne_t, c_if0_ne_f, c_if2_ne_t, c_if2_ne_f, c_if0_lt_t, c_if0_lt_f, c_if2_lt_t, c_if2_lt_f, c_if0_ge_t, c_if0_ge_f, c_if2_ge_t, c_if2_ge_f, c_if0_gt_t, c_if0_gt_f, c_if2_gt_t, c_if2_gt_f, c_if0_le_t, c_if0_le_f, c_if2_le_t, c_if2_le_f, w_nil, uI_s, uA_r, uA_s, uD_d, mPut_0, mCl_own, mCv_go, mCl_min, mCl_cpy, mCv_obj, mAct_len, mAct_chrc, mAft_v, mAft_n, mAft_x, mGet_0, mSet_0, mGet_1, mSet_1, mGet_2, mSet_2, mGet_3, mSet_3, mGet_4, mSet_4, mGet_5, mSet_5, mGet_6, mSet_6, mGet_7, mSet_7, mGet_8, mSet_8, mGet_9, mSet_9, mGet_10, mSet_10, mGet_11, mSet_11, mGet_12, mSet_12, mGet_13, mSet_13, bk_RS_bytesIn_5, a_RS_bytesIn_22, bk_RS_bytesIn_22, hb, c1, wr]
      rw [e2, l_bi c (z0 + 1) (z0 + 1) (by omega) (by omega) (by omega) rfl]
      unfold zC1
      rw [if_neg c1, show z0 + 1 + zCn w c = z0 + (zCn w c + 1) by omega]
theorem r_bytesIn {w : Int} : mRun (D + 1) 116 [mI w] I S Q = Q (.inl (some (mI (zCn w 4)))) I S := by
  have h := l_bi (I := I) (S := S) (Q := Q) D (w := w) 4 0 0 (Nat.le_refl 4) (Int.le_refl 0) (by decide) rfl
  rw [show (0 : Int) + zCn w 4 = zCn w 4 from Int.zero_add _, show 8 * ((4 : Nat) : Int) - 8 = 24 by decide] at h
  simp (disch := first | omega | exact Nat.le_of_ble_eq_true rfl) only [w_iconst, w_bipush, w_sipush, w_ldc_s, w_ldcw_s, w_ldc_i, w_ldcw_i, w_lconst, w_fconst, w_dconst, w_iload, w_iload_n, w_aload, w_aload_n, w_dload, w_istore, w_istore_n, w_astore_r, w_astore_s, w_astore_n_r, w_astore_n_s, w_dstore, w_iinc, w_iadd, w_isub, w_imul, w_iand, w_iushr, v_idiv, v_irem, w_ineg, w_i2l, w_i2c, w_i2f, w_i2d, v_f2d, w_lcmp, w_dcmp, v_fdiv, v_ddiv, w_dup_i, w_dup_r, w_dup2, w_dup_x2, w_pop_i, w_pop_r, w_goto, w_switch, w_ret_i, v_ret_z, v_ret_c, w_ret_a, w_ret_s, w_ret_f, w_ret_d, w_ret_v, v_iaload, v_baload, v_caload, v_laload, v_aaload, v_iastore, v_bastore, v_castore, v_lastore, v_aastore, v_alen, v_newa, v_anewa, w_new, w_throw, w_dead, v_getf_i, v_getf_z, v_getf_r, v_putf_i, v_putf_z, v_putf_r, w_call0, w_call1, w_callv1, w_calli1, w_callt1, w_call2, w_callv2, w_calli2, w_callt2, w_call3, w_callv3, w_calli3, w_call4, w_callv4, w_calli4, w_call5, w_callv5, w_calli5, w_call6, w_callv6, w_calli6, w_call7, w_callv7, w_calli7, w_call8, w_callv8, w_calli8, c_if0_eq_t, c_if0_eq_f, c_if2_eq_t, c_if2_eq_f, c_if0_ne_t, c_if0_ne_f, c_if2_ne_t, c_if2_ne_f, c_if0_lt_t, c_if0_lt_f, c_if2_lt_t, c_if2_lt_f, c_if0_ge_t, c_if0_ge_f, c_if2_ge_t, c_if2_ge_f, c_if0_gt_t, c_if0_gt_f, c_if2_gt_t, c_if2_gt_f, c_if0_le_t, c_if0_le_f, c_if2_le_t, c_if2_le_f, w_nil, uI_s, uA_r, uA_s, uD_d, mPut_0, mCl_own, mCv_go, mCl_min, mCl_cpy, mCv_obj, mAct_len, mAct_chrc, mAft_v, mAft_n, mAft_x, mGet_0, mSet_0, mGet_1, mSet_1, mGet_2, mSet_2, mGet_3, mSet_3, mGet_4, mSet_4, mGet_5, mSet_5, mGet_6, mSet_6, mGet_7, mSet_7, mGet_8, mSet_8, mGet_9, mSet_9, mGet_10, mSet_10, mGet_11, mSet_11, mGet_12, mSet_12, mGet_13, mSet_13, e_RS_bytesIn, a_RS_bytesIn_0, bk_RS_bytesIn_0]
  exact h
/-- the reader's cells hold a text -/
def rTx (I : mN) (r : Int) (p : zTx) : Prop := I r 1 = p.2 ∧ I (r + 1) = p.1
def rTf (I I' : mN) (r : Int) : Prop := (∀ a : Int, a ≠ r → a ≠ r + 1 → I' a = I a) ∧ ∀ k : Int, k ≠ 1 → I' r k = I r k
theorem rTf_t {I I' I'' : mN} {r : Int} (h : rTf I I' r) (h' : rTf I' I'' r) : rTf I I'' r := ⟨fun a a0 a1 => (h'.1 a a0 a1).trans (h.1 a a0 a1), fun k hk => (h'.2 k hk).trans (h.2 k hk)⟩
theorem p_addByte {r v : Int} {p : zTx} (hr : yRd S r) (hp : rTx I r p) (p0 : 0 ≤ p.2) (p1 : p.2 < 900) (v0 : 0 < v) (v1 : v ≤ 255) (k : ∀ I' : mN, rTx I' r (zA1 v p) → rTf I I' r → Q (.inl none) I' S) : mRun (D + 1) 67 [mR r, mI v] I S Q := by
  obtain ⟨h1, h2⟩ := hp
  simp (disch := first | omega | exact Nat.le_of_ble_eq_true rfl | (simp (disch := omega) only [yr_k hr, yr_0 hr, yr_k0 hr, yr_l0 hr, yr_3 hr, yr_k3 hr, yr_l3 hr, yr_4 hr, yr_k4 hr, yr_l4 hr, yr_5 hr, yr_k5 hr, yr_l5 hr, yr_9 hr, yr_k9 hr, yr_l9 hr, yr_11 hr, h1, up_fa] <;> omega)) only [w_iconst, w_bipush, w_sipush, w_ldc_s, w_ldcw_s, w_ldc_i, w_ldcw_i, w_lconst, w_fconst, w_dconst, w_iload, w_iload_n, w_aload, w_aload_n, w_dload, w_istore, w_istore_n, w_astore_r, w_astore_s, w_astore_n_r, w_astore_n_s, w_dstore, w_iinc, w_iadd, w_isub, w_imul, w_iand, w_iushr, v_idiv, v_irem, w_ineg, w_i2l, w_i2c, w_i2f, w_i2d, v_f2d, w_lcmp, w_dcmp, v_fdiv, v_ddiv, w_dup_i, w_dup_r, w_dup2, w_dup_x2, w_pop_i, w_pop_r, w_goto, w_switch, w_ret_i, v_ret_z, v_ret_c, w_ret_a, w_ret_s, w_ret_f, w_ret_d, w_ret_v, v_iaload, v_baload, v_caload, v_laload, v_aaload, v_iastore, v_bastore, v_castore, v_lastore, v_aastore, v_alen, v_newa, v_anewa, w_new, w_throw, w_dead, v_getf_i, v_getf_z, v_getf_r, v_putf_i, v_putf_z, v_putf_r, w_call0, w_call1, w_callv1, w_calli1, w_callt1, w_call2, w_callv2, w_calli2, w_callt2, w_call3, w_callv3, w_calli3, w_call4, w_callv4, w_calli4, w_call5, w_callv5, w_calli5, w_call6, w_callv6, w_calli6, w_call7, w_callv7, w_calli7, w_call8, w_callv8, w_calli8, c_if0_eq_t, c_if0_eq_f, c_if2_eq_t, c_if2_eq_f, c_if0_ne_t, c_if0_ne_f, c_if2_ne_t, c_if2_ne_f, c_if0_lt_t, c_if0_lt_f, c_if2_lt_t, c_if2_lt_f, c_if0_ge_t, c_if0_ge_f, c_if2_ge_t, c_if2_ge_f, c_if0_gt_t, c_if0_gt_f, c_if2_gt_t, c_if2_gt_f, c_if0_le_t, c_if0_le_f, c_if2_le_t, c_if2_le_f, w_nil, uI_s, uA_r, uA_s, uD_d, mPut_0, mCl_own, mCv_go, mCl_min, mCl_cpy, mCv_obj, mAct_len, mAct_chrc, mAft_v, mAft_n, mAft_x, mGet_0, mSet_0, mGet_1, mSet_1, mGet_2, mSet_2, mGet_3, mSet_3, mGet_4, mSet_4, mGet_5, mSet_5, mGet_6, mSet_6, mGet_7, mSet_7, mGet_8, mSet_8, mGet_9, mSet_9, mGet_10, mSet_10, mGet_11, mSet_11, mGet_12, mSet_12, mGet_13, mSet_13, e_Rd_addByte, a_Rd_addByte_0, bk_Rd_addByte_0, a_Rd_addByte_30, bk_Rd_addByte_30, yr_k hr, yr_0 hr, yr_k0 hr, yr_l0 hr, yr_3 hr, yr_k3 hr, yr_l3 hr, yr_4 hr, yr_k4 hr, yr_l4 hr, yr_5 hr, yr_k5 hr, yr_l5 hr, yr_9 hr, yr_k9 hr, yr_l9 hr, yr_11 hr, h1, up_fa, wr]
  refine k _ ⟨?_, ?_⟩ ⟨fun a a0 a1 => by rw [up_fa a0, up_fa a1], fun j hj => by rw [up_nk hj, up_fa (by omega)]⟩
  · rw [up_eq rfl rfl]
    unfold zA1
    rw [if_neg (by omega)]
  · rw [up_fa (by omega), up_zU, h2]
    unfold zA1
    rw [if_neg (by omega)]
theorem l_abt {r w : Int} (hr : yRd S r) : ∀ (c : Nat) (I : mN) (p : zTx) (x3 : Option mV), c ≤ 4 → rTx I r p → 0 ≤ p.2 → p.2 + zCn w c ≤ 900 → (∀ I' : mN, rTx I' r (zAb w c p) → rTf I I' r → Q (.inl none) I' S) → mAt (mRun (D + 1)) 66 3 ([some (mR r), some (mI w), some (mI (8 * (c : Int) - 8)), x3], [], I, S) Q
  | 0, I, p, x3, hc, hp, p0, p9, k => by
    rw [a_Rd_addBytes_3]
    simp (disch := first | omega | exact Nat.le_of_ble_eq_true rfl) only [w_iconst, w_bipush, w_sipush, w_ldc_s, w_ldcw_s, w_ldc_i, w_ldcw_i, w_lconst, w_fconst, w_dconst, w_iload, w_iload_n, w_aload, w_aload_n, w_dload, w_istore, w_istore_n, w_astore_r, w_astore_s, w_astore_n_r, w_astore_n_s, w_dstore, w_iinc, w_iadd, w_isub, w_imul, w_iand, w_iushr, v_idiv, v_irem, w_ineg, w_i2l, w_i2c, w_i2f, w_i2d, v_f2d, w_lcmp, w_dcmp, v_fdiv, v_ddiv, w_dup_i, w_dup_r, w_dup2, w_dup_x2, w_pop_i, w_pop_r, w_goto, w_switch, w_ret_i, v_ret_z, v_ret_c, w_ret_a, w_ret_s, w_ret_f, w_ret_d, w_ret_v, v_iaload, v_baload, v_caload, v_laload, v_aaload, v_iastore, v_bastore, v_castore, v_lastore, v_aastore, v_alen, v_newa, v_anewa, w_new, w_throw, w_dead, v_getf_i, v_getf_z, v_getf_r, v_putf_i, v_putf_z, v_putf_r, w_call0, w_call1, w_callv1, w_calli1, w_callt1, w_call2, w_callv2, w_calli2, w_callt2, w_call3, w_callv3, w_calli3, w_call4, w_callv4, w_calli4, w_call5, w_callv5, w_calli5, w_call6, w_callv6, w_calli6, w_call7, w_callv7, w_calli7, w_call8, w_callv8, w_calli8, c_if0_eq_t, c_if0_eq_f, c_if2_eq_t, c_if2_eq_f, c_if0_ne_t, c_if0_ne_f, c_if2_ne_t, c_if2_ne_f, c_if0_lt_t, c_if0_lt_f, c_if2_lt_t, c_if2_lt_f, c_if0_ge_t, c_if0_ge_f, c_if2_ge_t, c_if2_ge_f, c_if0_gt_t, c_if0_gt_f, c_if2_gt_t, c_if2_gt_f, c_if0_le_t, c_if0_le_f, c_if2_le_t, c_if2_le_f, w_nil, uI_s, uA_r, uA_s, uD_d, mPut_0, mCl_own, mCv_go, mCl_min, mCl_cpy, mCv_obj, mAct_len, mAct_chrc, mAft_v, mAft_n, mAft_x, mGet_0, mSet_0, mGet_1, mSet_1, mGet_2, mSet_2, mGet_3, mSet_3, mGet_4, mSet_4, mGet_5, mSet_5, mGet_6, mSet_6, mGet_7, mSet_7, mGet_8, mSet_8, mGet_9, mSet_9, mGet_10, mSet_10, mGet_11, mSet_11, mGet_12, mSet_12, mGet_13, mSet_13, bk_Rd_addBytes_3, a_Rd_addBytes_31, bk_Rd_addBytes_31]
    exact k I hp ⟨fun _ _ _ => rfl, fun _ _ => rfl⟩
  | c + 1, I, p, x3, hc, hp, p0, p9, k => by
    have e : 8 * ((c + 1 : Nat) : Int) - 8 = 8 * (c : Int) := by omega
    have e2 : 8 * (c : Int) + -8 = 8 * (c : Int) - 8 := by omega
    have hz : zCn w (c + 1) = zCn w c + zC1 w (8 * (c : Int)) := rfl
    have hb : mAnd (mShr w (8 * (c : Int))) 255 = zBy w (8 * (c : Int)) := rfl
    have h9 := zBy_b w (8 * (c : Int))
    have hcn := zCn_b w c
    have h2 := zA1_2 w (8 * (c : Int)) p
    have h1b := zC1_b w (8 * (c : Int))
    have hzb : zAb w (c + 1) p = zAb w c (zA1 (zBy w (8 * (c : Int))) p) := rfl
    rw [a_Rd_addBytes_3, e]
    by_cases c1 : zBy w (8 * (c : Int)) = 0
    · have e0 : zA1 (zBy w (8 * (c : Int))) p = p := if_pos c1
      rw [hzb, e0] at k
      simp (disch := first | omega | exact Nat.le_of_ble_eq_true rfl) only [w_iconst, w_bipush, w_sipush, w_ldc_s, w_ldcw_s, w_ldc_i, w_ldcw_i, w_lconst, w_fconst, w_dconst, w_iload, w_iload_n, w_aload, w_aload_n, w_dload, w_istore, w_istore_n, w_astore_r, w_astore_s, w_astore_n_r, w_astore_n_s, w_dstore, w_iinc, w_iadd, w_isub, w_imul, w_iand, w_iushr, v_idiv, v_irem, w_ineg, w_i2l, w_i2c, w_i2f, w_i2d, v_f2d, w_lcmp, w_dcmp, v_fdiv, v_ddiv, w_dup_i, w_dup_r, w_dup2, w_dup_x2, w_pop_i, w_pop_r, w_goto, w_switch, w_ret_i, v_ret_z, v_ret_c, w_ret_a, w_ret_s, w_ret_f, w_ret_d, w_ret_v, v_iaload, v_baload, v_caload, v_laload, v_aaload, v_iastore, v_bastore, v_castore, v_lastore, v_aastore, v_alen, v_newa, v_anewa, w_new, w_throw, w_dead, v_getf_i, v_getf_z, v_getf_r, v_putf_i, v_putf_z, v_putf_r, w_call0, w_call1, w_callv1, w_calli1, w_callt1, w_call2, w_callv2, w_calli2, w_callt2, w_call3, w_callv3, w_calli3, w_call4, w_callv4, w_calli4, w_call5, w_callv5, w_calli5, w_call6, w_callv6, w_calli6, w_call7, w_callv7, w_calli7, w_call8, w_callv8, w_calli8, c_if0_eq_t, c_if0_eq_f, c_if2_eq_t, c_if2_eq_f, c_if0_ne_t, c_if0_ne_f, c_if2_ne_t, c_if2_ne_f, c_if0_lt_t, c_if0_lt_f, c_if2_lt_t, c_if2_lt_f, c_if0_ge_t, c_if0_ge_f, c_if2_ge_t, c_if2_ge_f, c_if0_gt_t, c_if0_gt_f, c_if2_gt_t, c_if2_gt_f, c_if0_le_t, c_if0_le_f, c_if2_le_t, c_if2_le_f, w_nil, uI_s, uA_r, uA_s, uD_d, mPut_0, mCl_own, mCv_go, mCl_min, mCl_cpy, mCv_obj, mAct_len, mAct_chrc, mAft_v, mAft_n, mAft_x, mGet_0, mSet_0, mGet_1, mSet_1, mGet_2, mSet_2, mGet_3, mSet_3, mGet_4, mSet_4, mGet_5, mSet_5, mGet_6, mSet_6, mGet_7, mSet_7, mGet_8, mSet_8, mGet_9, mSet_9, mGet_10, mSet_10, mGet_11, mSet_11, mGet_12, mSet_12, mGet_13, mSet_13, bk_Rd_addBytes_3, a_Rd_addBytes_25, bk_Rd_addBytes_25, hb, c1, wr]
      rw [e2]
      exact l_abt hr c I p _ (by omega) hp p0 (by omega) k
    · have c2 : zC1 w (8 * (c : Int)) = 1 := if_neg c1
      have em : zBy w (8 * (c : Int)) % 65536 = zBy w (8 * (c : Int)) := by omega
      simp (disch := first | omega | exact Nat.le_of_ble_eq_true rfl | (simp (disch := omega) only [yr_k hr] <;> omega)) only [w_iconst, w_bipush, w_sipush, w_ldc_s, w_ldcw_s, w_ldc_i, w_ldcw_i, w_lconst, w_fconst, w_dconst, w_iload, w_iload_n, w_aload, w_aload_n, w_dload, w_istore, w_istore_n, w_astore_r, w_astore_s, w_astore_n_r, w_astore_n_s, w_dstore, w_iinc, w_iadd, w_isub, w_imul, w_iand, w_iushr, v_idiv, v_irem, w_ineg, w_i2l, w_i2c, w_i2f, w_i2d, v_f2d, w_lcmp, w_dcmp, v_fdiv, v_ddiv, w_dup_i, w_dup_r, w_dup2, w_dup_x2, w_pop_i, w_pop_r, w_goto, w_switch, w_ret_i, v_ret_z, v_ret_c, w_ret_a, w_ret_s, w_ret_f, w_ret_d, w_ret_v, v_iaload, v_baload, v_caload, v_laload, v_aaload, v_iastore, v_bastore, v_castore, v_lastore, v_aastore, v_alen, v_newa, v_anewa, w_new, w_throw, w_dead, v_getf_i, v_getf_z, v_getf_r, v_putf_i, v_putf_z, v_putf_r, w_call0, w_call1, w_callv1, w_calli1, w_callt1, w_call2, w_callv2, w_calli2, w_callt2, w_call3, w_callv3, w_calli3, w_call4, w_callv4, w_calli4, w_call5, w_callv5, w_calli5, w_call6, w_callv6, w_calli6, w_call7, w_callv7, w_calli7, w_call8, w_callv8, w_calli8, c_if0_eq_t, c_if0_eq_f, c_if2_eq_t, c_if2_eq_f, c_if0_ne_t, c_if0_ne_f, c_if2_ne_t, c_if2_ne_f, c_if0_lt_t, c_if0_lt_f, c_if2_lt_t, c_if2_lt_f, c_if0_ge_t, c_if0_ge_f, c_if2_ge_t, c_if2_ge_f, c_if0_gt_t, c_if0_gt_f, c_if2_gt_t, c_if2_gt_f, c_if0_le_t, c_if0_le_f, c_if2_le_t, c_if2_le_f, w_nil, uI_s, uA_r, uA_s, uD_d, mPut_0, mCl_own, mCv_go, mCl_min, mCl_cpy, mCv_obj, mAct_len, mAct_chrc, mAft_v, mAft_n, mAft_x, mGet_0, mSet_0, mGet_1, mSet_1, mGet_2, mSet_2, mGet_3, mSet_3, mGet_4, mSet_4, mGet_5, mSet_5, mGet_6, mSet_6, mGet_7, mSet_7, mGet_8, mSet_8, mGet_9, mSet_9, mGet_10, mSet_10, mGet_11, mSet_11, mGet_12, mSet_12, mGet_13, mSet_13, bk_Rd_addBytes_3, hb, c1, em, yr_k hr]
      refine p_addByte D hr hp p0 (by omega) (by omega) h9.2 (fun I1 hp1 f1 => ?_)
      rw [hzb] at k
      simp (disch := first | omega | exact Nat.le_of_ble_eq_true rfl) only [w_iconst, w_bipush, w_sipush, w_ldc_s, w_ldcw_s, w_ldc_i, w_ldcw_i, w_lconst, w_fconst, w_dconst, w_iload, w_iload_n, w_aload, w_aload_n, w_dload, w_istore, w_istore_n, w_astore_r, w_astore_s, w_astore_n_r, w_astore_n_s, w_dstore, w_iinc, w_iadd, w_isub, w_imul, w_iand, w_iushr, v_idiv, v_irem, w_ineg, w_i2l, w_i2c, w_i2f, w_i2d, v_f2d, w_lcmp, w_dcmp, v_fdiv, v_ddiv, w_dup_i, w_dup_r, w_dup2, w_dup_x2, w_pop_i, w_pop_r, w_goto, w_switch, w_ret_i, v_ret_z, v_ret_c, w_ret_a, w_ret_s, w_ret_f, w_ret_d, w_ret_v, v_iaload, v_baload, v_caload, v_laload, v_aaload, v_iastore, v_bastore, v_castore, v_lastore, v_aastore, v_alen, v_newa, v_anewa, w_new, w_throw, w_dead, v_getf_i, v_getf_z, v_getf_r, v_putf_i, v_putf_z, v_putf_r, w_call0, w_call1, w_callv1, w_calli1, w_callt1, w_call2, w_callv2, w_calli2, w_callt2, w_call3, w_callv3, w_calli3, w_call4, w_callv4, w_calli4, w_call5, w_callv5, w_calli5, w_call6, w_callv6, w_calli6, w_call7, w_callv7, w_calli7, w_call8, w_callv8, w_calli8, c_if0_eq_t, c_if0_eq_f, c_if2_eq_t, c_if2_eq_f, c_if0_ne_t, c_if0_ne_f, c_if2_ne_t, c_if2_ne_f, c_if0_lt_t, c_if0_lt_f, c_if2_lt_t, c_if2_lt_f, c_if0_ge_t, c_if0_ge_f, c_if2_ge_t, c_if2_ge_f, c_if0_gt_t, c_if0_gt_f, c_if2_gt_t, c_if2_gt_f, c_if0_le_t, c_if0_le_f, c_if2_le_t, c_if2_le_f, w_nil, uI_s, uA_r, uA_s, uD_d, mPut_0, mCl_own, mCv_go, mCl_min, mCl_cpy, mCv_obj, mAct_len, mAct_chrc, mAft_v, mAft_n, mAft_x, mGet_0, mSet_0, mGet_1, mSet_1, mGet_2, mSet_2, mGet_3, mSet_3, mGet_4, mSet_4, mGet_5, mSet_5, mGet_6, mSet_6, mGet_7, mSet_7, mGet_8, mSet_8, mGet_9, mSet_9, mGet_10, mSet_10, mGet_11, mSet_11, mGet_12, mSet_12, mGet_13, mSet_13, a_Rd_addBytes_25, bk_Rd_addBytes_25, wr]
      rw [e2]
      exact l_abt hr c I1 _ _ (by omega) hp1 (by omega) (by omega) (fun I' q1 q2 => k I' q1 (rTf_t f1 q2))
theorem p_addBytes {r w : Int} {p : zTx} (hr : yRd S r) (hp : rTx I r p) (p0 : 0 ≤ p.2) (p9 : p.2 + zCn w 4 ≤ 900) (k : ∀ I' : mN, rTx I' r (zAb w 4 p) → rTf I I' r → Q (.inl none) I' S) : mRun (D + 2) 66 [mR r, mI w] I S Q := by
  have h := l_abt (Q := Q) D hr (w := w) 4 I p none (Nat.le_refl 4) hp p0 p9 k
  rw [show 8 * ((4 : Nat) : Int) - 8 = 24 by decide] at h
  simp (disch := first | omega | exact Nat.le_of_ble_eq_true rfl) only [w_iconst, w_bipush, w_sipush, w_ldc_s, w_ldcw_s, w_ldc_i, w_ldcw_i, w_lconst, w_fconst, w_dconst, w_iload, w_iload_n, w_aload, w_aload_n, w_dload, w_istore, w_istore_n, w_astore_r, w_astore_s, w_astore_n_r, w_astore_n_s, w_dstore, w_iinc, w_iadd, w_isub, w_imul, w_iand, w_iushr, v_idiv, v_irem, w_ineg, w_i2l, w_i2c, w_i2f, w_i2d, v_f2d, w_lcmp, w_dcmp, v_fdiv, v_ddiv, w_dup_i, w_dup_r, w_dup2, w_dup_x2, w_pop_i, w_pop_r, w_goto, w_switch, w_ret_i, v_ret_z, v_ret_c, w_ret_a, w_ret_s, w_ret_f, w_ret_d, w_ret_v, v_iaload, v_baload, v_caload, v_laload, v_aaload, v_iastore, v_bastore, v_castore, v_lastore, v_aastore, v_alen, v_newa, v_anewa, w_new, w_throw, w_dead, v_getf_i, v_getf_z, v_getf_r, v_putf_i, v_putf_z, v_putf_r, w_call0, w_call1, w_callv1, w_calli1, w_callt1, w_call2, w_callv2, w_calli2, w_callt2, w_call3, w_callv3, w_calli3, w_call4, w_callv4, w_calli4, w_call5, w_callv5, w_calli5, w_call6, w_callv6, w_calli6, w_call7, w_callv7, w_calli7, w_call8, w_callv8, w_calli8, c_if0_eq_t, c_if0_eq_f, c_if2_eq_t, c_if2_eq_f, c_if0_ne_t, c_if0_ne_f, c_if2_ne_t, c_if2_ne_f, c_if0_lt_t, c_if0_lt_f, c_if2_lt_t, c_if2_lt_f, c_if0_ge_t, c_if0_ge_f, c_if2_ge_t, c_if2_ge_f, c_if0_gt_t, c_if0_gt_f, c_if2_gt_t, c_if2_gt_f, c_if0_le_t, c_if0_le_f, c_if2_le_t, c_if2_le_f, w_nil, uI_s, uA_r, uA_s, uD_d, mPut_0, mCl_own, mCv_go, mCl_min, mCl_cpy, mCv_obj, mAct_len, mAct_chrc, mAft_v, mAft_n, mAft_x, mGet_0, mSet_0, mGet_1, mSet_1, mGet_2, mSet_2, mGet_3, mSet_3, mGet_4, mSet_4, mGet_5, mSet_5, mGet_6, mSet_6, mGet_7, mSet_7, mGet_8, mSet_8, mGet_9, mSet_9, mGet_10, mSet_10, mGet_11, mSet_11, mGet_12, mSet_12, mGet_13, mSet_13, e_Rd_addBytes, a_Rd_addBytes_0, bk_Rd_addBytes_0]
  exact h
theorem xQ_tx {I' : mN} {p : zTx} (hg : gWf G) (hx : xQ S I x π G) (f : rTf I I' (x + 2359)) (hp1 : I' (x + 2359) 1 = p.2) (hp2 : ∀ i : Int, 0 ≤ i → i < p.2 → I' (x + 2360) i = p.1 i) : xQ S I' x π (gTx G p) := by
  obtain ⟨q1, q2, q3, q4, q5, q6, q7, q8, q9, q10, q11⟩ := hx
  have f1 := f.1
  have e : ∀ a : Int, (a < x + 2359 ∨ x + 2360 < a) → I' a = I a := fun a ha => f1 a (by omega) (by omega)
  have gn := hg.1
  have hk : ∀ (k j a : Int), 0 ≤ k → k < 3 → 0 ≤ j → j < 7 → x + (4 + 744 * k) + 106 * j ≤ a → a < x + (4 + 744 * k) + 106 * j + 106 → I' a = I a := fun k j a k0 k1 j0 j1 a0 a1 => e a (by omega)
  refine ⟨q1, by rw [e x (by omega)]; exact q2, fun k k0 k1 => ?_, fun k j k0 k1 j0 j1 => yOk_k (q4 k j k0 k1 j0 j1) (fun a a0 a1 => hk k j a k0 k1 j0 j1 a0 a1), fun k j k0 k1 j0 j1 => ?_, yOk_k q6 (fun a a0 a1 => e a (by omega)), nOldQ_k q7 (fun a a0 a1 => e a (by omega)), fun v v0 v1 => by rw [e _ (by omega)]; exact q8 v v0 v1, ⟨hp1, ?_, hp2⟩, by rw [e (x + 2364) (by omega), e (x + 2357) (by omega), e (x + 2358) (by omega)]; exact q10, ?_⟩
  · have e1 : (gTx G p).1 (10 + k) = G.1 (10 + k) := gTx_1 (by omega)
    have e2 : (gTx G p).1 (20 + k) = G.1 (20 + k) := gTx_1 (by omega)
    rw [e1, e2, e _ (by omega)]; exact q3 k k0 k1
  · have e2 : (gTx G p).1 (20 + k) = G.1 (20 + k) := gTx_1 (by omega)
    have e0 : (gTx G p).1 0 = G.1 0 := gTx_1 (by decide)
    rw [e2] at j1
    rw [e0] at k1
    have k3 : k < 3 := by omega
    have j7 : j < 7 := by have := (hg.2.2.1 k k0 k3).1; omega
    have hp' := yx_pi q1 k0 k3 j0 j7
    exact yS_k (hg.2.2.2.1 k j k0 k1 j0 j1).1 (q5 k j k0 k1 j0 j1) (fun a a0 a1 => hk k (π k j) a k0 k3 hp'.1 hp'.2 a0 a1)
  · have e3 : (gTx G p).1 3 = G.1 3 := gTx_1 (by decide)
    rw [e3, f.2 2 (by decide)]; exact q9.2.1
  · have e4 : (gTx G p).1 4 = G.1 4 := gTx_1 (by decide)
    rw [e4, e (x + 2365) (by omega), e (x + 2366) (by omega)]; exact q11
theorem gCh_tx {p : zTx} (hg : gWf G) : gCh (gTx G p) = gCh G := by
  unfold gCh
  have e5 : (gTx G p).1 5 = G.1 5 := gTx_1 (by decide)
  have e6 : (gTx G p).1 6 = G.1 6 := gTx_1 (by decide)
  rw [e5, e6]
  by_cases c : G.1 5 = -1
  · rw [if_pos c, if_pos c]
  · rw [if_neg c, if_neg c]
    have h5 : 0 ≤ G.1 5 := by
      rcases hg.2.2.2.2.2.2.2 with q | q
      · exact absurd q c
      · exact q.1.1
    have e1 : (gTx G p).1 (10 + G.1 5) = G.1 (10 + G.1 5) := gTx_1 (by omega)
    rw [e1]
    rfl
theorem cx_0 {a b c d e : Int} (hg : gWf G) (h : xR S I x G) (hn : x + 2369 ≤ S.2.2.2.1) (kk : xK S I x Q (r0 G a b c d e)) : mRun (D + 50) 115 [mR x, mI a, mI b, mI c, mI d, mI e] I S Q := by
  obtain ⟨π, hx, h3⟩ := id h
  have h1 := hx.1
  have hr := yx_r h1
  obtain ⟨t1, t2, t3⟩ := hx.2.2.2.2.2.2.2.2.1
  have tb := hg.2.2.2.2.1.1
  have ba := zCn_b a 4
  have bb := zCn_b b 4
  have bc := zCn_b c 4
  have bd := zCn_b d 4
  have be := zCn_b e 4
  have hbi : ∀ (w : Int) (Q : mQ), mRun (D + 49) 116 [mI w] I S Q = Q (.inl (some (mI (zCn w 4)))) I S := fun w Q => r_bytesIn (D + 48)
  unfold r0 at kk
  unfold zAc at kk
  by_cases c1 : (G.1 2) + (zCn a 4 + zCn b 4 + zCn c 4 + zCn d 4 + zCn e 4) ≤ 900
  · rw [if_pos c1] at kk
    simp (disch := first | omega | exact Nat.le_of_ble_eq_true rfl | (simp (disch := omega) only [yx_k h1, yx_0 h1, yx_4 h1, yx_5 h1, yx_6 h1, yx_7 h1, yx_8 h1, yx_9 h1, yx_10 h1, yx_k1 h1, yx_l1 h1, yx_b h1, yx_bk h1, yx_bs h1, yx_sk h1, yx_sl h1, yx_s h1, yx_e h1, yx_k9 h1, yx_l9 h1, yx_k10 h1, yx_l10 h1, yr_k hr, t1] <;> omega)) only [w_iconst, w_bipush, w_sipush, w_ldc_s, w_ldcw_s, w_ldc_i, w_ldcw_i, w_lconst, w_fconst, w_dconst, w_iload, w_iload_n, w_aload, w_aload_n, w_dload, w_istore, w_istore_n, w_astore_r, w_astore_s, w_astore_n_r, w_astore_n_s, w_dstore, w_iinc, w_iadd, w_isub, w_imul, w_iand, w_iushr, v_idiv, v_irem, w_ineg, w_i2l, w_i2c, w_i2f, w_i2d, v_f2d, w_lcmp, w_dcmp, v_fdiv, v_ddiv, w_dup_i, w_dup_r, w_dup2, w_dup_x2, w_pop_i, w_pop_r, w_goto, w_switch, w_ret_i, v_ret_z, v_ret_c, w_ret_a, w_ret_s, w_ret_f, w_ret_d, w_ret_v, v_iaload, v_baload, v_caload, v_laload, v_aaload, v_iastore, v_bastore, v_castore, v_lastore, v_aastore, v_alen, v_newa, v_anewa, w_new, w_throw, w_dead, v_getf_i, v_getf_z, v_getf_r, v_putf_i, v_putf_z, v_putf_r, w_call0, w_call1, w_callv1, w_calli1, w_callt1, w_call2, w_callv2, w_calli2, w_callt2, w_call3, w_callv3, w_calli3, w_call4, w_callv4, w_calli4, w_call5, w_callv5, w_calli5, w_call6, w_callv6, w_calli6, w_call7, w_callv7, w_calli7, w_call8, w_callv8, w_calli8, c_if0_eq_t, c_if0_eq_f, c_if2_eq_t, c_if2_eq_f, c_if0_ne_t, c_if0_ne_f, c_if2_ne_t, c_if2_ne_f, c_if0_lt_t, c_if0_lt_f, c_if2_lt_t, c_if2_lt_f, c_if0_ge_t, c_if0_ge_f, c_if2_ge_t, c_if2_ge_f, c_if0_gt_t, c_if0_gt_f, c_if2_gt_t, c_if2_gt_f, c_if0_le_t, c_if0_le_f, c_if2_le_t, c_if2_le_f, w_nil, uI_s, uA_r, uA_s, uD_d, mPut_0, mCl_own, mCv_go, mCl_min, mCl_cpy, mCv_obj, mAct_len, mAct_chrc, mAft_v, mAft_n, mAft_x, mGet_0, mSet_0, mGet_1, mSet_1, mGet_2, mSet_2, mGet_3, mSet_3, mGet_4, mSet_4, mGet_5, mSet_5, mGet_6, mSet_6, mGet_7, mSet_7, mGet_8, mSet_8, mGet_9, mSet_9, mGet_10, mSet_10, mGet_11, mSet_11, mGet_12, mSet_12, mGet_13, mSet_13, e_RS_append, a_RS_append_0, bk_RS_append_0, a_RS_append_54, bk_RS_append_54, yx_k h1, yx_0 h1, yx_4 h1, yx_5 h1, yx_6 h1, yx_7 h1, yx_8 h1, yx_9 h1, yx_10 h1, yx_k1 h1, yx_l1 h1, yx_b h1, yx_bk h1, yx_bs h1, yx_sk h1, yx_sl h1, yx_s h1, yx_e h1, yx_k9 h1, yx_l9 h1, yx_k10 h1, yx_l10 h1, yr_k hr, hbi, t1, wr, c1]
    refine p_addBytes (p := (I (x + 2359 + 1), I (x + 2359) 1)) (D + 47) hr ⟨rfl, rfl⟩ (by show 0 ≤ I (x + 2359) 1; omega) (by show I (x + 2359) 1 + _ ≤ 900; omega) (fun I1 p1 f1 => ?_)
    have n1 := zAb_2 a 4 (I (x + 2359 + 1), I (x + 2359) 1)
    have n1' : (zAb a 4 (I (x + 2359 + 1), I (x + 2359) 1)).2 = I (x + 2359) 1 + zCn a 4 := n1
    simp (disch := first | omega | exact Nat.le_of_ble_eq_true rfl | (simp (disch := omega) only [yx_k h1, yx_0 h1, yx_4 h1, yx_5 h1, yx_6 h1, yx_7 h1, yx_8 h1, yx_9 h1, yx_10 h1, yx_k1 h1, yx_l1 h1, yx_b h1, yx_bk h1, yx_bs h1, yx_sk h1, yx_sl h1, yx_s h1, yx_e h1, yx_k9 h1, yx_l9 h1, yx_k10 h1, yx_l10 h1, yr_k hr] <;> omega)) only [w_iconst, w_bipush, w_sipush, w_ldc_s, w_ldcw_s, w_ldc_i, w_ldcw_i, w_lconst, w_fconst, w_dconst, w_iload, w_iload_n, w_aload, w_aload_n, w_dload, w_istore, w_istore_n, w_astore_r, w_astore_s, w_astore_n_r, w_astore_n_s, w_dstore, w_iinc, w_iadd, w_isub, w_imul, w_iand, w_iushr, v_idiv, v_irem, w_ineg, w_i2l, w_i2c, w_i2f, w_i2d, v_f2d, w_lcmp, w_dcmp, v_fdiv, v_ddiv, w_dup_i, w_dup_r, w_dup2, w_dup_x2, w_pop_i, w_pop_r, w_goto, w_switch, w_ret_i, v_ret_z, v_ret_c, w_ret_a, w_ret_s, w_ret_f, w_ret_d, w_ret_v, v_iaload, v_baload, v_caload, v_laload, v_aaload, v_iastore, v_bastore, v_castore, v_lastore, v_aastore, v_alen, v_newa, v_anewa, w_new, w_throw, w_dead, v_getf_i, v_getf_z, v_getf_r, v_putf_i, v_putf_z, v_putf_r, w_call0, w_call1, w_callv1, w_calli1, w_callt1, w_call2, w_callv2, w_calli2, w_callt2, w_call3, w_callv3, w_calli3, w_call4, w_callv4, w_calli4, w_call5, w_callv5, w_calli5, w_call6, w_callv6, w_calli6, w_call7, w_callv7, w_calli7, w_call8, w_callv8, w_calli8, c_if0_eq_t, c_if0_eq_f, c_if2_eq_t, c_if2_eq_f, c_if0_ne_t, c_if0_ne_f, c_if2_ne_t, c_if2_ne_f, c_if0_lt_t, c_if0_lt_f, c_if2_lt_t, c_if2_lt_f, c_if0_ge_t, c_if0_ge_f, c_if2_ge_t, c_if2_ge_f, c_if0_gt_t, c_if0_gt_f, c_if2_gt_t, c_if2_gt_f, c_if0_le_t, c_if0_le_f, c_if2_le_t, c_if2_le_f, w_nil, uI_s, uA_r, uA_s, uD_d, mPut_0, mCl_own, mCv_go, mCl_min, mCl_cpy, mCv_obj, mAct_len, mAct_chrc, mAft_v, mAft_n, mAft_x, mGet_0, mSet_0, mGet_1, mSet_1, mGet_2, mSet_2, mGet_3, mSet_3, mGet_4, mSet_4, mGet_5, mSet_5, mGet_6, mSet_6, mGet_7, mSet_7, mGet_8, mSet_8, mGet_9, mSet_9, mGet_10, mSet_10, mGet_11, mSet_11, mGet_12, mSet_12, mGet_13, mSet_13, yx_k h1, yx_0 h1, yx_4 h1, yx_5 h1, yx_6 h1, yx_7 h1, yx_8 h1, yx_9 h1, yx_10 h1, yx_k1 h1, yx_l1 h1, yx_b h1, yx_bk h1, yx_bs h1, yx_sk h1, yx_sl h1, yx_s h1, yx_e h1, yx_k9 h1, yx_l9 h1, yx_k10 h1, yx_l10 h1, yr_k hr]
    refine p_addBytes (D + 47) hr p1 (by omega) (by omega) (fun I2 p2 f2 => ?_)
    have n2 := zAb_2 b 4 (zAb a 4 (I (x + 2359 + 1), I (x + 2359) 1))
    simp (disch := first | omega | exact Nat.le_of_ble_eq_true rfl | (simp (disch := omega) only [yx_k h1, yx_0 h1, yx_4 h1, yx_5 h1, yx_6 h1, yx_7 h1, yx_8 h1, yx_9 h1, yx_10 h1, yx_k1 h1, yx_l1 h1, yx_b h1, yx_bk h1, yx_bs h1, yx_sk h1, yx_sl h1, yx_s h1, yx_e h1, yx_k9 h1, yx_l9 h1, yx_k10 h1, yx_l10 h1, yr_k hr] <;> omega)) only [w_iconst, w_bipush, w_sipush, w_ldc_s, w_ldcw_s, w_ldc_i, w_ldcw_i, w_lconst, w_fconst, w_dconst, w_iload, w_iload_n, w_aload, w_aload_n, w_dload, w_istore, w_istore_n, w_astore_r, w_astore_s, w_astore_n_r, w_astore_n_s, w_dstore, w_iinc, w_iadd, w_isub, w_imul, w_iand, w_iushr, v_idiv, v_irem, w_ineg, w_i2l, w_i2c, w_i2f, w_i2d, v_f2d, w_lcmp, w_dcmp, v_fdiv, v_ddiv, w_dup_i, w_dup_r, w_dup2, w_dup_x2, w_pop_i, w_pop_r, w_goto, w_switch, w_ret_i, v_ret_z, v_ret_c, w_ret_a, w_ret_s, w_ret_f, w_ret_d, w_ret_v, v_iaload, v_baload, v_caload, v_laload, v_aaload, v_iastore, v_bastore, v_castore, v_lastore, v_aastore, v_alen, v_newa, v_anewa, w_new, w_throw, w_dead, v_getf_i, v_getf_z, v_getf_r, v_putf_i, v_putf_z, v_putf_r, w_call0, w_call1, w_callv1, w_calli1, w_callt1, w_call2, w_callv2, w_calli2, w_callt2, w_call3, w_callv3, w_calli3, w_call4, w_callv4, w_calli4, w_call5, w_callv5, w_calli5, w_call6, w_callv6, w_calli6, w_call7, w_callv7, w_calli7, w_call8, w_callv8, w_calli8, c_if0_eq_t, c_if0_eq_f, c_if2_eq_t, c_if2_eq_f, c_if0_ne_t, c_if0_ne_f, c_if2_ne_t, c_if2_ne_f, c_if0_lt_t, c_if0_lt_f, c_if2_lt_t, c_if2_lt_f, c_if0_ge_t, c_if0_ge_f, c_if2_ge_t, c_if2_ge_f, c_if0_gt_t, c_if0_gt_f, c_if2_gt_t, c_if2_gt_f, c_if0_le_t, c_if0_le_f, c_if2_le_t, c_if2_le_f, w_nil, uI_s, uA_r, uA_s, uD_d, mPut_0, mCl_own, mCv_go, mCl_min, mCl_cpy, mCv_obj, mAct_len, mAct_chrc, mAft_v, mAft_n, mAft_x, mGet_0, mSet_0, mGet_1, mSet_1, mGet_2, mSet_2, mGet_3, mSet_3, mGet_4, mSet_4, mGet_5, mSet_5, mGet_6, mSet_6, mGet_7, mSet_7, mGet_8, mSet_8, mGet_9, mSet_9, mGet_10, mSet_10, mGet_11, mSet_11, mGet_12, mSet_12, mGet_13, mSet_13, yx_k h1, yx_0 h1, yx_4 h1, yx_5 h1, yx_6 h1, yx_7 h1, yx_8 h1, yx_9 h1, yx_10 h1, yx_k1 h1, yx_l1 h1, yx_b h1, yx_bk h1, yx_bs h1, yx_sk h1, yx_sl h1, yx_s h1, yx_e h1, yx_k9 h1, yx_l9 h1, yx_k10 h1, yx_l10 h1, yr_k hr]
    refine p_addBytes (D + 47) hr p2 (by omega) (by omega) (fun I3 p3 f3 => ?_)
    have n3 := zAb_2 c 4 (zAb b 4 (zAb a 4 (I (x + 2359 + 1), I (x + 2359) 1)))
    simp (disch := first | omega | exact Nat.le_of_ble_eq_true rfl | (simp (disch := omega) only [yx_k h1, yx_0 h1, yx_4 h1, yx_5 h1, yx_6 h1, yx_7 h1, yx_8 h1, yx_9 h1, yx_10 h1, yx_k1 h1, yx_l1 h1, yx_b h1, yx_bk h1, yx_bs h1, yx_sk h1, yx_sl h1, yx_s h1, yx_e h1, yx_k9 h1, yx_l9 h1, yx_k10 h1, yx_l10 h1, yr_k hr] <;> omega)) only [w_iconst, w_bipush, w_sipush, w_ldc_s, w_ldcw_s, w_ldc_i, w_ldcw_i, w_lconst, w_fconst, w_dconst, w_iload, w_iload_n, w_aload, w_aload_n, w_dload, w_istore, w_istore_n, w_astore_r, w_astore_s, w_astore_n_r, w_astore_n_s, w_dstore, w_iinc, w_iadd, w_isub, w_imul, w_iand, w_iushr, v_idiv, v_irem, w_ineg, w_i2l, w_i2c, w_i2f, w_i2d, v_f2d, w_lcmp, w_dcmp, v_fdiv, v_ddiv, w_dup_i, w_dup_r, w_dup2, w_dup_x2, w_pop_i, w_pop_r, w_goto, w_switch, w_ret_i, v_ret_z, v_ret_c, w_ret_a, w_ret_s, w_ret_f, w_ret_d, w_ret_v, v_iaload, v_baload, v_caload, v_laload, v_aaload, v_iastore, v_bastore, v_castore, v_lastore, v_aastore, v_alen, v_newa, v_anewa, w_new, w_throw, w_dead, v_getf_i, v_getf_z, v_getf_r, v_putf_i, v_putf_z, v_putf_r, w_call0, w_call1, w_callv1, w_calli1, w_callt1, w_call2, w_callv2, w_calli2, w_callt2, w_call3, w_callv3, w_calli3, w_call4, w_callv4, w_calli4, w_call5, w_callv5, w_calli5, w_call6, w_callv6, w_calli6, w_call7, w_callv7, w_calli7, w_call8, w_callv8, w_calli8, c_if0_eq_t, c_if0_eq_f, c_if2_eq_t, c_if2_eq_f, c_if0_ne_t, c_if0_ne_f, c_if2_ne_t, c_if2_ne_f, c_if0_lt_t, c_if0_lt_f, c_if2_lt_t, c_if2_lt_f, c_if0_ge_t, c_if0_ge_f, c_if2_ge_t, c_if2_ge_f, c_if0_gt_t, c_if0_gt_f, c_if2_gt_t, c_if2_gt_f, c_if0_le_t, c_if0_le_f, c_if2_le_t, c_if2_le_f, w_nil, uI_s, uA_r, uA_s, uD_d, mPut_0, mCl_own, mCv_go, mCl_min, mCl_cpy, mCv_obj, mAct_len, mAct_chrc, mAft_v, mAft_n, mAft_x, mGet_0, mSet_0, mGet_1, mSet_1, mGet_2, mSet_2, mGet_3, mSet_3, mGet_4, mSet_4, mGet_5, mSet_5, mGet_6, mSet_6, mGet_7, mSet_7, mGet_8, mSet_8, mGet_9, mSet_9, mGet_10, mSet_10, mGet_11, mSet_11, mGet_12, mSet_12, mGet_13, mSet_13, yx_k h1, yx_0 h1, yx_4 h1, yx_5 h1, yx_6 h1, yx_7 h1, yx_8 h1, yx_9 h1, yx_10 h1, yx_k1 h1, yx_l1 h1, yx_b h1, yx_bk h1, yx_bs h1, yx_sk h1, yx_sl h1, yx_s h1, yx_e h1, yx_k9 h1, yx_l9 h1, yx_k10 h1, yx_l10 h1, yr_k hr]
    refine p_addBytes (D + 47) hr p3 (by omega) (by omega) (fun I4 p4 f4 => ?_)
    have n4 := zAb_2 d 4 (zAb c 4 (zAb b 4 (zAb a 4 (I (x + 2359 + 1), I (x + 2359) 1))))
    simp (disch := first | omega | exact Nat.le_of_ble_eq_true rfl | (simp (disch := omega) only [yx_k h1, yx_0 h1, yx_4 h1, yx_5 h1, yx_6 h1, yx_7 h1, yx_8 h1, yx_9 h1, yx_10 h1, yx_k1 h1, yx_l1 h1, yx_b h1, yx_bk h1, yx_bs h1, yx_sk h1, yx_sl h1, yx_s h1, yx_e h1, yx_k9 h1, yx_l9 h1, yx_k10 h1, yx_l10 h1, yr_k hr] <;> omega)) only [w_iconst, w_bipush, w_sipush, w_ldc_s, w_ldcw_s, w_ldc_i, w_ldcw_i, w_lconst, w_fconst, w_dconst, w_iload, w_iload_n, w_aload, w_aload_n, w_dload, w_istore, w_istore_n, w_astore_r, w_astore_s, w_astore_n_r, w_astore_n_s, w_dstore, w_iinc, w_iadd, w_isub, w_imul, w_iand, w_iushr, v_idiv, v_irem, w_ineg, w_i2l, w_i2c, w_i2f, w_i2d, v_f2d, w_lcmp, w_dcmp, v_fdiv, v_ddiv, w_dup_i, w_dup_r, w_dup2, w_dup_x2, w_pop_i, w_pop_r, w_goto, w_switch, w_ret_i, v_ret_z, v_ret_c, w_ret_a, w_ret_s, w_ret_f, w_ret_d, w_ret_v, v_iaload, v_baload, v_caload, v_laload, v_aaload, v_iastore, v_bastore, v_castore, v_lastore, v_aastore, v_alen, v_newa, v_anewa, w_new, w_throw, w_dead, v_getf_i, v_getf_z, v_getf_r, v_putf_i, v_putf_z, v_putf_r, w_call0, w_call1, w_callv1, w_calli1, w_callt1, w_call2, w_callv2, w_calli2, w_callt2, w_call3, w_callv3, w_calli3, w_call4, w_callv4, w_calli4, w_call5, w_callv5, w_calli5, w_call6, w_callv6, w_calli6, w_call7, w_callv7, w_calli7, w_call8, w_callv8, w_calli8, c_if0_eq_t, c_if0_eq_f, c_if2_eq_t, c_if2_eq_f, c_if0_ne_t, c_if0_ne_f, c_if2_ne_t, c_if2_ne_f, c_if0_lt_t, c_if0_lt_f, c_if2_lt_t, c_if2_lt_f, c_if0_ge_t, c_if0_ge_f, c_if2_ge_t, c_if2_ge_f, c_if0_gt_t, c_if0_gt_f, c_if2_gt_t, c_if2_gt_f, c_if0_le_t, c_if0_le_f, c_if2_le_t, c_if2_le_f, w_nil, uI_s, uA_r, uA_s, uD_d, mPut_0, mCl_own, mCv_go, mCl_min, mCl_cpy, mCv_obj, mAct_len, mAct_chrc, mAft_v, mAft_n, mAft_x, mGet_0, mSet_0, mGet_1, mSet_1, mGet_2, mSet_2, mGet_3, mSet_3, mGet_4, mSet_4, mGet_5, mSet_5, mGet_6, mSet_6, mGet_7, mSet_7, mGet_8, mSet_8, mGet_9, mSet_9, mGet_10, mSet_10, mGet_11, mSet_11, mGet_12, mSet_12, mGet_13, mSet_13, yx_k h1, yx_0 h1, yx_4 h1, yx_5 h1, yx_6 h1, yx_7 h1, yx_8 h1, yx_9 h1, yx_10 h1, yx_k1 h1, yx_l1 h1, yx_b h1, yx_bk h1, yx_bs h1, yx_sk h1, yx_sl h1, yx_s h1, yx_e h1, yx_k9 h1, yx_l9 h1, yx_k10 h1, yx_l10 h1, yr_k hr]
    refine p_addBytes (D + 47) hr p4 (by omega) (by omega) (fun I5 p5 f5 => ?_)
    have n5 := zAb_2 e 4 (zAb d 4 (zAb c 4 (zAb b 4 (zAb a 4 (I (x + 2359 + 1), I (x + 2359) 1)))))
    have f9 := rTf_t f1 (rTf_t f2 (rTf_t f3 (rTf_t f4 f5)))
    have e57 : x + 2359 + 1 = x + 2360 := by omega
    have hte : zTe (I (x + 2359 + 1), I (x + 2359) 1) ((G.2.2 1), (G.1 2)) := ⟨t1, fun i i0 i1 => by
      show I (x + 2359 + 1) i = (G.2.2 1) i
      rw [e57]
      exact t3 i i0 (by rw [← t1]; exact i1)⟩
    have hte9 : zTe (zAp a b c d e (I (x + 2359 + 1), I (x + 2359) 1)) (zAp a b c d e ((G.2.2 1), (G.1 2))) := zTe_b 4 (zTe_b 4 (zTe_b 4 (zTe_b 4 (zTe_b 4 hte))))
    have i9 : I5 (x + 2359) 1 = (G.1 2) + (zCn a 4 + zCn b 4 + zCn c 4 + zCn d 4 + zCn e 4) := by rw [p5.1]; omega
    simp (disch := first | omega | exact Nat.le_of_ble_eq_true rfl | (simp (disch := omega) only [yx_k h1, yx_0 h1, yx_4 h1, yx_5 h1, yx_6 h1, yx_7 h1, yx_8 h1, yx_9 h1, yx_10 h1, yx_k1 h1, yx_l1 h1, yx_b h1, yx_bk h1, yx_bs h1, yx_sk h1, yx_sl h1, yx_s h1, yx_e h1, yx_k9 h1, yx_l9 h1, yx_k10 h1, yx_l10 h1, yr_k hr, i9] <;> omega)) only [w_iconst, w_bipush, w_sipush, w_ldc_s, w_ldcw_s, w_ldc_i, w_ldcw_i, w_lconst, w_fconst, w_dconst, w_iload, w_iload_n, w_aload, w_aload_n, w_dload, w_istore, w_istore_n, w_astore_r, w_astore_s, w_astore_n_r, w_astore_n_s, w_dstore, w_iinc, w_iadd, w_isub, w_imul, w_iand, w_iushr, v_idiv, v_irem, w_ineg, w_i2l, w_i2c, w_i2f, w_i2d, v_f2d, w_lcmp, w_dcmp, v_fdiv, v_ddiv, w_dup_i, w_dup_r, w_dup2, w_dup_x2, w_pop_i, w_pop_r, w_goto, w_switch, w_ret_i, v_ret_z, v_ret_c, w_ret_a, w_ret_s, w_ret_f, w_ret_d, w_ret_v, v_iaload, v_baload, v_caload, v_laload, v_aaload, v_iastore, v_bastore, v_castore, v_lastore, v_aastore, v_alen, v_newa, v_anewa, w_new, w_throw, w_dead, v_getf_i, v_getf_z, v_getf_r, v_putf_i, v_putf_z, v_putf_r, w_call0, w_call1, w_callv1, w_calli1, w_callt1, w_call2, w_callv2, w_calli2, w_callt2, w_call3, w_callv3, w_calli3, w_call4, w_callv4, w_calli4, w_call5, w_callv5, w_calli5, w_call6, w_callv6, w_calli6, w_call7, w_callv7, w_calli7, w_call8, w_callv8, w_calli8, c_if0_eq_t, c_if0_eq_f, c_if2_eq_t, c_if2_eq_f, c_if0_ne_t, c_if0_ne_f, c_if2_ne_t, c_if2_ne_f, c_if0_lt_t, c_if0_lt_f, c_if2_lt_t, c_if2_lt_f, c_if0_ge_t, c_if0_ge_f, c_if2_ge_t, c_if2_ge_f, c_if0_gt_t, c_if0_gt_f, c_if2_gt_t, c_if2_gt_f, c_if0_le_t, c_if0_le_f, c_if2_le_t, c_if2_le_f, w_nil, uI_s, uA_r, uA_s, uD_d, mPut_0, mCl_own, mCv_go, mCl_min, mCl_cpy, mCv_obj, mAct_len, mAct_chrc, mAft_v, mAft_n, mAft_x, mGet_0, mSet_0, mGet_1, mSet_1, mGet_2, mSet_2, mGet_3, mSet_3, mGet_4, mSet_4, mGet_5, mSet_5, mGet_6, mSet_6, mGet_7, mSet_7, mGet_8, mSet_8, mGet_9, mSet_9, mGet_10, mSet_10, mGet_11, mSet_11, mGet_12, mSet_12, mGet_13, mSet_13, yx_k h1, yx_0 h1, yx_4 h1, yx_5 h1, yx_6 h1, yx_7 h1, yx_8 h1, yx_9 h1, yx_10 h1, yx_k1 h1, yx_l1 h1, yx_b h1, yx_bk h1, yx_bs h1, yx_sk h1, yx_sl h1, yx_s h1, yx_e h1, yx_k9 h1, yx_l9 h1, yx_k10 h1, yx_l10 h1, yr_k hr, i9]
    refine kk I5 S ⟨π, xQ_tx hg hx f9 (p5.1.trans hte9.1) (fun i i0 i1 => ?_), ?_⟩ (xEnd_I (fun q hq => f9.1 q (by omega) (by omega)))
    · rw [← hte9.1] at i1
      have := hte9.2 i i0 i1
      rw [← this]
      have q5 := congrFun p5.2 i
      rw [e57] at q5 ⊢
      exact q5
    · rw [f9.1 x (by omega) (by omega), gCh_tx hg]; exact h3
  · rw [if_neg c1] at kk
    simp (disch := first | omega | exact Nat.le_of_ble_eq_true rfl | (simp (disch := omega) only [yx_k h1, yx_0 h1, yx_4 h1, yx_5 h1, yx_6 h1, yx_7 h1, yx_8 h1, yx_9 h1, yx_10 h1, yx_k1 h1, yx_l1 h1, yx_b h1, yx_bk h1, yx_bs h1, yx_sk h1, yx_sl h1, yx_s h1, yx_e h1, yx_k9 h1, yx_l9 h1, yx_k10 h1, yx_l10 h1, yr_k hr, t1] <;> omega)) only [w_iconst, w_bipush, w_sipush, w_ldc_s, w_ldcw_s, w_ldc_i, w_ldcw_i, w_lconst, w_fconst, w_dconst, w_iload, w_iload_n, w_aload, w_aload_n, w_dload, w_istore, w_istore_n, w_astore_r, w_astore_s, w_astore_n_r, w_astore_n_s, w_dstore, w_iinc, w_iadd, w_isub, w_imul, w_iand, w_iushr, v_idiv, v_irem, w_ineg, w_i2l, w_i2c, w_i2f, w_i2d, v_f2d, w_lcmp, w_dcmp, v_fdiv, v_ddiv, w_dup_i, w_dup_r, w_dup2, w_dup_x2, w_pop_i, w_pop_r, w_goto, w_switch, w_ret_i, v_ret_z, v_ret_c, w_ret_a, w_ret_s, w_ret_f, w_ret_d, w_ret_v, v_iaload, v_baload, v_caload, v_laload, v_aaload, v_iastore, v_bastore, v_castore, v_lastore, v_aastore, v_alen, v_newa, v_anewa, w_new, w_throw, w_dead, v_getf_i, v_getf_z, v_getf_r, v_putf_i, v_putf_z, v_putf_r, w_call0, w_call1, w_callv1, w_calli1, w_callt1, w_call2, w_callv2, w_calli2, w_callt2, w_call3, w_callv3, w_calli3, w_call4, w_callv4, w_calli4, w_call5, w_callv5, w_calli5, w_call6, w_callv6, w_calli6, w_call7, w_callv7, w_calli7, w_call8, w_callv8, w_calli8, c_if0_eq_t, c_if0_eq_f, c_if2_eq_t, c_if2_eq_f, c_if0_ne_t, c_if0_ne_f, c_if2_ne_t, c_if2_ne_f, c_if0_lt_t, c_if0_lt_f, c_if2_lt_t, c_if2_lt_f, c_if0_ge_t, c_if0_ge_f, c_if2_ge_t, c_if2_ge_f, c_if0_gt_t, c_if0_gt_f, c_if2_gt_t, c_if2_gt_f, c_if0_le_t, c_if0_le_f, c_if2_le_t, c_if2_le_f, w_nil, uI_s, uA_r, uA_s, uD_d, mPut_0, mCl_own, mCv_go, mCl_min, mCl_cpy, mCv_obj, mAct_len, mAct_chrc, mAft_v, mAft_n, mAft_x, mGet_0, mSet_0, mGet_1, mSet_1, mGet_2, mSet_2, mGet_3, mSet_3, mGet_4, mSet_4, mGet_5, mSet_5, mGet_6, mSet_6, mGet_7, mSet_7, mGet_8, mSet_8, mGet_9, mSet_9, mGet_10, mSet_10, mGet_11, mSet_11, mGet_12, mSet_12, mGet_13, mSet_13, e_RS_append, a_RS_append_0, bk_RS_append_0, yx_k h1, yx_0 h1, yx_4 h1, yx_5 h1, yx_6 h1, yx_7 h1, yx_8 h1, yx_9 h1, yx_10 h1, yx_k1 h1, yx_l1 h1, yx_b h1, yx_bk h1, yx_bs h1, yx_sk h1, yx_sl h1, yx_s h1, yx_e h1, yx_k9 h1, yx_l9 h1, yx_k10 h1, yx_l10 h1, yr_k hr, hbi, t1, wr, c1]
    exact xThrow hg h hn (xF_r I x) kk
end ZA0
