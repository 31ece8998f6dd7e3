/-! Checked instructions, seventh lot: calls in the law's own methods, which catch, and calls of these. -/
def mCw : List Cond := [.classLink "RiverSeniorityLaw" 13 "java/lang/IllegalStateException", .classLink "RiverSeniorityLaw" 19 "java/lang/IllegalArgumentException", .classLink "RiverSeniorityLaw" 25 "java/lang/IndexOutOfBoundsException", .classLink "RiverSeniorityLaw" 90 "java/util/NoSuchElementException"]
theorem mRm_loc {D M mc ms mc' ms' : Nat} (h : M ≤ 22) : 8 + (M + 11) + (mRm D mc ms).locals ≤ (mRm (D + 1) mc' ms').locals := by
  unfold mRm
  dsimp only
  omega
theorem mCw_ok : mCw.all (fun w => goodWord w && decide (w ∈ lw_tbl)) = true := by decide +kernel
theorem mCw_in {e : Nat} (he : e < 4) : Jvm.Cond.classLink "RiverSeniorityLaw" (mCt e) (mEname e) ∈ mWl := by
  have key : ∀ (i : Nat) (w : Cond), mCw[i]? = some w → w ∈ mWl := fun i w h => by
    have h1 := List.all_eq_true.mp mCw_ok w (List.mem_of_getElem? h)
    rw [Bool.and_eq_true, decide_eq_true_eq] at h1
    exact List.mem_filter.mpr ⟨h1.2, h1.1⟩
  match e, he with
  | 0, _ => exact key 0 _ rfl
  | 1, _ => exact key 1 _ rfl
  | 2, _ => exact key 2 _ rfl
  | 3, _ => exact key 3 _ rfl
theorem mCt_0 (e : Nat) : mCt e ≠ 0 := by unfold mCt; split <;> decide
theorem mHs_4 : mHs.all (fun l => l.all (fun q => Nat.blt q.2.2.2 4)) = true := by decide +kernel
theorem mHF_split {pc e t : Nat} : ∀ (l : List (Nat × Nat × Nat × Nat)), l.all (fun q => Nat.blt q.2.2.2 4) = true → mHFind pc e l = some t → ∃ pre x suf, tableOf (l.map (fun h => (h.1, h.2.1, h.2.2.1, mCt h.2.2.2))) = pre ++ x :: suf ∧ (∀ z ∈ pre, covers z pc = false ∨ ∃ e2, e2 < 4 ∧ e2 ≠ e ∧ z.catchType = mCt e2) ∧ covers x pc = true ∧ x.catchType = mCt e ∧ x.handlerPc = t ∧ e < 4
  | [], _, h => by cases h
  | q :: l, h4, h => by
    rw [List.all_cons, Bool.and_eq_true] at h4
    obtain ⟨h4a, h4b⟩ := h4
    have h4a : q.2.2.2 < 4 := Nat.le_of_ble_eq_true h4a
    unfold mHFind at h
    cases hb : (Nat.ble q.1 pc && Nat.blt pc q.2.1 && Nat.beq q.2.2.2 e) with
    | true =>
      rw [hb, cond_true] at h
      rw [Bool.and_eq_true, Bool.and_eq_true] at hb
      have e1 : q.2.2.2 = e := Nat.eq_of_beq_eq_true hb.2
      refine ⟨[], ⟨q.1, q.2.1, q.2.2.1, mCt q.2.2.2⟩, tableOf (l.map (fun h => (h.1, h.2.1, h.2.2.1, mCt h.2.2.2))), rfl, (fun z hz => by cases hz), ?_, by show mCt q.2.2.2 = mCt e; rw [e1], Option.some.inj h, by rw [← e1]; exact h4a⟩
      have g1 : q.1 ≤ pc := Nat.le_of_ble_eq_true hb.1.1
      have g2 : pc < q.2.1 := Nat.le_of_ble_eq_true hb.1.2
      simp [covers, g1, g2]
    | false =>
      rw [hb, cond_false] at h
      obtain ⟨pre, x, suf, k1, k2, k3⟩ := mHF_split l h4b h
      refine ⟨⟨q.1, q.2.1, q.2.2.1, mCt q.2.2.2⟩ :: pre, x, suf, by rw [List.cons_append, ← k1]; rfl, fun z hz => ?_, k3⟩
      rcases List.mem_cons.mp hz with rfl | hz
      · by_cases h9 : q.2.2.2 = e
        · left
          rw [h9, show Nat.beq e e = true from Nat.beq_refl e, Bool.and_true] at hb
          cases g1 : Nat.ble q.1 pc with
          | false =>
            have g3 : ¬ q.1 ≤ pc := fun h8 => by rw [Nat.ble_eq_true_of_le h8] at g1; cases g1
            simp [covers, g3]
          | true =>
            rw [g1, Bool.true_and] at hb
            have g3 : ¬ pc < q.2.1 := fun h8 => by
              have h7 : Nat.blt pc q.2.1 = true := Nat.ble_eq_true_of_le h8
              rw [h7] at hb; cases hb
            simp [covers, g3]
        · exact Or.inr ⟨_, h4a, h9, rfl⟩
      · exact k2 z hz
section NHN
variable {ρ : mRho} {p : Program} {l : Launch} {e : Env} {R : Room} {s : State} {m : MethodId} {args : Array Value} {below : List Frame} {meth : Method} {c : Code} {Qe : State → Prop} {y : Nat} {H0 : Heap} {S0 Sf : mH} {If : mN} {D mcR msR : Nat} {r : mZ}
variable {pc : Nat} {mls : mM} {mst : List mV} {I : mN} {S : mH} {rest : mC → Prop} {a n nx : Nat} {b k : Int}
variable {I' : mN} {S' : mH}
theorem mGo_runH {own : String} {ar : Array Value} {H : Heap} {locs : List Loc} {cells slots mc' ms' : Nat} {ls : Array Slot} {stk rst : List Value}
    (k : vx_Run p l e R s m args below meth c H locs cells slots mc' ms' (F0 m pc ls stk) rst (mQc ρ r I' S' ar) (mXc ρ r I' S') (mFree ρ)) (hown : s.vm.findClass own = some m.cls)
    (hL : mLoc ρ y ls mls) (hSr : mStk ρ rst mst) (hO : mOld ρ H0 H locs) (hC : mCnt S0 S cells slots) (hz : S'.2.2.2.1 = S.2.2.2.1 + (mc' : Int)) (hs2 : S'.2.2.2.2 = S.2.2.2.2 + (ms' : Int)) (h0 : H0 = s.heap)
    (hn : ∀ v : Option mV, r = .inl v → mPt ρ p l e R s m args below meth c Qe y H0 S0 Sf (pc + 3) (mls, v.toList ++ mst, I', S'))
    (hxn : ∀ e' : Nat, r = .inr e' → ∃ t, mPt ρ p l e R s m args below meth c Qe y H0 S0 Sf t (mls, [mR (-2)], I', S') ∧ ∃ pre x suf, c.exceptionTable.toList = pre ++ x :: suf ∧ (∀ z ∈ pre, covers z pc = false ∨ (z.catchType ≠ 0 ∧ ∃ nm : String, (Cond.classLink own z.catchType nm).before args s = true ∧ va_Nc (mEname e') nm s)) ∧ covers x pc = true ∧ x.catchType ≠ 0 ∧ (Cond.classLink own x.catchType (mEname e')).before args s = true ∧ x.handlerPc = t) :
    W p l e R s m args below meth c H locs cells slots Qe (F0 m pc ls stk) := by
  intro T hT X
  have hCz : S.2.2.2.1 = S0.2.2.2.1 + (cells : Int) := hC.1
  have hCs : S.2.2.2.2 = S0.2.2.2.2 + (slots : Int) := hC.2
  have key : ∀ (t T' : State) (L : List Loc) (st₀ : State), st₀.heap = H → T'.heap = t.heap → T'.vm = t.vm → s.WarmedH T'.vm → mHeap ρ t I' S' t.heap → st₀.heap.size ≤ t.heap.size → (∀ q : Nat, q < ρ.2.2.1 → t.heap[q]? = st₀.heap[q]?) → (∀ q ∈ L, mFree ρ q.base) → mHeap ρ s I' S' T'.heap ∧ mOld ρ H0 T'.heap (locs ++ L) ∧ mCnt S0 S' (cells + mc') (slots + ms') := by
    intro t T' L st₀ g0 e1 e2 hw hH' hsz hlow hf
    have hal : s.vm.Alike t.vm := by rw [← e2]; exact hw.alike
    refine ⟨by rw [e1]; exact mHeap_moved hal.symm hH', ⟨hO.1, ?_, fun q hq => ?_, fun z hz => ?_⟩, ?_, ?_⟩
    · rw [e1]; exact Nat.le_trans hO.2.1 (by rw [← g0]; exact hsz)
    · rw [e1, hlow q hq, g0]; exact hO.2.2.1 q hq
    · rcases List.mem_append.mp hz with h | h
      · exact hO.2.2.2 z h
      · exact hf z h
    · rw [hz, hCz]; omega
    · rw [hs2, hCs]; omega
  rcases k T hT X with ⟨v, st₀, t, T', L, g0, X', hf, e1, e2, ⟨v', hv', hres, hH', hsz, hlow⟩, st⟩ | ⟨q, st₀, t, T', L, E, ce, g0, X', hf, e1, e2, ⟨⟨e', hr, hE⟩, hH', hsz, hlow⟩, hce, hcv, hcl, st⟩
  · cases hv'
    obtain ⟨hH2, hO2, hC2⟩ := key t T' L st₀ g0 e1 e2 X'.warmed hH' hsz hlow hf
    rcases r with w | e'
    · have hS2 : mStk ρ (v.toList ++ rst) (w.toList ++ mst) := by
        rcases w with _ | w
        · have hres : v = none := hres
          rw [hres]; exact hSr
        · obtain ⟨x, hx, hv⟩ := hres
          rw [hx]; exact ⟨hv, hSr⟩
      obtain ⟨t2, a1, b1⟩ := (hn w rfl).2 T'.heap (locs ++ L) (cells + mc') (slots + ms') ls (v.toList ++ rst) hL hS2 hH2 hO2 hC2 T' rfl X'
      exact ⟨t2, st t2 a1, b1⟩
    · exact hres.elim
  · obtain ⟨hH2, hO2, hC2⟩ := key t T' L st₀ g0 e1 e2 X'.warmed hH' hsz hlow hf
    subst hE
    obtain ⟨tg, hPt, pre, x, suf, w1, w2, w3, w4, w5, w6⟩ := hxn e' hr
    have hq2 : T'.heap[q]? = some ce := by rw [e1]; exact hce
    have hca : (Cond.castable (mEname e') (mEname e')).before args s = true := by
      simp [Cond.before, Cond.holds, Cond.value, hcl, va_asg]
    have k2 := vx_catch (p := p) (l := l) (e := e) (R := R) (s := s) (m := m) (args := args) (below := below) (meth := meth) (c := c) (H := T'.heap) (locs := locs ++ L) (cells := cells + mc') (slots := slots + ms') (ls := ls) (rest := rst) (Q := Qe) (pc := pc) (E := mEname e') (ce := ce) (q := q) hown pre x suf w1 w2 w3 w4 w5 hca hq2 hcv hcl
      (by rw [w6]; exact hPt.2 T'.heap (locs ++ L) (cells + mc') (slots + ms') ls [.ref q] hL ⟨Or.inr (Or.inr ⟨rfl, q, rfl⟩), trivial⟩ hH2 hO2 hC2)
    obtain ⟨t2, a1, b1⟩ := k2 T' rfl X'
    exact ⟨t2, st.trans a1, b1⟩
theorem mOw_law : (List.range 42).all (fun k => Nat.beq (mOw (k + 371)) 12) = true := by decide +kernel
theorem mOw_12 {y : Nat} (h1 : 371 ≤ y) (h2 : y < 413) : mCname (mOw y) = "RiverSeniorityLaw" := by
  have h := List.all_eq_true.mp mOw_law (y - 371) (List.mem_range.mpr (by omega))
  rw [show y - 371 + 371 = y by omega] at h
  rw [show mOw y = 12 from Nat.eq_of_beq_eq_true h]
  rfl
theorem mAft_goH {st : List mV} {r1 : mZ} {I1 : mN} {S1 : mH} (hy : 371 ≤ y) (hy2 : y < 413) (C : mCx ρ p l e R s m args below meth c Qe y H0 S0 Sf D mcR msR r If) (hr : ∀ c', rest c' → (mPt ρ p l e R s m args below meth c Qe y H0 S0 Sf) nx c') (hq : mAft y pc mls st (mPt ρ p l e R s m args below meth c Qe y H0 S0 Sf) (mOne r If Sf) rest r1 I1 S1) :
    mLe S1 Sf ∧ (∀ v : Option mV, r1 = .inl v → (mPt ρ p l e R s m args below meth c Qe y H0 S0 Sf) nx (mls, v.toList ++ st, I1, S1)) ∧ ∀ e' : Nat, r1 = .inr e' → ∃ t, (mPt ρ p l e R s m args below meth c Qe y H0 S0 Sf) t (mls, [mR (-2)], I1, S1) ∧ ∃ pre x suf, c.exceptionTable.toList = pre ++ x :: suf ∧ (∀ z ∈ pre, covers z pc = false ∨ (z.catchType ≠ 0 ∧ ∃ nm : String, (Cond.classLink (mCname (mOw y)) z.catchType nm).before args s = true ∧ va_Nc (mEname e') nm s)) ∧ covers x pc = true ∧ x.catchType ≠ 0 ∧ (Cond.classLink (mCname (mOw y)) x.catchType (mEname e')).before args s = true ∧ x.handlerPc = t := by
  rcases r1 with v | e'
  · have h1 : (mPt ρ p l e R s m args below meth c Qe y H0 S0 Sf) nx (mls, v.toList ++ st, I1, S1) := by
      rcases v with _ | v
      · exact hr _ hq
      · exact hr _ hq
    exact ⟨h1.1, fun w hw => (by cases hw; exact h1), fun e' he => (by cases he)⟩
  · unfold mAft at hq
    dsimp only at hq
    cases hh : mHnd y pc e' with
    | none =>
      rw [hh] at hq
      obtain ⟨h1, -, -⟩ := (hq : (Sum.inr e' : mZ) = r ∧ I1 = If ∧ S1 = Sf)
      obtain ⟨v, hv⟩ := C.2.2.1.2.2.2.2.2.1 hy
      rw [hv] at h1; cases h1
    | some t =>
      rw [hh] at hq
      have hq : (mPt ρ p l e R s m args below meth c Qe y H0 S0 Sf) t (mls, [mR (-2)], I1, S1) := hq
      refine ⟨hq.1, fun w hw => (by cases hw), fun e2 he => ?_⟩
      cases he
      unfold mHnd at hh
      rw [if_neg (by omega)] at hh
      have h4 : (mHs.getD (y - 371) []).all (fun q => Nat.blt q.2.2.2 4) = true := by
        rw [List.getD_eq_getElem?_getD]
        cases hg : mHs[y - 371]? with
        | none => rfl
        | some l0 => exact List.all_eq_true.mp mHs_4 l0 (List.mem_of_getElem? hg)
      obtain ⟨pre, x, suf, w1, w2, w3, w4, w5, w6⟩ := mHF_split _ h4 hh
      have hlk : ∀ e9, e9 < 4 → (Cond.classLink (mCname (mOw y)) (mCt e9) (mEname e9)).before args s = true := fun e9 h9 => by
        rw [mOw_12 hy hy2]
        exact C.2.1.1 _ (mCw_in h9)
      refine ⟨t, hq, pre, x, suf, (C.2.2.1.2.2.2.2.2.2.1 hy hy2).trans w1, fun z hz => ?_, w3, by rw [w4]; exact mCt_0 _, by rw [w4]; exact hlk _ w6, w5⟩
      rcases w2 z hz with w2 | ⟨e3, g1, g2, g3⟩
      · exact Or.inl w2
      · exact Or.inr ⟨by rw [g3]; exact mCt_0 _, mEname e3, by rw [g3]; exact hlk _ g1, C.2.1.2.2.2.2.2.2.2.1.2.2 _ _ w6 g1 (fun h9 => g2 h9.symm)⟩
theorem ar_callh {v : Nat} (C : mCx ρ p l e R s m args below meth c Qe y H0 S0 Sf D mcR msR r If) (hk : (mNx y (pc, .invokevirtual v, a, b, k, n) 3 nx && (Nat.ble 371 y && Nat.blt y 413 && Nat.blt a 371 && !mSta a && decide (mNa a = n) && decide (mOw a < 12 ∧ k = (mOw a : Int) + 1) && mFm mLM (mOw y) v a && mF1 mWI a && mF1 mWT a && mF1 mWD (mOw a))) = true) (hr : ∀ c', rest c' → (mPt ρ p l e R s m args below meth c Qe y H0 S0 Sf) nx c') (h : mAct (mRun D) y pc (mPt ρ p l e R s m args below meth c Qe y H0 S0 Sf) (mOne r If Sf) rest (mDo (pc, .invokevirtual v, a, b, k, n) (mls, mst, I, S))) : (mPt ρ p l e R s m args below meth c Qe y H0 S0 Sf) pc (mls, mst, I, S) := by
  rw [Bool.and_eq_true] at hk
  obtain ⟨hk, hv⟩ := hk
  obtain ⟨hd, rfl⟩ := mNx_ok hk
  simp only [Bool.and_eq_true, decide_eq_true_eq] at hv
  obtain ⟨⟨⟨⟨⟨⟨⟨⟨⟨hy, hy2⟩, ha⟩, hst⟩, hna⟩, ⟨how, hk9⟩⟩, hlk⟩, hwi⟩, hwt⟩, hwd⟩ := hv
  have hy : 371 ≤ y := Nat.le_of_ble_eq_true hy
  have hy2 : y < 413 := Nat.le_of_ble_eq_true hy2
  have ha : a < 371 := Nat.le_of_ble_eq_true ha
  have hst : mSta a = false := by
    cases hz : mSta a with
    | false => rfl
    | true => rw [hz] at hst; cases hst
  obtain ⟨q, hq9⟩ : ∃ q, mClz[mOw a]? = some q := ⟨_, List.getElem?_eq_getElem (by show mOw a < 12; omega)⟩
  obtain ⟨x, as', st, hp, h⟩ := iv_callV (n := n) (y' := a) (k := k) (by omega) h
  obtain ⟨r1, I1, S1, hq, hle, hrun⟩ := mRun_out h.2
  obtain ⟨g1, g2, g3⟩ := mAft_goH hy hy2 C hr hq
  refine ⟨mLe_t hle g1, fun H locs cells slots ls stk hL hS hH hO hC => ?_⟩
  dsimp only at hL hS hH hC
  obtain ⟨va, vr, e1, e2, hv, hvr⟩ := mStk_pop hp hS
  have hlsz : ls.size = mMaxL y := by obtain ⟨-, lv, hl, -⟩ := hL; exact hl.1
  obtain ⟨mc', hmc'⟩ := Int.eq_ofNat_of_zero_le (show 0 ≤ S1.2.2.2.1 - S.2.2.2.1 by have := hle.1; omega)
  obtain ⟨ms', hms'⟩ := Int.eq_ofNat_of_zero_le (show 0 ≤ S1.2.2.2.2 - S.2.2.2.2 by have := hle.2; omega)
  have hz : S1.2.2.2.1 = S.2.2.2.1 + (mc' : Int) := by omega
  have hs2 : S1.2.2.2.2 = S.2.2.2.2 + (ms' : Int) := by omega
  have hC1 : S.2.2.2.1 = S0.2.2.2.1 + (cells : Int) := hC.1
  have hC2 : S.2.2.2.2 = S0.2.2.2.2 + (slots : Int) := hC.2
  have hR1 := C.2.2.2.1.2.2.1
  have hR2 := C.2.2.2.1.2.2.2
  have hk1 : S.2.1 x = (mOw a : Int) + 1 := by rw [h.1.1]; exact hk9
  obtain ⟨⟨⟨a0, -⟩, -⟩, V, hOB, -⟩ := mHeap_obj hH hq9 hk1
  obtain ⟨v0, As, rfl, hv0, hvs⟩ := mStk_c hv
  have hv1 : v0 = .ref x.toNat := mRef_ge hv0 a0
  subst hv1
  have e3 : stk = As.reverse ++ .ref x.toNat :: vr := by rw [e1, List.reverse_cons, List.append_assoc]; rfl
  have e4 : As.length = n - 1 := by rw [List.length_cons] at e2; omega
  have hTb := C.2.1.2.1
  have hWd := C.2.1.2.2
  have h0 := C.2.2.1.1
  refine mGo_runH (r := r1) (ar := (Value.ref x.toNat :: As).toArray) (rst := vr) (mc' := mc') (ms' := ms') ?_ C.1.2.2.2 hL hvr hO hC hz hs2 h0 g2 g3
  have hfc : s.vm.findClass (mNm a).cls = some (ρ.1 (mOw a)) := by
    rw [(mMet ha).2.1, ← mClz_name _ _ hq9]
    exact (hTb.1 _ _ hq9).2.1
  obtain ⟨cell, c1, c2, c3⟩ := t_OB_cell hOB
  exact vx_runV (S := ⟨C.1.1, C.1.2.1, C.1.2.2.1, C.1.2.2.2, C.2.1.1⟩) (hM := C.2.2.2.1.1 a (mR x :: as') I S r1 I1 S1 mc' ms' ha hrun hz hs2) (C := (mNm a).cls) (b := x.toNat) (As := As) (n := n - 1) ⟨mCallR (H := H) (cells := cells) (slots := slots) (r := r1) (mcR := mcR) (msR := msR) C.2.2.2.1.2.1 C.2.1.1 ha (by rw [(mMet ha).2.1]; exact C.2.1.1 _ (mF1_d hwd)) (C.2.1.1 _ (mFm_m hlk)) (by rw [hst, hna]; rfl), C.2.1.1 _ (mF1_i hwi), C.2.1.1 _ (mF1_t hwt)⟩ ⟨(mPre hTb hWd h0 hO hH hv).1, ⟨cell, c1, c2, by rw [c3]; exact hfc⟩, (mPre hTb hWd h0 hO hH hv).2⟩ rfl e4 hlsz e3
    (by rw [mCs_ok hvr]; show 2 * 0 + mCs st ≤ 8; have := h.1.2; omega) hd (by rw [C.2.2.2.1.2.1]; exact ⟨by show cells + mc' ≤ mcR; have := g1.1; omega, by show slots + ms' ≤ msR; have := g1.2; omega⟩)
def mMokH (y : Nat) : Bool := decide ((mNm y).cls ≠ "java/lang/invoke/MethodHandle") && decide ((mNm y).cls ≠ "java/lang/invoke/VarHandle") && decide ((parseMethodDescriptor (mNm y).desc).map (fun d => d.parameters.length) = some (mNa y)) && decide ((mNm y).cls = mCname (mOw y)) && plainName (mNm y).cls && Nat.ble (mMaxL y) 22
theorem mMokH_all : (List.range 42).all (fun k => mMokH (k + 371)) = true := by decide +kernel
theorem mWH_all : (List.range 42).all (fun k => goodWord (mWsH1 (k + 371)) && decide (mWsH1 (k + 371) ∈ lw_tbl)) = true := by decide +kernel
theorem mWH_in {y : Nat} (h1 : 371 ≤ y) (h2 : y < 413) : mWsH1 y ∈ mWl := by
  have h := List.all_eq_true.mp mWH_all (y - 371) (List.mem_range.mpr (by omega))
  rw [show y - 371 + 371 = y by omega, Bool.and_eq_true, decide_eq_true_eq] at h
  exact List.mem_filter.mpr ⟨h.2, h.1⟩
theorem mMetH {y : Nat} (hy1 : 371 ≤ y) (hy2 : y < 413) : ((mNm y).cls ≠ "java/lang/invoke/MethodHandle" ∧ (mNm y).cls ≠ "java/lang/invoke/VarHandle" ∧ (parseMethodDescriptor (mNm y).desc).map (fun d => d.parameters.length) = some (mNa y)) ∧ (mNm y).cls = mCname (mOw y) ∧ plainName (mNm y).cls = true ∧ mMaxL y ≤ 22 := by
  have h1 := List.all_eq_true.mp mMokH_all (y - 371) (List.mem_range.mpr (by omega))
  rw [show y - 371 + 371 = y by omega] at h1
  unfold mMokH at h1
  simp only [Bool.and_eq_true, decide_eq_true_eq] at h1
  obtain ⟨⟨⟨⟨⟨h1, h2⟩, h3⟩, h4⟩, h5⟩, h6⟩ := h1
  exact ⟨⟨h1, h2, h3⟩, h4, h5, Nat.le_of_ble_eq_true h6⟩
theorem ar_callw {v : Nat} (C : mCx ρ p l e R s m args below meth c Qe y H0 S0 Sf D mcR msR r If) (hk : (mNx y (pc, .invokestatic v, a, b, k, n) 3 nx && (Nat.beq y 413 && Nat.ble 371 a && Nat.blt a 413 && decide (mNa a = n) && mFm mLM (mOw y) v a && mF1 mWS a && mF1 mWD (mOw a))) = true) (hr : ∀ c', rest c' → (mPt ρ p l e R s m args below meth c Qe y H0 S0 Sf) nx c') (h : mAct (mRun D) y pc (mPt ρ p l e R s m args below meth c Qe y H0 S0 Sf) (mOne r If Sf) rest (mDo (pc, .invokestatic v, a, b, k, n) (mls, mst, I, S))) : (mPt ρ p l e R s m args below meth c Qe y H0 S0 Sf) pc (mls, mst, I, S) := by
  rw [Bool.and_eq_true] at hk
  obtain ⟨hk, hv⟩ := hk
  obtain ⟨hd, rfl⟩ := mNx_ok hk
  simp only [Bool.and_eq_true, decide_eq_true_eq] at hv
  obtain ⟨⟨⟨⟨⟨⟨hy, ha1⟩, ha2⟩, hna⟩, hlk⟩, hws⟩, hwd⟩ := hv
  have hy : y = 413 := Nat.eq_of_beq_eq_true hy
  have ha1 : 371 ≤ a := Nat.le_of_ble_eq_true ha1
  have ha2 : a < 413 := Nat.le_of_ble_eq_true ha2
  obtain ⟨as, st, hp, h⟩ := iv_callS (n := n) (y' := a) (by omega) h
  obtain ⟨r1, I1, S1, hq, hle, hrun⟩ := mRun_out h.2
  obtain ⟨g1, g2, g3, g4⟩ := mAft_go (Or.inr hy) C hr hq
  obtain ⟨hr1, hend, hGH⟩ := C.2.2.1.2.2.2.2.2.2.2 hy
  obtain ⟨v1, rfl⟩ : ∃ v1, r1 = .inl v1 := by
    rcases r1 with v1 | e1
    · exact ⟨v1, rfl⟩
    · subst hy
      have hq : (Sum.inr e1 : mZ) = r ∧ I1 = If ∧ S1 = Sf := hq
      rw [hr1] at hq
      cases hq.1
  refine ⟨mLe_t hle g1, fun H locs cells slots ls stk hL hS hH hO hC => ?_⟩
  dsimp only at hL hS hH hC
  obtain ⟨va, vr, e1, e2, hv, hvr⟩ := mStk_pop hp hS
  have hlsz : ls.size = mMaxL y := by obtain ⟨-, lv, hl, -⟩ := hL; exact hl.1
  obtain ⟨mc', hmc'⟩ := Int.eq_ofNat_of_zero_le (show 0 ≤ S1.2.2.2.1 - S.2.2.2.1 by have := hle.1; omega)
  obtain ⟨ms', hms'⟩ := Int.eq_ofNat_of_zero_le (show 0 ≤ S1.2.2.2.2 - S.2.2.2.2 by have := hle.2; omega)
  have hz : S1.2.2.2.1 = S.2.2.2.1 + (mc' : Int) := by omega
  have hs2 : S1.2.2.2.2 = S.2.2.2.2 + (ms' : Int) := by omega
  have hC1 : S.2.2.2.1 = S0.2.2.2.1 + (cells : Int) := hC.1
  have hC2 : S.2.2.2.2 = S0.2.2.2.2 + (slots : Int) := hC.2
  have hR1 := C.2.2.2.1.2.2.1
  have hR2 := C.2.2.2.1.2.2.2
  have hTb := C.2.1.2.1
  have hWd := C.2.1.2.2
  have h0 := C.2.2.1.1
  refine mGo_run (r := .inl v1) (ar := va.toArray) (rest := vr) (mc' := mc') (ms' := ms') ?_ hL hvr hO hC hz hs2 h0 g4 C.2.2.1.2.2.1 g2 g3
  obtain ⟨m1, m2, m3, m4⟩ := mMetH ha1 ha2
  rw [hna] at m1
  refine vx_runSX (hh := mHT a) (S := ⟨C.1.1, C.1.2.1, C.1.2.2.1, C.1.2.2.2, C.2.1.1⟩) (hM := hGH a as I S v1 I1 S1 mc' ms' ha1 ha2 hrun hz hs2) (n := n) (vx_cwSW (Ts := mWl) n C.2.1.1 (fun w hw => ?_) rfl rfl rfl m1 ⟨?_, ?_⟩) (mPre hTb hWd h0 hO hH hv) rfl e2 hlsz e1
    (by rw [mCs_ok hvr]; show 2 * 0 + mCs st ≤ 8; have := h.1; omega) hd (by rw [C.2.2.2.1.2.1]; exact ⟨by show cells + mc' ≤ mcR; have := g1.1; omega, by show slots + ms' ≤ msR; have := g1.2; omega⟩)
  · unfold va_wsS at hw
    have hin : ∀ w ∈ mWl, w ∈ mWl ∧ ((w.onTables && w.keeps) = true ∨ ∃ ty, w = .arrayClass ty) := fun w h9 => ⟨h9, good_of_word (mWl_in h9).2⟩
    rcases List.mem_append.mp hw with hw | hw
    · rcases List.mem_cons.mp hw with rfl | hw
      · exact hin _ (mFm_m hlk)
      · rcases List.mem_cons.mp hw with rfl | hw
        · exact hin _ (mF1_s hws)
        · rcases List.mem_cons.mp hw with rfl | hw
          · rw [m2]; exact hin _ (mF1_d hwd)
          · cases hw
    · rcases List.mem_cons.mp hw with rfl | hw
      · exact hin _ (mWH_in ha1 ha2)
      · exact hin _ hw
  · rw [C.2.2.2.1.2.1]; show D + 6 + 1 ≤ D + 1 + 6; omega
  · rw [C.2.2.2.1.2.1]; exact mRm_loc m4
end NHN
