/-! Checked instructions, sixth lot: the length of a text, and its places. -/
theorem mLname_len : mLname 1001 = jn_len := by unfold mLname; rw [mLn_eq]; rfl
theorem mLname_chr : mLname 1002 = jn_chr := by unfold mLname; rw [mLn_eq]; rfl
theorem va_ldcWS {p : Program} {l : Launch} {e : Env} {R : Room} {s : State} {m : MethodId} {args : Array Value} {below : List Frame} {meth : Method} {c : Code} {H : Heap} {locs : List Loc} {cells slots : Nat} {Q : State → Prop} {cc : ByteArray} {pc : Nat} {ls : Array Slot} {rest : List Value} (hexec : p.tables.exec = Jvm.exec) (hb : c.code = cc) {own tx : String} {index q : Nat} (hown : s.vm.findClass own = some m.cls) (hZ : vk_R own index tx q s) (hdg : decode cc pc = .ok (.ldc_w index, 3))
    (k : W p l e R s m args below meth c H locs cells slots Q (F0 m (pc + 3) ls (.ref q :: rest))) : W p l e R s m args below meth c H locs cells slots Q (F0 m pc ls rest) := by
  intro T hT X
  obtain ⟨t, a1, b1⟩ := k T hT X
  exact ⟨t, X.ldcStringW hexec (own := own) (text := tx) (index := index) (a := q) hown hZ.1 hZ.2 (g := F0 m pc ls rest) rfl (by rw [hb]; exact hdg) t a1, b1⟩
theorem mOld_S {ρ : mRho} {H0 H : Heap} {locs : List Loc} (h : mOld ρ H0 H locs) : va_S (mFree ρ) H0 H locs := ⟨h.2.1, fun q _ hq => h.2.2.1 q (Nat.not_le.mp hq), h.2.2.2⟩
section NAX
variable {ρ : mRho} {p : Program} {l : Launch} {e : Env} {R : Room} {s : State} {m : MethodId} {args : Array Value} {below : List Frame} {meth : Method} {c : Code} {Qe : State → Prop} {y : Nat} {H0 : Heap} {S0 Sf : mH} {If : mN} {D mcR msR : Nat} {r : mZ}
variable {pc : Nat} {mls : mM} {mst : List mV} {I : mN} {S : mH} {rest : mC → Prop} {a n nx : Nat} {b k : Int}
theorem ar_len {v : Nat} (C : mCx ρ p l e R s m args below meth c Qe y H0 S0 Sf D mcR msR r If) (hk : (mNx y (pc, .invokevirtual v, a, b, k, n) 3 nx && (decide (n = 1 ∧ a = 1001) && mFm mLX (mOw y) v 1001)) = true) (hr : ∀ c', rest c' → (mPt ρ p l e R s m args below meth c Qe y H0 S0 Sf) nx c') (h : mAct (mRun D) y pc (mPt ρ p l e R s m args below meth c Qe y H0 S0 Sf) (mOne r If Sf) rest (mDo (pc, .invokevirtual v, a, b, k, n) (mls, mst, I, S))) : (mPt ρ p l e R s m args below meth c Qe y H0 S0 Sf) pc (mls, mst, I, S) := by
  rw [Bool.and_eq_true] at hk
  obtain ⟨hk, hv⟩ := hk
  obtain ⟨hd, rfl⟩ := mNx_ok hk
  rw [Bool.and_eq_true, decide_eq_true_eq] at hv
  obtain ⟨⟨rfl, rfl⟩, hlk⟩ := hv
  have hlink := C.2.1.1 _ (mFm_x hlk)
  rw [mLname_len] at hlink
  rcases mst with _ | ⟨w1, t⟩
  · exact (show False ∧ _ from h).1.elim
  · rcases w1 with w1 | w1 | w1 | w1 | w1 | w1
    rotate_left 2
    · have h : mCs t ≤ 8 ∧ rest (mls, mI (mLen w1) :: t, I, S) := h
      have hn := hr _ h.2
      refine ⟨hn.1, fun H locs cells slots ls stk hL hS hH hO hC => ?_⟩
      have hg := hn.1
      dsimp only at hg hS hC
      have hC1 : S.2.2.2.1 = S0.2.2.2.1 + (cells : Int) := hC.1
      have hC2 : S.2.2.2.2 = S0.2.2.2.2 + (slots : Int) := hC.2
      have hR1 := C.2.2.2.1.2.2.1
      have hR2 := C.2.2.2.1.2.2.2
      have hlsz : ls.size = mMaxL y := by obtain ⟨-, lv, hl, -⟩ := hL; exact hl.1
      have h0 := C.2.2.1.1
      have hO' := hO
      rw [h0] at hO'
      obtain ⟨-, -, -, -, -, -, adV, hK⟩ := C.2.1.2.2
      obtain ⟨v1, stk1, rfl, ⟨hk7, rfl⟩, hB⟩ := mStk_c hS
      refine jGo (vx_runV (S := ⟨C.1.1, C.1.2.1, C.1.2.2.1, C.1.2.2.2, C.2.1.1⟩) (hM := jc_len (ρ := ρ) l hk7) (C := "java/lang/String") (b := ρ.2.2.2.2.2.2 w1) (As := []) (n := 0) ⟨jCb (f := 1) (n := 20) C.2.1.1 1 27 rfl rfl hlink (by decide) ⟨by rw [C.2.2.2.1.2.1]; show 2 ≤ D + 1 + 6; omega, by rw [C.2.2.2.1.2.1]; show 8 + (1 + 11) + 20 ≤ 41 * (D + 1) + 278; omega⟩, C.2.1.1 _ (jIn 18 rfl), C.2.1.1 _ (jIn 22 rfl)⟩ ⟨jP_blind _ _, jRecv hK hk7 (mOld_S hO'), (jPre C.2.1.2.2 hO'.2.2.1).2⟩ rfl rfl hlsz rfl (by rw [mCs_ok hB]; show 2 * 0 + mCs t ≤ 8; have := h.1; omega) hd ⟨by rw [C.2.2.2.1.2.1]; show cells + 0 ≤ mcR; omega, by rw [C.2.2.2.1.2.1]; show slots + 0 ≤ msR; omega⟩) ?_
      exact hn.2 H locs cells slots ls (.int (mO (mLen w1)) :: stk1) hL ⟨⟨mIn_len hk7, rfl⟩, hB⟩ hH hO hC
    all_goals exact (show False ∧ _ from h).1.elim
theorem ar_chr {v : Nat} (C : mCx ρ p l e R s m args below meth c Qe y H0 S0 Sf D mcR msR r If) (hk : (mNx y (pc, .invokevirtual v, a, b, k, n) 3 nx && (decide (n = 2 ∧ a = 1002) && mFm mLX (mOw y) v 1002)) = true) (hr : ∀ c', rest c' → (mPt ρ p l e R s m args below meth c Qe y H0 S0 Sf) nx c') (h : mAct (mRun D) y pc (mPt ρ p l e R s m args below meth c Qe y H0 S0 Sf) (mOne r If Sf) rest (mDo (pc, .invokevirtual v, a, b, k, n) (mls, mst, I, S))) : (mPt ρ p l e R s m args below meth c Qe y H0 S0 Sf) pc (mls, mst, I, S) := by
  rw [Bool.and_eq_true] at hk
  obtain ⟨hk, hv⟩ := hk
  obtain ⟨hd, rfl⟩ := mNx_ok hk
  rw [Bool.and_eq_true, decide_eq_true_eq] at hv
  obtain ⟨⟨rfl, rfl⟩, hlk⟩ := hv
  have hlink := C.2.1.1 _ (mFm_x hlk)
  rw [mLname_chr] at hlink
  rcases mst with _ | ⟨w2, _ | ⟨w1, t⟩⟩
  · exact (show False ∧ _ from h).1.elim
  · exact (show False ∧ _ from h).1.elim
  · rcases w1 with w1 | w1 | w1 | w1 | w1 | w1
    rotate_left 2
    · rcases w2 with w2 | w2 | w2 | w2 | w2 | w2
      · have h : (mCs t ≤ 8 ∧ 0 ≤ w2 ∧ w2 < mLen w1) ∧ rest (mls, mI (mTxt w1 w2) :: t, I, S) := h
        have hn := hr _ h.2
        refine ⟨hn.1, fun H locs cells slots ls stk hL hS hH hO hC => ?_⟩
        have hg := hn.1
        dsimp only at hg hS hC
        have hC1 : S.2.2.2.1 = S0.2.2.2.1 + (cells : Int) := hC.1
        have hC2 : S.2.2.2.2 = S0.2.2.2.2 + (slots : Int) := hC.2
        have hR1 := C.2.2.2.1.2.2.1
        have hR2 := C.2.2.2.1.2.2.2
        have hlsz : ls.size = mMaxL y := by obtain ⟨-, lv, hl, -⟩ := hL; exact hl.1
        have h0 := C.2.2.1.1
        have hO' := hO
        rw [h0] at hO'
        obtain ⟨-, -, -, -, -, -, adV, hK⟩ := C.2.1.2.2
        obtain ⟨v2, stk2, rfl, ⟨hi2, rfl⟩, hA⟩ := mStk_c hS
        obtain ⟨v1, stk1, rfl, ⟨hk7, rfl⟩, hB⟩ := mStk_c hA
        have hj : w2.toNat < (mTx w1).length := by have := h.1.2.2; unfold mLen at this; have := h.1.2.1; omega
        refine jGo (vx_runV (S := ⟨C.1.1, C.1.2.1, C.1.2.2.1, C.1.2.2.2, C.2.1.1⟩) (hM := jc_chr (ρ := ρ) l hk7 h.1.2.1 h.1.2.2) (C := "java/lang/String") (b := ρ.2.2.2.2.2.2 w1) (As := [.int (mO w2)]) (n := 1) ⟨jCb (f := 3) (n := 64) C.2.1.1 3 27 rfl rfl hlink (by decide) ⟨by rw [C.2.2.2.1.2.1]; show 4 ≤ D + 1 + 6; omega, by rw [C.2.2.2.1.2.1]; show 8 + (2 + 11) + 64 ≤ 41 * (D + 1) + 278; omega⟩, C.2.1.1 _ (jIn 19 rfl), C.2.1.1 _ (jIn 23 rfl)⟩ ⟨jP_blind _ _, jRecv hK hk7 (mOld_S hO'), (jPre C.2.1.2.2 hO'.2.2.1).2⟩ rfl rfl hlsz rfl (by rw [mCs_ok hB]; show 2 * 0 + mCs t ≤ 8; have := h.1.1; omega) hd ⟨by rw [C.2.2.2.1.2.1]; show cells + 0 ≤ mcR; omega, by rw [C.2.2.2.1.2.1]; show slots + 0 ≤ msR; omega⟩) ?_
        have hb7 := ((jTx hk7).2.2 _ hj).2
        exact hn.2 H locs cells slots ls (.int (mO (mTxt w1 w2)) :: stk1) hL ⟨⟨by show mIn ((mTx w1).getD w2.toNat 0); unfold mIn; omega, rfl⟩, hB⟩ hH hO hC
      all_goals exact (show False ∧ _ from h).1.elim
    all_goals exact (show False ∧ _ from h).1.elim
theorem ar_ldcws {v : Nat} (C : mCx ρ p l e R s m args below meth c Qe y H0 S0 Sf D mcR msR r If) (hk : (mNx y (pc, .ldc_w v, a, b, k, n) 3 nx && (decide (n = 0) && Nat.blt a 37 && mFm mLS (mOw y) v a)) = true) (hr : ∀ c', rest c' → (mPt ρ p l e R s m args below meth c Qe y H0 S0 Sf) nx c') (h : mAct (mRun D) y pc (mPt ρ p l e R s m args below meth c Qe y H0 S0 Sf) (mOne r If Sf) rest (mDo (pc, .ldc_w v, a, b, k, n) (mls, mst, I, S))) : (mPt ρ p l e R s m args below meth c Qe y H0 S0 Sf) pc (mls, mst, I, S) := by
  rw [Bool.and_eq_true] at hk
  obtain ⟨hk, hv⟩ := hk
  obtain ⟨hd, rfl⟩ := mNx_ok hk
  simp only [Bool.and_eq_true, decide_eq_true_eq] at hv
  obtain ⟨⟨hn0, ha⟩, hlk⟩ := hv
  subst hn0
  have ha : a < 37 := Nat.le_of_ble_eq_true ha
  have h : True ∧ rest (mls, mS a :: mst, I, S) := h
  have hn := hr _ h.2
  refine ⟨hn.1, fun H locs cells slots ls stk hL hS hH hO hC => ?_⟩
  refine va_ldcWS C.1.1 C.1.2.1 C.1.2.2.2 (mFm_s C.2.1.2.2 hlk) hd ?_
  exact hn.2 H locs cells slots ls _ hL ⟨⟨ha, rfl⟩, hS⟩ hH hO hC
theorem ar_dead {v : Nat} (C : mCx ρ p l e R s m args below meth c Qe y H0 S0 Sf D mcR msR r If) (hk : (decide (n = 2)) = true) (hr : ∀ c', rest c' → (mPt ρ p l e R s m args below meth c Qe y H0 S0 Sf) nx c') (h : mAct (mRun D) y pc (mPt ρ p l e R s m args below meth c Qe y H0 S0 Sf) (mOne r If Sf) rest (mDo (pc, .new v, a, b, k, n) (mls, mst, I, S))) : (mPt ρ p l e R s m args below meth c Qe y H0 S0 Sf) pc (mls, mst, I, S) := by
  have hk := of_decide_eq_true hk
  subst hk
  exact (show False ∧ _ from h).1.elim
end NAX
