/-! Checked instructions, third lot: calls of own methods. -/
theorem iv_callS {call : mK} {m pc : Nat} {X : Nat → mC → Prop} {Q : mQ} {rest : mC → Prop} {ls : mM} {st : List mV} {I : mN} {S : mH} {n y' : Nat} (hy : y' ≤ 1000) (h : mAct call m pc X Q rest (mCallS n y' (ls, st, I, S))) : ∃ as t, mPop n [] st = some (as, t) ∧ mCs t ≤ 8 ∧ call y' as I S (mAft m pc ls t X Q rest) := by
  unfold mCallS at h
  dsimp only at h
  cases hp : mPop n [] st with
  | none => rw [hp] at h; exact h.1.elim
  | some v =>
    obtain ⟨as, t⟩ := v
    rw [hp] at h
    dsimp only at h
    rw [mBlt hy, cond_false] at h
    exact ⟨as, t, rfl, h⟩
theorem iv_callV {call : mK} {m pc : Nat} {X : Nat → mC → Prop} {Q : mQ} {rest : mC → Prop} {ls : mM} {st : List mV} {I : mN} {S : mH} {n y' : Nat} {k : Int} (hy : y' ≤ 1000) (h : mAct call m pc X Q rest (mCallV n y' k (ls, st, I, S))) : ∃ x as t, mPop n [] st = some (mR x :: as, t) ∧ (S.2.1 x = k ∧ mCs t ≤ 8) ∧ call y' (mR x :: as) I S (mAft m pc ls t X Q rest) := by
  unfold mCallV at h
  dsimp only at h
  cases hp : mPop n [] st with
  | none => rw [hp] at h; exact h.1.elim
  | some v =>
    obtain ⟨as, t⟩ := v
    rw [hp] at h
    dsimp only at h
    rw [mBlt hy, cond_false] at h
    rcases as with _ | ⟨w, as⟩
    · exact (show False ∧ _ from h).1.elim
    · rcases w with x | x | x | x | x | x
      · exact (show False ∧ _ from h).1.elim
      · exact ⟨x, as, t, rfl, h⟩
      · exact (show False ∧ _ from h).1.elim
      · exact (show False ∧ _ from h).1.elim
      · exact (show False ∧ _ from h).1.elim
      · exact (show False ∧ _ from h).1.elim
section NAT
variable {ρ : mRho} {p : Program} {l : Launch} {e : Env} {R : Room} {s : State} {m : MethodId} {args : Array Value} {below : List Frame} {meth : Method} {c : Code} {Qe : State → Prop} {y : Nat} {H0 : Heap} {S0 Sf : mH} {If : mN} {D mcR msR : Nat} {r : mZ}
variable {pc : Nat} {mls : mM} {mst : List mV} {I : mN} {S : mH} {rest : mC → Prop} {a n nx : Nat} {b k : Int}
theorem mAft_go {st : List mV} {r1 : mZ} {I1 : mN} {S1 : mH} (hy : y < 371 ∨ y = 413) (C : mCx ρ p l e R s m args below meth c Qe y H0 S0 Sf D mcR msR r If) (hr : ∀ c', rest c' → (mPt ρ p l e R s m args below meth c Qe y H0 S0 Sf) nx c') (hq : mAft y pc mls st (mPt ρ p l e R s m args below meth c Qe y H0 S0 Sf) (mOne r If Sf) rest r1 I1 S1) :
    mLe S1 Sf ∧ (∀ v : Option mV, r1 = .inl v → (mPt ρ p l e R s m args below meth c Qe y H0 S0 Sf) nx (mls, v.toList ++ st, I1, S1)) ∧ (∀ e' : Nat, r1 = .inr e' → ∃ mc ms : Nat, Qe = mQe ρ s args below mc ms (.inr e') I1 S1 ∧ S1.2.2.2.1 = S0.2.2.2.1 + (mc : Int) ∧ S1.2.2.2.2 = S0.2.2.2.2 + (ms : Int)) ∧ ((∃ e' : Nat, r1 = .inr e') → ∀ x ∈ c.exceptionTable.toList, False) := by
  rcases r1 with v | e'
  · have h1 : (mPt ρ p l e R s m args below meth c Qe y H0 S0 Sf) nx (mls, v.toList ++ st, I1, S1) := by
      rcases v with _ | v
      · exact hr _ hq
      · exact hr _ hq
    exact ⟨h1.1, fun w hw => (by cases hw; exact h1), fun e' he => (by cases he), fun h9 => (by obtain ⟨e9, h9⟩ := h9; cases h9)⟩
  · have h1 : (Sum.inr e' : mZ) = r ∧ I1 = If ∧ S1 = Sf := by
      unfold mAft mHnd at hq
      dsimp only at hq
      rcases hy with hy | hy
      · rw [if_pos hy] at hq
        exact hq
      · subst hy
        exact hq
    rcases hy with hy | hy
    · have hQ := C.2.2.1.2.2.2.2.1 (by omega)
      obtain ⟨rfl, rfl, rfl⟩ := h1
      exact ⟨mLe_r _, fun w hw => (by cases hw), fun e2 he => (by cases he; exact ⟨mcR, msR, hQ, C.2.2.2.1.2.2.1, C.2.2.2.1.2.2.2⟩), fun _ => C.2.2.1.2.1 hy⟩
    · obtain ⟨v, hv⟩ := C.2.2.1.2.2.2.2.2.1 (by omega)
      obtain ⟨h1, -, -⟩ := h1
      rw [hv] at h1
      cases h1
theorem ar_calls {v : Nat} (C : mCx ρ p l e R s m args below meth c Qe y H0 S0 Sf D mcR msR r If) (hk : (mNx y (pc, .invokestatic v, a, b, k, n) 3 nx && ((Nat.blt y 371 || Nat.beq y 413) && Nat.blt a 371 && mSta a && decide (mNa a = n) && mFm mLM (mOw y) v a && mF1 mWS a && mF1 mWD (mOw a))) = true) (hr : ∀ c', rest c' → (mPt ρ p l e R s m args below meth c Qe y H0 S0 Sf) nx c') (h : mAct (mRun D) y pc (mPt ρ p l e R s m args below meth c Qe y H0 S0 Sf) (mOne r If Sf) rest (mDo (pc, .invokestatic v, a, b, k, n) (mls, mst, I, S))) : (mPt ρ p l e R s m args below meth c Qe y H0 S0 Sf) pc (mls, mst, I, S) := by
  rw [Bool.and_eq_true] at hk
  obtain ⟨hk, hv⟩ := hk
  obtain ⟨hd, rfl⟩ := mNx_ok hk
  simp only [Bool.and_eq_true, decide_eq_true_eq] at hv
  obtain ⟨⟨⟨⟨⟨⟨hy, ha⟩, hst⟩, hna⟩, hlk⟩, hws⟩, hwd⟩ := hv
  have hy : y < 371 ∨ y = 413 := by
    rw [Bool.or_eq_true] at hy
    rcases hy with hy | hy
    · exact Or.inl (Nat.le_of_ble_eq_true hy)
    · exact Or.inr (Nat.eq_of_beq_eq_true hy)
  have ha : a < 371 := Nat.le_of_ble_eq_true ha
  obtain ⟨as, st, hp, h⟩ := iv_callS (n := n) (y' := a) (by omega) h
  obtain ⟨r1, I1, S1, hq, hle, hrun⟩ := mRun_out h.2
  obtain ⟨g1, g2, g3, g4⟩ := mAft_go hy C hr hq
  exact st_callS C.2.2.2.1.1 C.2.2.2.1.2.1 C.2.2.2.1.2.2.1 C.2.2.2.1.2.2.2 C.1.1 C.1.2.1 C.1.2.2.1 C.1.2.2.2 C.2.1.1 C.2.1.2.1 C.2.1.2.2 C.2.2.1.1 g4 C.2.2.1.2.2.1 ha hst (by rw [(mMet ha).2.1]; exact C.2.1.1 _ (mF1_d hwd)) (C.2.1.1 _ (mFm_m hlk)) (C.2.1.1 _ (mF1_s hws)) hna hd hp h.1 hrun hle g1 g2 g3
theorem ar_callv {v : Nat} (C : mCx ρ p l e R s m args below meth c Qe y H0 S0 Sf D mcR msR r If) (hk : (mNx y (pc, .invokevirtual v, a, b, k, n) 3 nx && ((Nat.blt y 371 || Nat.beq y 413) && Nat.blt a 371 && !mSta a && decide (mNa a = n) && decide (mOw a < 12 ∧ k = (mOw a : Int) + 1) && mFm mLM (mOw y) v a && mF1 mWI a && mF1 mWT a && mF1 mWD (mOw a))) = true) (hr : ∀ c', rest c' → (mPt ρ p l e R s m args below meth c Qe y H0 S0 Sf) nx c') (h : mAct (mRun D) y pc (mPt ρ p l e R s m args below meth c Qe y H0 S0 Sf) (mOne r If Sf) rest (mDo (pc, .invokevirtual v, a, b, k, n) (mls, mst, I, S))) : (mPt ρ p l e R s m args below meth c Qe y H0 S0 Sf) pc (mls, mst, I, S) := by
  rw [Bool.and_eq_true] at hk
  obtain ⟨hk, hv⟩ := hk
  obtain ⟨hd, rfl⟩ := mNx_ok hk
  simp only [Bool.and_eq_true, decide_eq_true_eq] at hv
  obtain ⟨⟨⟨⟨⟨⟨⟨⟨hy, ha⟩, hst⟩, hna⟩, ⟨how, hk9⟩⟩, hlk⟩, hwi⟩, hwt⟩, hwd⟩ := hv
  have hy : y < 371 ∨ y = 413 := by
    rw [Bool.or_eq_true] at hy
    rcases hy with hy | hy
    · exact Or.inl (Nat.le_of_ble_eq_true hy)
    · exact Or.inr (Nat.eq_of_beq_eq_true hy)
  have ha : a < 371 := Nat.le_of_ble_eq_true ha
  have hst : mSta a = false := by
    cases hz : mSta a with
    | false => rfl
    | true => rw [hz] at hst; cases hst
  obtain ⟨q, hq9⟩ : ∃ q, mClz[mOw a]? = some q := ⟨_, List.getElem?_eq_getElem (by show mOw a < 12; omega)⟩
  obtain ⟨x, as', st, hp, h⟩ := iv_callV (n := n) (y' := a) (k := k) (by omega) h
  obtain ⟨r1, I1, S1, hq, hle, hrun⟩ := mRun_out h.2
  obtain ⟨g1, g2, g3, g4⟩ := mAft_go hy C hr hq
  exact st_callV C.2.2.2.1.1 C.2.2.2.1.2.1 C.2.2.2.1.2.2.1 C.2.2.2.1.2.2.2 C.1.1 C.1.2.1 C.1.2.2.1 C.1.2.2.2 C.2.1.1 C.2.1.2.1 C.2.1.2.2 C.2.2.1.1 g4 C.2.2.1.2.2.1 ha hst hq9 (by rw [(mMet ha).2.1]; exact C.2.1.1 _ (mF1_d hwd)) (C.2.1.1 _ (mFm_m hlk)) (C.2.1.1 _ (mF1_i hwi)) (C.2.1.1 _ (mF1_t hwt)) hna hd hp (by rw [h.1.1]; exact hk9) h.1.2 hrun hle g1 g2 g3
theorem ar_calli {v : Nat} (C : mCx ρ p l e R s m args below meth c Qe y H0 S0 Sf D mcR msR r If) (hk : (mNx y (pc, .invokespecial v, a, b, k, n) 3 nx && ((Nat.blt y 371 || Nat.beq y 413) && Nat.blt a 371 && !mSta a && decide (mNa a = n) && decide (mOw a < 12 ∧ k = (mOw a : Int) + 1) && (mFm mLM (mOw y) v a || mFm mLN (mOw y) v a) && mF1 mWI a && decide ((mNm a).name = "<init>" ∧ mRet a = none) && mF1 mWD (mOw a))) = true) (hr : ∀ c', rest c' → (mPt ρ p l e R s m args below meth c Qe y H0 S0 Sf) nx c') (h : mAct (mRun D) y pc (mPt ρ p l e R s m args below meth c Qe y H0 S0 Sf) (mOne r If Sf) rest (mDo (pc, .invokespecial v, a, b, k, n) (mls, mst, I, S))) : (mPt ρ p l e R s m args below meth c Qe y H0 S0 Sf) pc (mls, mst, I, S) := by
  rw [Bool.and_eq_true] at hk
  obtain ⟨hk, hv⟩ := hk
  obtain ⟨hd, rfl⟩ := mNx_ok hk
  simp only [Bool.and_eq_true, decide_eq_true_eq] at hv
  obtain ⟨⟨⟨⟨⟨⟨⟨⟨hy, ha⟩, hst⟩, hna⟩, ⟨how, hk9⟩⟩, hlk⟩, hwi⟩, ⟨hnm, hre⟩⟩, hwd⟩ := hv
  have hy : y < 371 ∨ y = 413 := by
    rw [Bool.or_eq_true] at hy
    rcases hy with hy | hy
    · exact Or.inl (Nat.le_of_ble_eq_true hy)
    · exact Or.inr (Nat.eq_of_beq_eq_true hy)
  have ha : a < 371 := Nat.le_of_ble_eq_true ha
  have hst : mSta a = false := by
    cases hz : mSta a with
    | false => rfl
    | true => rw [hz] at hst; cases hst
  obtain ⟨q, hq9⟩ : ∃ q, mClz[mOw a]? = some q := ⟨_, List.getElem?_eq_getElem (by show mOw a < 12; omega)⟩
  obtain ⟨x, as', st, hp, h⟩ := iv_callV (n := n) (y' := a) (k := k) (by omega) h
  obtain ⟨r1, I1, S1, hq, hle, hrun⟩ := mRun_out h.2
  obtain ⟨g1, g2, g3, g4⟩ := mAft_go hy C hr hq
  rw [Bool.or_eq_true] at hlk
  rcases hlk with hlk | hlk
  · exact st_callI C.2.2.2.1.1 C.2.2.2.1.2.1 C.2.2.2.1.2.2.1 C.2.2.2.1.2.2.2 C.1.1 C.1.2.1 C.1.2.2.1 C.1.2.2.2 C.2.1.1 C.2.1.2.1 C.2.1.2.2 C.2.2.1.1 g4 C.2.2.1.2.2.1 ha hst hq9 (by rw [(mMet ha).2.1]; exact C.2.1.1 _ (mF1_d hwd)) (C.2.1.1 _ (mFm_m hlk)) (C.2.1.1 _ (mF1_i hwi)) hnm hre hna hd hp (by rw [h.1.1]; exact hk9) h.1.2 hrun hle g1 g2 g3
  · exact st_callN C.2.2.2.1.1 C.2.2.2.1.2.1 C.2.2.2.1.2.2.1 C.2.2.2.1.2.2.2 C.1.1 C.1.2.1 C.1.2.2.1 C.1.2.2.2 C.2.1.1 C.2.1.2.1 C.2.1.2.2 C.2.2.1.1 g4 C.2.2.1.2.2.1 ha hst hq9 (by rw [(mMet ha).2.1]; exact C.2.1.1 _ (mF1_d hwd)) (mFm_n C.2.1.2.1 hlk) (C.2.1.1 _ (mF1_i hwi)) hnm hre hna hd hp (by rw [h.1.1]; exact hk9) h.1.2 hrun hle g1 g2 g3
end NAT
