/-! Calls of own methods with a receiver. -/
section NCC
variable {ρ : mRho} {p : Program} {l : Launch} {e : Env} {R : Room} {s : State} {m : MethodId} {args : Array Value} {below : List Frame} {meth : Method} {c : Code} {Qe : State → Prop} {y : Nat} {H0 : Heap} {S0 Sf : mH}
variable {pc : Nat} {mls : mM} {mst : List mV} {I I' : mN} {S S' : mH}
theorem t_OB_cell {o : Nat} {cC : ClassId} {N : Nat} {iS : Nat → Nat} {H : Heap} {V : Nat → Value} (h : t_OB o cC N iS H V) : ∃ cell : Cell, H[o]? = some cell ∧ cell.vm.isStatics = false ∧ cell.cls = cC := by
  obtain ⟨cell, h1, h2, h3, -⟩ := h
  exact ⟨cell, h1, by rw [h3]; rfl, h2⟩
theorem st_callV {D mcR msR : Nat} {r : mZ} {y' n : Nat} {as mst0 : List mV} {a : Int} {own : String} {idx : Nat} {q : vw_C} (hG : mGood ρ l D) (hR : R = mRm (D + 1) mcR msR) (hmc : Sf.2.2.2.1 = S0.2.2.2.1 + (mcR : Int)) (hms : Sf.2.2.2.2 = S0.2.2.2.2 + (msR : Int))
    (hx : p.tables.exec = Jvm.exec) (hb : c.code = mBy y) (hml : c.maxLocals = mMaxL y) (hown : s.vm.findClass own = some m.cls) (hts : ∀ w ∈ mWl, w.before args s = true) (hTb : mTab ρ s) (hWd : mWld ρ s s.heap) (h0 : H0 = s.heap) (hout : (∃ e' : Nat, r = .inr e') → ∀ x ∈ c.exceptionTable.toList, False) (hlk : meth.locks = false)
    (hy : y' < 371) (hst : mSta y' = false) (hcl : mClz[mOw y']? = some q) (hini : (Jvm.Cond.initialized (mNm y').cls).before args s = true) (hl : (Jvm.Cond.methodLink own idx (mNm y')).before args s = true) (hin : (Jvm.Cond.instanceMethod (mNm y')).before args s = true) (hse : (Jvm.Cond.selects (mNm y').cls (mNm y') (mNm y')).before args s = true) (hn : mNa y' = n)
    (hd : decode (mBy y) pc = .ok (.invokevirtual idx, 3)) (hp : mPop n [] mst0 = some (mR a :: as, mst)) (hk : S.2.1 a = (mOw y' : Int) + 1) (hcs : mCs mst ≤ 8) (hrun : mRun D y' (mR a :: as) I S (mOne r I' S')) (hle1 : mLe S S') (hle2 : mLe S' Sf)
    (hnx : ∀ v : Option mV, r = .inl v → mPt ρ p l e R s m args below meth c Qe y H0 S0 Sf (pc + 3) (mls, v.toList ++ mst, I', S'))
    (hxn : ∀ e' : Nat, r = .inr e' → ∃ mc ms : Nat, Qe = mQe ρ s args below mc ms (.inr e') I' S' ∧ S'.2.2.2.1 = S0.2.2.2.1 + (mc : Int) ∧ S'.2.2.2.2 = S0.2.2.2.2 + (ms : Int)) :
    mPt ρ p l e R s m args below meth c Qe y H0 S0 Sf pc (mls, mst0, I, S) := by
  refine ⟨mLe_t hle1 hle2, fun H locs cells slots ls stk hL hS hH hO hC => ?_⟩
  obtain ⟨va, vr, e1, e2, hv, hvr⟩ := mStk_pop hp hS
  have hlsz : ls.size = mMaxL y := by obtain ⟨-, lv, hl, -⟩ := hL; exact hl.1
  obtain ⟨mc', hmc'⟩ := Int.eq_ofNat_of_zero_le (show 0 ≤ S'.2.2.2.1 - S.2.2.2.1 by have := hle1.1; omega)
  obtain ⟨ms', hms'⟩ := Int.eq_ofNat_of_zero_le (show 0 ≤ S'.2.2.2.2 - S.2.2.2.2 by have := hle1.2; omega)
  have hz : S'.2.2.2.1 = S.2.2.2.1 + (mc' : Int) := by omega
  have hs2 : S'.2.2.2.2 = S.2.2.2.2 + (ms' : Int) := by omega
  have hC1 : S.2.2.2.1 = S0.2.2.2.1 + (cells : Int) := hC.1
  have hC2 : S.2.2.2.2 = S0.2.2.2.2 + (slots : Int) := hC.2
  obtain ⟨⟨⟨a0, -⟩, -⟩, V, hOB, -⟩ := mHeap_obj hH hcl hk
  obtain ⟨v0, As, rfl, hv0, hvs⟩ := mStk_c hv
  have hv1 : v0 = .ref a.toNat := mRef_ge hv0 a0
  subst hv1
  have e3 : stk = As.reverse ++ .ref a.toNat :: vr := by rw [e1, List.reverse_cons, List.append_assoc]; rfl
  have e4 : As.length = n - 1 := by rw [List.length_cons] at e2; omega
  refine mGo_run (r := r) (ar := (Value.ref a.toNat :: As).toArray) (rest := vr) (mc' := mc') (ms' := ms') ?_ hL hvr hO hC hz hs2 h0 hout hlk hnx hxn
  have hfc : s.vm.findClass (mNm y').cls = some (ρ.1 (mOw y')) := by
    rw [(mMet hy).2.1, ← mClz_name _ _ hcl]
    exact (hTb.1 _ _ hcl).2.1
  obtain ⟨cell, c1, c2, c3⟩ := t_OB_cell hOB
  exact vx_runV (S := ⟨hx, hb, hml, hown, hts⟩) (hM := hG y' (mR a :: as) I S r I' S' mc' ms' hy hrun hz hs2) (C := (mNm y').cls) (b := a.toNat) (As := As) (n := n - 1) ⟨mCallR (H := H) (cells := cells) (slots := slots) (r := r) (mcR := mcR) (msR := msR) hR hts hy hini hl (by rw [hst, hn]; rfl), hin, hse⟩ ⟨(mPre hTb hWd h0 hO hH hv).1, ⟨cell, c1, c2, by rw [c3]; exact hfc⟩, (mPre hTb hWd h0 hO hH hv).2⟩ rfl e4 hlsz e3
    (by rw [mCs_ok hvr]; show 2 * 0 + mCs mst ≤ 8; omega) hd (by rw [hR]; exact ⟨by show cells + mc' ≤ mcR; have := hle2.1; omega, by show slots + ms' ≤ msR; have := hle2.2; omega⟩)
theorem st_callI {D mcR msR : Nat} {r : mZ} {y' n : Nat} {as mst0 : List mV} {a : Int} {own : String} {idx : Nat} {q : vw_C} (hG : mGood ρ l D) (hR : R = mRm (D + 1) mcR msR) (hmc : Sf.2.2.2.1 = S0.2.2.2.1 + (mcR : Int)) (hms : Sf.2.2.2.2 = S0.2.2.2.2 + (msR : Int))
    (hx : p.tables.exec = Jvm.exec) (hb : c.code = mBy y) (hml : c.maxLocals = mMaxL y) (hown : s.vm.findClass own = some m.cls) (hts : ∀ w ∈ mWl, w.before args s = true) (hTb : mTab ρ s) (hWd : mWld ρ s s.heap) (h0 : H0 = s.heap) (hout : (∃ e' : Nat, r = .inr e') → ∀ x ∈ c.exceptionTable.toList, False) (hlk : meth.locks = false)
    (hy : y' < 371) (hst : mSta y' = false) (hcl : mClz[mOw y']? = some q) (hini : (Jvm.Cond.initialized (mNm y').cls).before args s = true) (hl : (Jvm.Cond.methodLink own idx (mNm y')).before args s = true) (hin : (Jvm.Cond.instanceMethod (mNm y')).before args s = true) (hnm : (mNm y').name = "<init>") (hre : mRet y' = none) (hn : mNa y' = n)
    (hd : decode (mBy y) pc = .ok (.invokespecial idx, 3)) (hp : mPop n [] mst0 = some (mR a :: as, mst)) (hk : S.2.1 a = (mOw y' : Int) + 1) (hcs : mCs mst ≤ 8) (hrun : mRun D y' (mR a :: as) I S (mOne r I' S')) (hle1 : mLe S S') (hle2 : mLe S' Sf)
    (hnx : ∀ v : Option mV, r = .inl v → mPt ρ p l e R s m args below meth c Qe y H0 S0 Sf (pc + 3) (mls, v.toList ++ mst, I', S'))
    (hxn : ∀ e' : Nat, r = .inr e' → ∃ mc ms : Nat, Qe = mQe ρ s args below mc ms (.inr e') I' S' ∧ S'.2.2.2.1 = S0.2.2.2.1 + (mc : Int) ∧ S'.2.2.2.2 = S0.2.2.2.2 + (ms : Int)) :
    mPt ρ p l e R s m args below meth c Qe y H0 S0 Sf pc (mls, mst0, I, S) := by
  refine ⟨mLe_t hle1 hle2, fun H locs cells slots ls stk hL hS hH hO hC => ?_⟩
  obtain ⟨va, vr, e1, e2, hv, hvr⟩ := mStk_pop hp hS
  have hlsz : ls.size = mMaxL y := by obtain ⟨-, lv, hl, -⟩ := hL; exact hl.1
  obtain ⟨mc', hmc'⟩ := Int.eq_ofNat_of_zero_le (show 0 ≤ S'.2.2.2.1 - S.2.2.2.1 by have := hle1.1; omega)
  obtain ⟨ms', hms'⟩ := Int.eq_ofNat_of_zero_le (show 0 ≤ S'.2.2.2.2 - S.2.2.2.2 by have := hle1.2; omega)
  have hz : S'.2.2.2.1 = S.2.2.2.1 + (mc' : Int) := by omega
  have hs2 : S'.2.2.2.2 = S.2.2.2.2 + (ms' : Int) := by omega
  have hC1 : S.2.2.2.1 = S0.2.2.2.1 + (cells : Int) := hC.1
  have hC2 : S.2.2.2.2 = S0.2.2.2.2 + (slots : Int) := hC.2
  obtain ⟨⟨⟨a0, -⟩, -⟩, V, hOB, -⟩ := mHeap_obj hH hcl hk
  obtain ⟨v0, As, rfl, hv0, hvs⟩ := mStk_c hv
  have hv1 : v0 = .ref a.toNat := mRef_ge hv0 a0
  subst hv1
  have e3 : stk = As.reverse ++ .ref a.toNat :: vr := by rw [e1, List.reverse_cons, List.append_assoc]; rfl
  have e4 : As.length = n - 1 := by rw [List.length_cons] at e2; omega
  refine mGo_run (r := r) (ar := (Value.ref a.toNat :: As).toArray) (rest := vr) (mc' := mc') (ms' := ms') ?_ hL hvr hO hC hz hs2 h0 hout hlk hnx hxn
  exact vx_runI (S := ⟨hx, hb, hml, hown, hts⟩) (hM := hG y' (mR a :: as) I S r I' S' mc' ms' hy hrun hz hs2) (b := a.toNat) (As := As) (n := n - 1) ⟨by have h9 := mCallR (idx := idx) (own := own) (mc' := mc') (ms' := ms') (H := H) (cells := cells) (slots := slots) (r := r) (n := n - 1) (mcR := mcR) (msR := msR) hR hts hy hini hl (by rw [hst, hn]; rfl); rw [hre] at h9; exact h9, hnm, hin⟩ (mPre hTb hWd h0 hO hH hv) rfl e4 hlsz e3
    (by rw [mCs_ok hvr]; show 2 * 0 + mCs mst ≤ 8; omega) hd (by rw [hR]; exact ⟨by show cells + mc' ≤ mcR; have := hle2.1; omega, by show slots + ms' ≤ msR; have := hle2.2; omega⟩)
theorem st_callN {D mcR msR : Nat} {r : mZ} {y' n : Nat} {as mst0 : List mV} {a : Int} {own host : String} {idx : Nat} {q : vw_C} (hG : mGood ρ l D) (hR : R = mRm (D + 1) mcR msR) (hmc : Sf.2.2.2.1 = S0.2.2.2.1 + (mcR : Int)) (hms : Sf.2.2.2.2 = S0.2.2.2.2 + (msR : Int))
    (hx : p.tables.exec = Jvm.exec) (hb : c.code = mBy y) (hml : c.maxLocals = mMaxL y) (hown : s.vm.findClass own = some m.cls) (hts : ∀ w ∈ mWl, w.before args s = true) (hTb : mTab ρ s) (hWd : mWld ρ s s.heap) (h0 : H0 = s.heap) (hout : (∃ e' : Nat, r = .inr e') → ∀ x ∈ c.exceptionTable.toList, False) (hlk : meth.locks = false)
    (hy : y' < 371) (hst : mSta y' = false) (hcl : mClz[mOw y']? = some q) (hini : (Jvm.Cond.initialized (mNm y').cls).before args s = true) (hl : va_Nw (.methodLinkNest own idx (mNm y') host) s) (hin : (Jvm.Cond.instanceMethod (mNm y')).before args s = true) (hnm : (mNm y').name = "<init>") (hre : mRet y' = none) (hn : mNa y' = n)
    (hd : decode (mBy y) pc = .ok (.invokespecial idx, 3)) (hp : mPop n [] mst0 = some (mR a :: as, mst)) (hk : S.2.1 a = (mOw y' : Int) + 1) (hcs : mCs mst ≤ 8) (hrun : mRun D y' (mR a :: as) I S (mOne r I' S')) (hle1 : mLe S S') (hle2 : mLe S' Sf)
    (hnx : ∀ v : Option mV, r = .inl v → mPt ρ p l e R s m args below meth c Qe y H0 S0 Sf (pc + 3) (mls, v.toList ++ mst, I', S'))
    (hxn : ∀ e' : Nat, r = .inr e' → ∃ mc ms : Nat, Qe = mQe ρ s args below mc ms (.inr e') I' S' ∧ S'.2.2.2.1 = S0.2.2.2.1 + (mc : Int) ∧ S'.2.2.2.2 = S0.2.2.2.2 + (ms : Int)) :
    mPt ρ p l e R s m args below meth c Qe y H0 S0 Sf pc (mls, mst0, I, S) := by
  refine ⟨mLe_t hle1 hle2, fun H locs cells slots ls stk hL hS hH hO hC => ?_⟩
  obtain ⟨va, vr, e1, e2, hv, hvr⟩ := mStk_pop hp hS
  have hlsz : ls.size = mMaxL y := by obtain ⟨-, lv, hl, -⟩ := hL; exact hl.1
  obtain ⟨mc', hmc'⟩ := Int.eq_ofNat_of_zero_le (show 0 ≤ S'.2.2.2.1 - S.2.2.2.1 by have := hle1.1; omega)
  obtain ⟨ms', hms'⟩ := Int.eq_ofNat_of_zero_le (show 0 ≤ S'.2.2.2.2 - S.2.2.2.2 by have := hle1.2; omega)
  have hz : S'.2.2.2.1 = S.2.2.2.1 + (mc' : Int) := by omega
  have hs2 : S'.2.2.2.2 = S.2.2.2.2 + (ms' : Int) := by omega
  have hC1 : S.2.2.2.1 = S0.2.2.2.1 + (cells : Int) := hC.1
  have hC2 : S.2.2.2.2 = S0.2.2.2.2 + (slots : Int) := hC.2
  obtain ⟨⟨⟨a0, -⟩, -⟩, V, hOB, -⟩ := mHeap_obj hH hcl hk
  obtain ⟨v0, As, rfl, hv0, hvs⟩ := mStk_c hv
  have hv1 : v0 = .ref a.toNat := mRef_ge hv0 a0
  subst hv1
  have e3 : stk = As.reverse ++ .ref a.toNat :: vr := by rw [e1, List.reverse_cons, List.append_assoc]; rfl
  have e4 : As.length = n - 1 := by rw [List.length_cons] at e2; omega
  refine mGo_run (r := r) (ar := (Value.ref a.toNat :: As).toArray) (rest := vr) (mc' := mc') (ms' := ms') ?_ hL hvr hO hC hz hs2 h0 hout hlk hnx hxn
  have hcn : va_CN R s args own idx (mNm y') host (mBy y') (mMaxL y') none (mWs y') (mRm D mc' ms') mc' ms' (n - 1) := by
    obtain ⟨h1, h2, h3, h4, h5⟩ := mMet hy
    rw [hst, hn] at h1
    refine va_cnB (Ts := mWl) (ws' := mWl) (n - 1) hts (mGood_in hy) (by unfold mWs; rw [hre]) rfl rfl hl hini h1 ⟨?_, ?_⟩
    · rw [hR]; show D + 6 + 1 ≤ D + 1 + 6; omega
    · rw [hR]; show 8 + (mMaxL y' + 11) + (41 * D + 278) ≤ 41 * (D + 1) + 278; omega
  exact vx_runIN (S := ⟨hx, hb, hml, hown, hts⟩) (hM := hG y' (mR a :: as) I S r I' S' mc' ms' hy hrun hz hs2) (b := a.toNat) (As := As) (n := n - 1) ⟨hcn, hnm, hin⟩ (mPre hTb hWd h0 hO hH hv) rfl e4 hlsz e3
    (by rw [mCs_ok hvr]; show 2 * 0 + mCs mst ≤ 8; omega) hd (by rw [hR]; exact ⟨by show cells + mc' ≤ mcR; have := hle2.1; omega, by show slots + ms' ≤ msR; have := hle2.2; omega⟩)
end NCC
