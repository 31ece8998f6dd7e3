/-! Calls of own methods, instruction by instruction. -/
def mMok (y : Nat) : Bool := decide ((mNm y).cls ≠ "java/lang/invoke/MethodHandle") && decide ((mNm y).cls ≠ "java/lang/invoke/VarHandle") && decide ((parseMethodDescriptor (mNm y).desc).map (fun d => d.parameters.length) = some (mNa y - (if mSta y then 0 else 1))) && decide ((mNm y).cls = mCname (mOw y)) && plainName (mNm y).cls && Nat.ble (mMaxL y) 22 && Nat.blt (mOw y) 15
theorem mMok_all : (List.range 371).all mMok = true := by decide +kernel
theorem mWC_all : (List.range 371).all (fun y => mWC.any (fun e => Nat.beq e.2 y)) = true := by decide +kernel
theorem mWC_in {y : Nat} (hy : y < 371) : Jvm.Cond.code (mNm y) (mBy y) (mMaxL y) (mRet y) ∈ mWl := by
  have h1 := List.all_eq_true.mp mWC_all y (List.mem_range.mpr hy)
  obtain ⟨e, he, h2⟩ := List.any_eq_true.mp h1
  have h3 : e.2 = y := Nat.eq_of_beq_eq_true h2
  subst h3
  have h4 : Jvm.Cond.code (mNm e.2) (mBy e.2) (mMaxL e.2) (mRet e.2) ∈ mSel lw_tbl (mWC.map (·.1)) := by
    rw [mWC_eq]
    exact List.mem_map.mpr ⟨e, he, rfl⟩
  exact List.mem_filter.mpr ⟨mSel_ok _ _ _ h4, rfl⟩
theorem mMet {y : Nat} (hy : y < 371) : ((mNm y).cls ≠ "java/lang/invoke/MethodHandle" ∧ (mNm y).cls ≠ "java/lang/invoke/VarHandle" ∧ (parseMethodDescriptor (mNm y).desc).map (fun d => d.parameters.length) = some (mNa y - (if mSta y then 0 else 1))) ∧ (mNm y).cls = mCname (mOw y) ∧ plainName (mNm y).cls = true ∧ mMaxL y ≤ 22 ∧ mOw y < 15 := by
  have h1 := List.all_eq_true.mp mMok_all y (List.mem_range.mpr hy)
  unfold mMok at h1
  simp only [Bool.and_eq_true, decide_eq_true_eq] at h1
  obtain ⟨⟨⟨⟨⟨⟨h1, h2⟩, h3⟩, h4⟩, h5⟩, h6⟩, h7⟩ := h1
  exact ⟨⟨h1, h2, h3⟩, h4, h5, Nat.le_of_ble_eq_true h6, Nat.le_of_ble_eq_true h7⟩
theorem mGood_in {y : Nat} (hy : y < 371) : GoodIn mWl (mWs y) := by
  intro w hw
  rcases List.mem_cons.mp hw with rfl | hw
  · exact ⟨mWC_in hy, good_of_word rfl⟩
  · exact ⟨hw, good_of_word (mWl_in hw).2⟩
section NCB
variable {ρ : mRho} {p : Program} {l : Launch} {e : Env} {R : Room} {s : State} {m : MethodId} {args : Array Value} {below : List Frame} {meth : Method} {c : Code} {Qe : State → Prop} {y : Nat} {H0 : Heap} {S0 Sf : mH}
variable {pc : Nat} {mls : mM} {mst : List mV} {I I' : mN} {S S' : mH}
theorem mPre {H : Heap} {locs : List Loc} {va : List Value} {as : List mV} (hTb : mTab ρ s) (hWd : mWld ρ s s.heap) (h0 : H0 = s.heap) (hO : mOld ρ H0 H locs) (hH : mHeap ρ s I S H) (hv : mStk ρ va as) : PreS s H (mPc ρ as I S) va :=
  ⟨mPc_blind ρ as I S, fun U hU hW => by
    subst h0
    exact ⟨⟨va, rfl, hv⟩, by rw [hU]; exact mHeap_moved hW.alike hH, mTab_warm hW hTb, mWld_warm hW (fun q hq => by rw [hU]; exact hO.2.2.1 q hq) hWd⟩⟩
/-- what all calls share -/
theorem mCallR {D mcR msR : Nat} {r : mZ} {y' n mc' ms' : Nat} {own : String} {idx : Nat} {H : Heap} {cells slots : Nat} (hR : R = mRm (D + 1) mcR msR) (hts : ∀ w ∈ mWl, w.before args s = true) (hy : y' < 371) (hini : (Jvm.Cond.initialized (mNm y').cls).before args s = true) (hl : (Jvm.Cond.methodLink own idx (mNm y')).before args s = true) (hn : mNa y' - (if mSta y' then 0 else 1) = n) :
    CallB R s args own idx (mNm y') (mBy y') (mMaxL y') (mRet y') (mWs y') (mRm D mc' ms') mc' ms' n := by
  obtain ⟨h1, h2, h3, h4, h5⟩ := mMet hy
  rw [hn] at h1
  refine callB_of (Ts := mWl) n hts (mGood_in hy) rfl rfl rfl hini hl h1 ⟨?_, ?_⟩
  · rw [hR]; show D + 6 + 1 ≤ D + 1 + 6; omega
  · rw [hR]; show 8 + (mMaxL y' + 11) + (41 * D + 278) ≤ 41 * (D + 1) + 278; omega
theorem st_callS {D mcR msR : Nat} {r : mZ} {y' n : Nat} {as mst0 : List mV} {own : String} {idx : Nat} (hG : mGood ρ l D) (hR : R = mRm (D + 1) mcR msR) (hmc : Sf.2.2.2.1 = S0.2.2.2.1 + (mcR : Int)) (hms : Sf.2.2.2.2 = S0.2.2.2.2 + (msR : Int))
    (hx : p.tables.exec = Jvm.exec) (hb : c.code = mBy y) (hml : c.maxLocals = mMaxL y) (hown : s.vm.findClass own = some m.cls) (hts : ∀ w ∈ mWl, w.before args s = true) (hTb : mTab ρ s) (hWd : mWld ρ s s.heap) (h0 : H0 = s.heap) (hout : (∃ e' : Nat, r = .inr e') → ∀ x ∈ c.exceptionTable.toList, False) (hlk : meth.locks = false)
    (hy : y' < 371) (hst : mSta y' = true) (hini : (Jvm.Cond.initialized (mNm y').cls).before args s = true) (hl : (Jvm.Cond.methodLink own idx (mNm y')).before args s = true) (hstt : (Jvm.Cond.static (mNm y')).before args s = true) (hn : mNa y' = n)
    (hd : decode (mBy y) pc = .ok (.invokestatic idx, 3)) (hp : mPop n [] mst0 = some (as, mst)) (hcs : mCs mst ≤ 8) (hrun : mRun D y' as I S (mOne r I' S')) (hle1 : mLe S S') (hle2 : mLe S' Sf)
    (hnx : ∀ v : Option mV, r = .inl v → mPt ρ p l e R s m args below meth c Qe y H0 S0 Sf (pc + 3) (mls, v.toList ++ mst, I', S'))
    (hxn : ∀ e' : Nat, r = .inr e' → ∃ mc ms : Nat, Qe = mQe ρ s args below mc ms (.inr e') I' S' ∧ S'.2.2.2.1 = S0.2.2.2.1 + (mc : Int) ∧ S'.2.2.2.2 = S0.2.2.2.2 + (ms : Int)) :
    mPt ρ p l e R s m args below meth c Qe y H0 S0 Sf pc (mls, mst0, I, S) := by
  refine ⟨mLe_t hle1 hle2, fun H locs cells slots ls stk hL hS hH hO hC => ?_⟩
  obtain ⟨va, vr, e1, e2, hv, hvr⟩ := mStk_pop hp hS
  have hlsz : ls.size = mMaxL y := by obtain ⟨-, lv, hl, -⟩ := hL; exact hl.1
  obtain ⟨mc', hmc'⟩ := Int.eq_ofNat_of_zero_le (show 0 ≤ S'.2.2.2.1 - S.2.2.2.1 by have := hle1.1; omega)
  obtain ⟨ms', hms'⟩ := Int.eq_ofNat_of_zero_le (show 0 ≤ S'.2.2.2.2 - S.2.2.2.2 by have := hle1.2; omega)
  have hz : S'.2.2.2.1 = S.2.2.2.1 + (mc' : Int) := by omega
  have hs2 : S'.2.2.2.2 = S.2.2.2.2 + (ms' : Int) := by omega
  have hC1 : S.2.2.2.1 = S0.2.2.2.1 + (cells : Int) := hC.1
  have hC2 : S.2.2.2.2 = S0.2.2.2.2 + (slots : Int) := hC.2
  refine mGo_run (r := r) (ar := va.toArray) (rest := vr) (mc' := mc') (ms' := ms') ?_ hL hvr hO hC hz hs2 h0 hout hlk hnx hxn
  exact vx_runS (S := ⟨hx, hb, hml, hown, hts⟩) (hM := hG y' as I S r I' S' mc' ms' hy hrun hz hs2) (n := n) ⟨mCallR (H := H) (cells := cells) (slots := slots) (r := r) (mcR := mcR) (msR := msR) hR hts hy hini hl (by rw [hst]; exact hn), hstt⟩ (mPre hTb hWd h0 hO hH hv) rfl e2 hlsz e1
    (by rw [mCs_ok hvr]; show 2 * 0 + mCs mst ≤ 8; omega) hd (by rw [hR]; exact ⟨by show cells + mc' ≤ mcR; have := hle2.1; omega, by show slots + ms' ≤ msR; have := hle2.2; omega⟩)
end NCB
