/-! A throw. -/
section NTH
variable {ρ : mRho} {p : Program} {l : Launch} {e : Env} {R : Room} {s : State} {m : MethodId} {args : Array Value} {below : List Frame} {meth : Method} {c : Code} {y : Nat} {H0 : Heap} {S0 : mH} {mc ms : Nat}
variable {pc : Nat} {mls : mM} {I : mN} {S : mH}
theorem mAts_at {en : Nat} (he : en < 4) (hts : ∀ w ∈ mWl, w.before args s = true) (hWd : mWld ρ s s.heap) : (∀ w ∈ mAts en, w.before args s = true) ∧ ∀ w ∈ mAts en, vx_ot w = true := by
  have h0 := mAts_ok en he
  unfold mAtsB at h0
  refine ⟨fun w hw => ?_, fun w hw => ?_⟩
  · have h1 := List.all_eq_true.mp h0 w hw
    rw [Bool.and_eq_true, Bool.or_eq_true, Bool.and_eq_true, decide_eq_true_eq] at h1
    rcases h1.2 with h2 | ⟨h2, h3⟩
    · have h4 : va_Nw w s := hWd.1 w (List.mem_flatMap.mpr ⟨en, List.mem_range.mpr he, List.mem_filter.mpr ⟨hw, h2⟩⟩)
      unfold mBadK at h2
      split at h2
      · exact va_Nw.use rfl h4
      · exact va_Nw.use rfl h4
      · cases h2
    · exact hts w (List.mem_filter.mpr ⟨h3, h2⟩)
  · have h1 := List.all_eq_true.mp h0 w hw
    rw [Bool.and_eq_true] at h1
    exact h1.1
theorem mEn_fit (en : Nat) (he : en < 4) : Bundle.fit (mEname en) = true := by
  match en, he with
  | 0, _ => decide +kernel
  | 1, _ => decide +kernel
  | 2, _ => decide +kernel
  | 3, _ => decide +kernel
theorem mSup_fit : ∀ n ∈ ["java/lang/RuntimeException", "java/lang/Exception"], Bundle.fit n = true := by decide +kernel
theorem st_throw {en n ik is : Nat} {tx : String} (he : en < 4) (hx : p.tables.exec = Jvm.exec) (hb : c.code = mBy y) (hml : c.maxLocals = mMaxL y) (hl : l.stackTraces = false) (hown : s.vm.findClass "RiverSeniority" = some m.cls) (hts : ∀ w ∈ mWl, w.before args s = true) (hWd : mWld ρ s s.heap) (h0 : H0 = s.heap) (hout : ∀ x ∈ c.exceptionTable.toList, False) (hlk : meth.locks = false)
    (hk : (Jvm.Cond.classLink "RiverSeniority" ik (mEname en)).before args s = true) (hini : (Jvm.Cond.initialized (mEname en)).before args s = true) (htx : (is, tx) ∈ mMsg)
    (d0 : decode (mBy y) pc = .ok (.new ik, 3)) (d3 : decode (mBy y) (pc + 3) = .ok (.dup, 1)) (d4 : (n = 2 ∧ decode (mBy y) (pc + 4) = .ok (.ldc is, 2)) ∨ (n = 3 ∧ decode (mBy y) (pc + 4) = .ok (.ldc_w is, 3))) (d6 : decode (mBy y) (pc + 4 + n) = .ok (.invokespecial (mXic en), 3)) (d9 : decode (mBy y) (pc + 4 + n + 3) = .ok (.athrow, 1))
    (hR1 : 6 ≤ R.frames) (hR2 : 200 ≤ R.locals) (hmc : (mNewH S 0 6).2.2.2.1 = S0.2.2.2.1 + (mc : Int)) (hms : (mNewH S 0 6).2.2.2.2 = S0.2.2.2.2 + (ms : Int)) (hRc : mc ≤ R.cells) (hRs : ms ≤ R.slots) :
    mPt ρ p l e R s m args below meth c (mQe ρ s args below mc ms (.inr en) (mNewN I S) (mNewH S 0 6)) y H0 S0 (mNewH S 0 6) pc (mls, [], I, S) := by
  refine ⟨mLe_n (by decide), fun H locs cells slots ls stk hL hS hH hO hC => ?_⟩
  dsimp only at hL hS hH hC
  cases mStk_n hS
  have hlsz : ls.size = mMaxL y := by obtain ⟨-, lv, hl, -⟩ := hL; exact hl.1
  obtain ⟨g1, g2⟩ := mAts_at he hts hWd
  obtain ⟨sa, hsa⟩ := hWd.2.2.2.2.1 _ htx
  have hC1 : S.2.2.2.1 = S0.2.2.2.1 + (cells : Int) := hC.1
  have hC2 : S.2.2.2.2 = S0.2.2.2.2 + (slots : Int) := hC.2
  have hmc' : S.2.2.2.1 + 1 = S0.2.2.2.1 + (mc : Int) := hmc
  have hms' : S.2.2.2.2 + 6 = S0.2.2.2.2 + (ms : Int) := hms
  refine nx_throw (n := n) (own := "RiverSeniority") (cls := mEname en) (text := tx) (names := ["java/lang/RuntimeException", "java/lang/Exception"]) (ik := ik) (is := is) (ic := mXic en) (ix := mXix en) (rx := mXrx en) (sa := sa) (A := mFree ρ) hx hb hl (mX0 en) (mX1 en) (mX2 en) (mX5 en) hown (mEn_fit en he) mSup_fit hk hini hsa g1 ?_ hWd.2.1 hWd.2.2.1 ?_ (by rw [hml]; exact hlsz) d0 d3 d4 d6 d9 (fun x hx => (hout x hx).elim) (by show 2 + 3 < R.frames; omega) (by show 0 + (13 * (2 + 1) + 43) ≤ R.locals; omega) (by omega) (by omega) hlk ?_ hO.2.2.2 (by omega) (by omega)
  · intro w hw
    rcases List.mem_cons.mp hw with rfl | hw
    · rfl
    · rcases List.mem_cons.mp hw with rfl | hw
      · rfl
      · exact g2 w hw
  · subst h0
    exact ⟨hO.2.1, fun q _ hq => hO.2.2.1 q (Nat.not_le.mp hq), hO.2.2.2⟩
  · intro t hal hz hq
    subst h0
    have hH2 : mHeap ρ s (mNewN I S) (mNewH S 0 6) t.heap := mHeap_new hH hz hq (Or.inl (by
      have h9 := hH.1
      rw [← h9]
      exact (mNew_at I S 0 6).2.2.1))
    exact ⟨⟨en, rfl, rfl⟩, mHeap_moved hal hH2, by have := hO.2.1; omega, fun q hlt => by rw [hq q (by have := hO.1; have := hO.2.1; omega)]; exact hO.2.2.1 q hlt⟩
end NTH
