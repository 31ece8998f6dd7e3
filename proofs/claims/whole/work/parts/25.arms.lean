/-! A checked instruction takes the machine a step with the small machine. -/
def mCt (e : Nat) : Nat := match e with
  | 0 => 13
  | 1 => 19
  | 2 => 25
  | _ => 90
/-- the handlers of one of the law's own methods -/
def mHT (y : Nat) : List (Nat × Nat × Nat × Nat) := (mHs.getD (y - 371) []).map (fun h => (h.1, h.2.1, h.2.2.1, mCt h.2.2.2))
/-- a word of a method that catches -/
def mWsH1 (y : Nat) : Cond := Jvm.Cond.codeWith (mNm y) (mBy y) (mMaxL y) (mRet y) (mHT y)
def mGoodH (ρ : mRho) (l : Launch) (D : Nat) : Prop := ∀ (y : Nat) (as : List mV) (I : mN) (S : mH) (v : Option mV) (I' : mN) (S' : mH) (mc ms : Nat), 371 ≤ y → y < 413 → mRun D y as I S (mOne (.inl v) I' S') → S'.2.2.2.1 = S.2.2.2.1 + (mc : Int) → S'.2.2.2.2 = S.2.2.2.2 + (ms : Int) →
  vx_Met l (mNm y) (mWsH1 y :: mWl) (mRm D mc ms) (mPc ρ as I S) (mQc ρ (.inl v) I' S') (mXc ρ (.inl v) I' S') mc ms (mFree ρ)
def mCx (ρ : mRho) (p : Program) (l : Launch) (e : Env) (R : Room) (s : State) (m : MethodId) (args : Array Value) (below : List Frame) (meth : Method) (c : Code) (Qe : State → Prop) (y : Nat) (H0 : Heap) (S0 Sf : mH) (D mcR msR : Nat) (r : mZ) (If : mN) : Prop :=
  (p.tables.exec = Jvm.exec ∧ c.code = mBy y ∧ c.maxLocals = mMaxL y ∧ s.vm.findClass (mCname (mOw y)) = some m.cls) ∧ ((∀ w ∈ mWl, w.before args s = true) ∧ mTab ρ s ∧ mWld ρ s s.heap) ∧
  (H0 = s.heap ∧ (y < 371 → ∀ x ∈ c.exceptionTable.toList, False) ∧ meth.locks = false ∧ l.stackTraces = false ∧ (y ≠ 413 → Qe = mQe ρ s args below mcR msR r If Sf) ∧ (371 ≤ y → ∃ v, r = .inl v) ∧ (371 ≤ y → y < 413 → c.exceptionTable.toList = tableOf (mHT y)) ∧
    (y = 413 → r = .inl (some (mI 1)) ∧ (∀ (pc : Nat) (H : Heap) (locs : List Loc) (cells slots : Nat) (ls : Array Slot), decode (mBy y) pc = .ok (.ireturn, 1) → mOld ρ H0 H locs → cells ≤ mcR → slots ≤ msR → W p l e R s m args below meth c H locs cells slots Qe (F0 m pc ls [.int 1])) ∧ mGoodH ρ l D)) ∧
  (mGood ρ l D ∧ R = mRm (D + 1) mcR msR ∧ Sf.2.2.2.1 = S0.2.2.2.1 + (mcR : Int) ∧ Sf.2.2.2.2 = S0.2.2.2.2 + (msR : Int)) ∧
  (meth.sig.returnType = mRet y ∧ (y < 371 → meth.name = (mNm y).name))
def mInB (v : Int) : Bool := decide (-2147483648 ≤ v ∧ v ≤ 2147483647)
theorem mInB_ok {v : Int} (h : mInB v = true) : mIn v := (of_decide_eq_true h : -2147483648 ≤ v ∧ v ≤ 2147483647)
def mLk (y a n : Nat) : Bool := Nat.blt a (mMaxL y) && (!Nat.beq y 413 || !Nat.beq n 0)
theorem mLk_ok {y a n : Nat} (h : mLk y a n = true) : a < mMaxL y ∧ (y = 413 → n ≠ 0) := by
  unfold mLk at h
  rw [Bool.and_eq_true, Bool.or_eq_true] at h
  refine ⟨Nat.le_of_ble_eq_true h.1, fun hy hn => ?_⟩
  subst hy; subst hn
  rcases h.2 with h | h <;> exact absurd h (by decide)
def mJt (pc : Nat) (off : Int) (t : Nat) : Bool := decide ((pc : Int) + off = (t : Int))
section NAR
variable {ρ : mRho} {p : Program} {l : Launch} {e : Env} {R : Room} {s : State} {m : MethodId} {args : Array Value} {below : List Frame} {meth : Method} {c : Code} {Qe : State → Prop} {y : Nat} {H0 : Heap} {S0 Sf : mH} {If : mN} {D mcR msR : Nat} {r : mZ}
variable {pc : Nat} {mls : mM} {mst : List mV} {I : mN} {S : mH} {rest : mC → Prop} {a n nx : Nat} {b k : Int}
theorem ar_iconst {v : Int} (C : mCx ρ p l e R s m args below meth c Qe y H0 S0 Sf D mcR msR r If) (hk : (mNx y (pc, .iconst v, a, b, k, n) 1 nx && mInB v) = true) (hr : ∀ c', rest c' → (mPt ρ p l e R s m args below meth c Qe y H0 S0 Sf) nx c') (h : mAct (mRun D) y pc (mPt ρ p l e R s m args below meth c Qe y H0 S0 Sf) (mOne r If Sf) rest (mDo (pc, .iconst v, a, b, k, n) (mls, mst, I, S))) : (mPt ρ p l e R s m args below meth c Qe y H0 S0 Sf) pc (mls, mst, I, S) := by
  rw [Bool.and_eq_true] at hk
  obtain ⟨hk, hv⟩ := hk
  obtain ⟨hd, rfl⟩ := mNx_ok hk
  have h : True ∧ rest (mls, mI v :: mst, I, S) := h
  exact st_iconst C.1.1 C.1.2.1 (mInB_ok hv) hd (hr _ h.2)
theorem ar_bipush {v : Int} (C : mCx ρ p l e R s m args below meth c Qe y H0 S0 Sf D mcR msR r If) (hk : (mNx y (pc, .bipush v, a, b, k, n) 2 nx && decide (-128 ≤ v ∧ v ≤ 127)) = true) (hr : ∀ c', rest c' → (mPt ρ p l e R s m args below meth c Qe y H0 S0 Sf) nx c') (h : mAct (mRun D) y pc (mPt ρ p l e R s m args below meth c Qe y H0 S0 Sf) (mOne r If Sf) rest (mDo (pc, .bipush v, a, b, k, n) (mls, mst, I, S))) : (mPt ρ p l e R s m args below meth c Qe y H0 S0 Sf) pc (mls, mst, I, S) := by
  rw [Bool.and_eq_true] at hk
  obtain ⟨hk, hv⟩ := hk
  obtain ⟨hd, rfl⟩ := mNx_ok hk
  have h : True ∧ rest (mls, mI v :: mst, I, S) := h
  exact st_bipush C.1.1 C.1.2.1 (of_decide_eq_true hv) hd (hr _ h.2)
theorem ar_sipush {v : Int} (C : mCx ρ p l e R s m args below meth c Qe y H0 S0 Sf D mcR msR r If) (hk : (mNx y (pc, .sipush v, a, b, k, n) 3 nx && decide (-32768 ≤ v ∧ v ≤ 32767)) = true) (hr : ∀ c', rest c' → (mPt ρ p l e R s m args below meth c Qe y H0 S0 Sf) nx c') (h : mAct (mRun D) y pc (mPt ρ p l e R s m args below meth c Qe y H0 S0 Sf) (mOne r If Sf) rest (mDo (pc, .sipush v, a, b, k, n) (mls, mst, I, S))) : (mPt ρ p l e R s m args below meth c Qe y H0 S0 Sf) pc (mls, mst, I, S) := by
  rw [Bool.and_eq_true] at hk
  obtain ⟨hk, hv⟩ := hk
  obtain ⟨hd, rfl⟩ := mNx_ok hk
  have h : True ∧ rest (mls, mI v :: mst, I, S) := h
  exact st_sipush C.1.1 C.1.2.1 (of_decide_eq_true hv) hd (hr _ h.2)
theorem ar_lconst {v : Fin 2} (C : mCx ρ p l e R s m args below meth c Qe y H0 S0 Sf D mcR msR r If) (hk : (mNx y (pc, .lconst v, a, b, k, n) 1 nx) = true) (hr : ∀ c', rest c' → (mPt ρ p l e R s m args below meth c Qe y H0 S0 Sf) nx c') (h : mAct (mRun D) y pc (mPt ρ p l e R s m args below meth c Qe y H0 S0 Sf) (mOne r If Sf) rest (mDo (pc, .lconst v, a, b, k, n) (mls, mst, I, S))) : (mPt ρ p l e R s m args below meth c Qe y H0 S0 Sf) pc (mls, mst, I, S) := by
  obtain ⟨hd, rfl⟩ := mNx_ok hk
  have h : True ∧ rest (mls, mL (v : Nat) :: mst, I, S) := h
  exact st_lconst C.1.1 C.1.2.1 hd (hr _ h.2)
theorem ar_fconst {v : Fin 3} (C : mCx ρ p l e R s m args below meth c Qe y H0 S0 Sf D mcR msR r If) (hk : (mNx y (pc, .fconst v, a, b, k, n) 1 nx) = true) (hr : ∀ c', rest c' → (mPt ρ p l e R s m args below meth c Qe y H0 S0 Sf) nx c') (h : mAct (mRun D) y pc (mPt ρ p l e R s m args below meth c Qe y H0 S0 Sf) (mOne r If Sf) rest (mDo (pc, .fconst v, a, b, k, n) (mls, mst, I, S))) : (mPt ρ p l e R s m args below meth c Qe y H0 S0 Sf) pc (mls, mst, I, S) := by
  obtain ⟨hd, rfl⟩ := mNx_ok hk
  have h : (v : Nat) = 0 ∧ rest (mls, mF 0 :: mst, I, S) := h
  obtain rfl : v = 0 := Fin.ext h.1
  exact st_fconst C.1.1 C.1.2.1 hd (hr _ h.2)
theorem ar_dconst {v : Fin 2} (C : mCx ρ p l e R s m args below meth c Qe y H0 S0 Sf D mcR msR r If) (hk : (mNx y (pc, .dconst v, a, b, k, n) 1 nx) = true) (hr : ∀ c', rest c' → (mPt ρ p l e R s m args below meth c Qe y H0 S0 Sf) nx c') (h : mAct (mRun D) y pc (mPt ρ p l e R s m args below meth c Qe y H0 S0 Sf) (mOne r If Sf) rest (mDo (pc, .dconst v, a, b, k, n) (mls, mst, I, S))) : (mPt ρ p l e R s m args below meth c Qe y H0 S0 Sf) pc (mls, mst, I, S) := by
  obtain ⟨hd, rfl⟩ := mNx_ok hk
  have h : (v : Nat) = 0 ∧ rest (mls, mD 0 :: mst, I, S) := h
  obtain rfl : v = 0 := Fin.ext h.1
  exact st_dconst C.1.1 C.1.2.1 hd (hr _ h.2)
theorem ar_dload {v : Nat} (C : mCx ρ p l e R s m args below meth c Qe y H0 S0 Sf D mcR msR r If) (hk : (mNx y (pc, .dload v, a, b, k, n) 2 nx && Nat.beq v a) = true) (hr : ∀ c', rest c' → (mPt ρ p l e R s m args below meth c Qe y H0 S0 Sf) nx c') (h : mAct (mRun D) y pc (mPt ρ p l e R s m args below meth c Qe y H0 S0 Sf) (mOne r If Sf) rest (mDo (pc, .dload v, a, b, k, n) (mls, mst, I, S))) : (mPt ρ p l e R s m args below meth c Qe y H0 S0 Sf) pc (mls, mst, I, S) := by
  rw [Bool.and_eq_true] at hk
  obtain ⟨hk, hv⟩ := hk
  obtain ⟨hd, rfl⟩ := mNx_ok hk
  obtain rfl : v = a := Nat.eq_of_beq_eq_true hv
  obtain ⟨x, hg, h⟩ := iv_lD h
  have h : True ∧ rest (mls, mD x :: mst, I, S) := h
  exact st_dload C.1.1 C.1.2.1 hd hg (hr _ h.2)
theorem ar_dstore {v : Nat} (C : mCx ρ p l e R s m args below meth c Qe y H0 S0 Sf D mcR msR r If) (hk : (mNx y (pc, .dstore v, a, b, k, n) 2 nx && Nat.beq v a && (Nat.beq y 413 && Nat.blt (a + 1) (mMaxL y) && !Nat.beq n 0)) = true) (hr : ∀ c', rest c' → (mPt ρ p l e R s m args below meth c Qe y H0 S0 Sf) nx c') (h : mAct (mRun D) y pc (mPt ρ p l e R s m args below meth c Qe y H0 S0 Sf) (mOne r If Sf) rest (mDo (pc, .dstore v, a, b, k, n) (mls, mst, I, S))) : (mPt ρ p l e R s m args below meth c Qe y H0 S0 Sf) pc (mls, mst, I, S) := by
  rw [Bool.and_eq_true] at hk
  obtain ⟨hk, hl⟩ := hk
  rw [Bool.and_eq_true] at hk
  obtain ⟨hk, hv⟩ := hk
  obtain ⟨hd, rfl⟩ := mNx_ok hk
  obtain rfl : v = a := Nat.eq_of_beq_eq_true hv
  simp only [Bool.and_eq_true] at hl
  obtain ⟨⟨hy, ha⟩, hn⟩ := hl
  obtain ⟨x, t, rfl, h⟩ := iv_D h
  have h : True ∧ rest (mOff (mPut n mls v (mD x)) (v + 1), t, I, S) := h
  have hn : n ≠ 0 := fun h9 => by subst h9; exact absurd hn (by decide)
  exact st_dstore C.1.1 C.1.2.1 (Nat.eq_of_beq_eq_true hy) (Nat.le_of_ble_eq_true ha) hd hn (hr _ h.2)
theorem ar_iload {v : Nat} (C : mCx ρ p l e R s m args below meth c Qe y H0 S0 Sf D mcR msR r If) (hk : (mNx y (pc, .iload v, a, b, k, n) 2 nx && Nat.beq v a) = true) (hr : ∀ c', rest c' → (mPt ρ p l e R s m args below meth c Qe y H0 S0 Sf) nx c') (h : mAct (mRun D) y pc (mPt ρ p l e R s m args below meth c Qe y H0 S0 Sf) (mOne r If Sf) rest (mDo (pc, .iload v, a, b, k, n) (mls, mst, I, S))) : (mPt ρ p l e R s m args below meth c Qe y H0 S0 Sf) pc (mls, mst, I, S) := by
  rw [Bool.and_eq_true] at hk
  obtain ⟨hk, hv⟩ := hk
  obtain ⟨hd, rfl⟩ := mNx_ok hk
  obtain rfl : v = a := Nat.eq_of_beq_eq_true hv
  obtain ⟨x, hg, h⟩ := iv_lI h
  have h : True ∧ rest (mls, mI x :: mst, I, S) := h
  exact st_iload C.1.1 C.1.2.1 hd hg (hr _ h.2)
theorem ar_iload_n {v : Fin 4} (C : mCx ρ p l e R s m args below meth c Qe y H0 S0 Sf D mcR msR r If) (hk : (mNx y (pc, .iload_n v, a, b, k, n) 1 nx && Nat.beq v a) = true) (hr : ∀ c', rest c' → (mPt ρ p l e R s m args below meth c Qe y H0 S0 Sf) nx c') (h : mAct (mRun D) y pc (mPt ρ p l e R s m args below meth c Qe y H0 S0 Sf) (mOne r If Sf) rest (mDo (pc, .iload_n v, a, b, k, n) (mls, mst, I, S))) : (mPt ρ p l e R s m args below meth c Qe y H0 S0 Sf) pc (mls, mst, I, S) := by
  rw [Bool.and_eq_true] at hk
  obtain ⟨hk, hv⟩ := hk
  obtain ⟨hd, rfl⟩ := mNx_ok hk
  have hv : (v : Nat) = a := Nat.eq_of_beq_eq_true hv
  obtain ⟨x, hg, h⟩ := iv_lI h
  have h : True ∧ rest (mls, mI x :: mst, I, S) := h
  exact st_iload_n C.1.1 C.1.2.1 hv hd hg (hr _ h.2)
theorem ar_aload {v : Nat} (C : mCx ρ p l e R s m args below meth c Qe y H0 S0 Sf D mcR msR r If) (hk : (mNx y (pc, .aload v, a, b, k, n) 2 nx && Nat.beq v a) = true) (hr : ∀ c', rest c' → (mPt ρ p l e R s m args below meth c Qe y H0 S0 Sf) nx c') (h : mAct (mRun D) y pc (mPt ρ p l e R s m args below meth c Qe y H0 S0 Sf) (mOne r If Sf) rest (mDo (pc, .aload v, a, b, k, n) (mls, mst, I, S))) : (mPt ρ p l e R s m args below meth c Qe y H0 S0 Sf) pc (mls, mst, I, S) := by
  rw [Bool.and_eq_true] at hk
  obtain ⟨hk, hv⟩ := hk
  obtain ⟨hd, rfl⟩ := mNx_ok hk
  obtain rfl : v = a := Nat.eq_of_beq_eq_true hv
  obtain ⟨w, hg, hw, h⟩ := iv_lA (f := fun w => eGo True (mls, w :: mst, I, S)) h
  have h : True ∧ rest (mls, w :: mst, I, S) := h
  rcases hw with ⟨x, rfl⟩ | ⟨x, rfl⟩
  · exact st_aload_r C.1.1 C.1.2.1 hd hg (hr _ h.2)
  · exact st_aload_s C.1.1 C.1.2.1 hd hg (hr _ h.2)
theorem ar_aload_n {v : Fin 4} (C : mCx ρ p l e R s m args below meth c Qe y H0 S0 Sf D mcR msR r If) (hk : (mNx y (pc, .aload_n v, a, b, k, n) 1 nx && Nat.beq v a) = true) (hr : ∀ c', rest c' → (mPt ρ p l e R s m args below meth c Qe y H0 S0 Sf) nx c') (h : mAct (mRun D) y pc (mPt ρ p l e R s m args below meth c Qe y H0 S0 Sf) (mOne r If Sf) rest (mDo (pc, .aload_n v, a, b, k, n) (mls, mst, I, S))) : (mPt ρ p l e R s m args below meth c Qe y H0 S0 Sf) pc (mls, mst, I, S) := by
  rw [Bool.and_eq_true] at hk
  obtain ⟨hk, hv⟩ := hk
  obtain ⟨hd, rfl⟩ := mNx_ok hk
  have hv : (v : Nat) = a := Nat.eq_of_beq_eq_true hv
  obtain ⟨w, hg, hw, h⟩ := iv_lA (f := fun w => eGo True (mls, w :: mst, I, S)) h
  have h : True ∧ rest (mls, w :: mst, I, S) := h
  rcases hw with ⟨x, rfl⟩ | ⟨x, rfl⟩
  · exact st_aload_n_r C.1.1 C.1.2.1 hv hd hg (hr _ h.2)
  · exact st_aload_n_s C.1.1 C.1.2.1 hv hd hg (hr _ h.2)
theorem ar_istore {v : Nat} (C : mCx ρ p l e R s m args below meth c Qe y H0 S0 Sf D mcR msR r If) (hk : (mNx y (pc, .istore v, a, b, k, n) 2 nx && Nat.beq v a && mLk y a n) = true) (hr : ∀ c', rest c' → (mPt ρ p l e R s m args below meth c Qe y H0 S0 Sf) nx c') (h : mAct (mRun D) y pc (mPt ρ p l e R s m args below meth c Qe y H0 S0 Sf) (mOne r If Sf) rest (mDo (pc, .istore v, a, b, k, n) (mls, mst, I, S))) : (mPt ρ p l e R s m args below meth c Qe y H0 S0 Sf) pc (mls, mst, I, S) := by
  rw [Bool.and_eq_true] at hk
  obtain ⟨hk, hl⟩ := hk
  rw [Bool.and_eq_true] at hk
  obtain ⟨hk, hv⟩ := hk
  obtain ⟨hd, rfl⟩ := mNx_ok hk
  obtain ⟨ha, hn⟩ := mLk_ok hl
  obtain rfl : v = a := Nat.eq_of_beq_eq_true hv
  obtain ⟨x, t, rfl, h⟩ := iv_I h
  have h : True ∧ rest (mPut n mls v (mI x), t, I, S) := h
  exact st_istore C.1.1 C.1.2.1 hd hn ha (hr _ h.2)
theorem ar_istore_n {v : Fin 4} (C : mCx ρ p l e R s m args below meth c Qe y H0 S0 Sf D mcR msR r If) (hk : (mNx y (pc, .istore_n v, a, b, k, n) 1 nx && Nat.beq v a && mLk y a n) = true) (hr : ∀ c', rest c' → (mPt ρ p l e R s m args below meth c Qe y H0 S0 Sf) nx c') (h : mAct (mRun D) y pc (mPt ρ p l e R s m args below meth c Qe y H0 S0 Sf) (mOne r If Sf) rest (mDo (pc, .istore_n v, a, b, k, n) (mls, mst, I, S))) : (mPt ρ p l e R s m args below meth c Qe y H0 S0 Sf) pc (mls, mst, I, S) := by
  rw [Bool.and_eq_true] at hk
  obtain ⟨hk, hl⟩ := hk
  rw [Bool.and_eq_true] at hk
  obtain ⟨hk, hv⟩ := hk
  obtain ⟨hd, rfl⟩ := mNx_ok hk
  obtain ⟨ha, hn⟩ := mLk_ok hl
  have hv : (v : Nat) = a := Nat.eq_of_beq_eq_true hv
  obtain ⟨x, t, rfl, h⟩ := iv_I h
  have h : True ∧ rest (mPut n mls a (mI x), t, I, S) := h
  exact st_istore_n C.1.1 C.1.2.1 hv hd hn ha (hr _ h.2)
theorem ar_astore {v : Nat} (C : mCx ρ p l e R s m args below meth c Qe y H0 S0 Sf D mcR msR r If) (hk : (mNx y (pc, .astore v, a, b, k, n) 2 nx && Nat.beq v a && mLk y a n) = true) (hr : ∀ c', rest c' → (mPt ρ p l e R s m args below meth c Qe y H0 S0 Sf) nx c') (h : mAct (mRun D) y pc (mPt ρ p l e R s m args below meth c Qe y H0 S0 Sf) (mOne r If Sf) rest (mDo (pc, .astore v, a, b, k, n) (mls, mst, I, S))) : (mPt ρ p l e R s m args below meth c Qe y H0 S0 Sf) pc (mls, mst, I, S) := by
  rw [Bool.and_eq_true] at hk
  obtain ⟨hk, hl⟩ := hk
  rw [Bool.and_eq_true] at hk
  obtain ⟨hk, hv⟩ := hk
  obtain ⟨hd, rfl⟩ := mNx_ok hk
  obtain ⟨ha, hn⟩ := mLk_ok hl
  obtain rfl : v = a := Nat.eq_of_beq_eq_true hv
  obtain ⟨w, t, rfl, hw, h⟩ := iv_A (f := fun w t => eGo True (mPut n mls v w, t, I, S)) h
  have h : True ∧ rest (mPut n mls v w, t, I, S) := h
  rcases hw with ⟨x, rfl⟩ | ⟨x, rfl⟩
  · exact st_astore_r C.1.1 C.1.2.1 hd hn ha (hr _ h.2)
  · exact st_astore_s C.1.1 C.1.2.1 hd hn ha (hr _ h.2)
theorem ar_astore_n {v : Fin 4} (C : mCx ρ p l e R s m args below meth c Qe y H0 S0 Sf D mcR msR r If) (hk : (mNx y (pc, .astore_n v, a, b, k, n) 1 nx && Nat.beq v a && mLk y a n) = true) (hr : ∀ c', rest c' → (mPt ρ p l e R s m args below meth c Qe y H0 S0 Sf) nx c') (h : mAct (mRun D) y pc (mPt ρ p l e R s m args below meth c Qe y H0 S0 Sf) (mOne r If Sf) rest (mDo (pc, .astore_n v, a, b, k, n) (mls, mst, I, S))) : (mPt ρ p l e R s m args below meth c Qe y H0 S0 Sf) pc (mls, mst, I, S) := by
  rw [Bool.and_eq_true] at hk
  obtain ⟨hk, hl⟩ := hk
  rw [Bool.and_eq_true] at hk
  obtain ⟨hk, hv⟩ := hk
  obtain ⟨hd, rfl⟩ := mNx_ok hk
  obtain ⟨ha, hn⟩ := mLk_ok hl
  have hv : (v : Nat) = a := Nat.eq_of_beq_eq_true hv
  obtain ⟨w, t, rfl, hw, h⟩ := iv_A (f := fun w t => eGo True (mPut n mls a w, t, I, S)) h
  have h : True ∧ rest (mPut n mls a w, t, I, S) := h
  rcases hw with ⟨x, rfl⟩ | ⟨x, rfl⟩
  · exact st_astore_n_r C.1.1 C.1.2.1 hv hd hn ha (hr _ h.2)
  · exact st_astore_n_s C.1.1 C.1.2.1 hv hd hn ha (hr _ h.2)
theorem ar_iinc {v : Nat} {w : Int} (C : mCx ρ p l e R s m args below meth c Qe y H0 S0 Sf D mcR msR r If) (hk : (mNx y (pc, .iinc v w, a, b, k, n) 3 nx && Nat.beq v a && mLk y a n) = true) (hr : ∀ c', rest c' → (mPt ρ p l e R s m args below meth c Qe y H0 S0 Sf) nx c') (h : mAct (mRun D) y pc (mPt ρ p l e R s m args below meth c Qe y H0 S0 Sf) (mOne r If Sf) rest (mDo (pc, .iinc v w, a, b, k, n) (mls, mst, I, S))) : (mPt ρ p l e R s m args below meth c Qe y H0 S0 Sf) pc (mls, mst, I, S) := by
  rw [Bool.and_eq_true] at hk
  obtain ⟨hk, hl⟩ := hk
  rw [Bool.and_eq_true] at hk
  obtain ⟨hk, hv⟩ := hk
  obtain ⟨hd, rfl⟩ := mNx_ok hk
  obtain ⟨ha, hn⟩ := mLk_ok hl
  obtain rfl : v = a := Nat.eq_of_beq_eq_true hv
  obtain ⟨x, hg, h⟩ := iv_lI h
  have h : True ∧ rest (mPut n mls v (mI (mWrap (x + w))), mst, I, S) := h
  exact st_iinc C.1.1 C.1.2.1 hd hn ha hg (hr _ h.2)
theorem ar_iadd  (C : mCx ρ p l e R s m args below meth c Qe y H0 S0 Sf D mcR msR r If) (hk : (mNx y (pc, .iadd, a, b, k, n) 1 nx) = true) (hr : ∀ c', rest c' → (mPt ρ p l e R s m args below meth c Qe y H0 S0 Sf) nx c') (h : mAct (mRun D) y pc (mPt ρ p l e R s m args below meth c Qe y H0 S0 Sf) (mOne r If Sf) rest (mDo (pc, .iadd, a, b, k, n) (mls, mst, I, S))) : (mPt ρ p l e R s m args below meth c Qe y H0 S0 Sf) pc (mls, mst, I, S) := by
  obtain ⟨hd, rfl⟩ := mNx_ok hk
  obtain ⟨x, w, t, rfl, h⟩ := iv_II h
  have h : (True) ∧ rest (mls, mI (mWrap (x + w)) :: t, I, S) := h
  exact st_iadd C.1.1 C.1.2.1  hd (hr _ h.2)
theorem ar_isub  (C : mCx ρ p l e R s m args below meth c Qe y H0 S0 Sf D mcR msR r If) (hk : (mNx y (pc, .isub, a, b, k, n) 1 nx) = true) (hr : ∀ c', rest c' → (mPt ρ p l e R s m args below meth c Qe y H0 S0 Sf) nx c') (h : mAct (mRun D) y pc (mPt ρ p l e R s m args below meth c Qe y H0 S0 Sf) (mOne r If Sf) rest (mDo (pc, .isub, a, b, k, n) (mls, mst, I, S))) : (mPt ρ p l e R s m args below meth c Qe y H0 S0 Sf) pc (mls, mst, I, S) := by
  obtain ⟨hd, rfl⟩ := mNx_ok hk
  obtain ⟨x, w, t, rfl, h⟩ := iv_II h
  have h : (True) ∧ rest (mls, mI (mWrap (x - w)) :: t, I, S) := h
  exact st_isub C.1.1 C.1.2.1  hd (hr _ h.2)
theorem ar_imul  (C : mCx ρ p l e R s m args below meth c Qe y H0 S0 Sf D mcR msR r If) (hk : (mNx y (pc, .imul, a, b, k, n) 1 nx) = true) (hr : ∀ c', rest c' → (mPt ρ p l e R s m args below meth c Qe y H0 S0 Sf) nx c') (h : mAct (mRun D) y pc (mPt ρ p l e R s m args below meth c Qe y H0 S0 Sf) (mOne r If Sf) rest (mDo (pc, .imul, a, b, k, n) (mls, mst, I, S))) : (mPt ρ p l e R s m args below meth c Qe y H0 S0 Sf) pc (mls, mst, I, S) := by
  obtain ⟨hd, rfl⟩ := mNx_ok hk
  obtain ⟨x, w, t, rfl, h⟩ := iv_II h
  have h : (True) ∧ rest (mls, mI (mWrap (x * w)) :: t, I, S) := h
  exact st_imul C.1.1 C.1.2.1  hd (hr _ h.2)
theorem ar_iand  (C : mCx ρ p l e R s m args below meth c Qe y H0 S0 Sf D mcR msR r If) (hk : (mNx y (pc, .iand, a, b, k, n) 1 nx) = true) (hr : ∀ c', rest c' → (mPt ρ p l e R s m args below meth c Qe y H0 S0 Sf) nx c') (h : mAct (mRun D) y pc (mPt ρ p l e R s m args below meth c Qe y H0 S0 Sf) (mOne r If Sf) rest (mDo (pc, .iand, a, b, k, n) (mls, mst, I, S))) : (mPt ρ p l e R s m args below meth c Qe y H0 S0 Sf) pc (mls, mst, I, S) := by
  obtain ⟨hd, rfl⟩ := mNx_ok hk
  obtain ⟨x, w, t, rfl, h⟩ := iv_II h
  have h : (True) ∧ rest (mls, mI (mAnd x w) :: t, I, S) := h
  exact st_iand C.1.1 C.1.2.1  hd (hr _ h.2)
theorem ar_iushr  (C : mCx ρ p l e R s m args below meth c Qe y H0 S0 Sf D mcR msR r If) (hk : (mNx y (pc, .iushr, a, b, k, n) 1 nx) = true) (hr : ∀ c', rest c' → (mPt ρ p l e R s m args below meth c Qe y H0 S0 Sf) nx c') (h : mAct (mRun D) y pc (mPt ρ p l e R s m args below meth c Qe y H0 S0 Sf) (mOne r If Sf) rest (mDo (pc, .iushr, a, b, k, n) (mls, mst, I, S))) : (mPt ρ p l e R s m args below meth c Qe y H0 S0 Sf) pc (mls, mst, I, S) := by
  obtain ⟨hd, rfl⟩ := mNx_ok hk
  obtain ⟨x, w, t, rfl, h⟩ := iv_II h
  have h : (True) ∧ rest (mls, mI (mShr x w) :: t, I, S) := h
  exact st_iushr C.1.1 C.1.2.1  hd (hr _ h.2)
theorem ar_idiv  (C : mCx ρ p l e R s m args below meth c Qe y H0 S0 Sf D mcR msR r If) (hk : (mNx y (pc, .idiv, a, b, k, n) 1 nx) = true) (hr : ∀ c', rest c' → (mPt ρ p l e R s m args below meth c Qe y H0 S0 Sf) nx c') (h : mAct (mRun D) y pc (mPt ρ p l e R s m args below meth c Qe y H0 S0 Sf) (mOne r If Sf) rest (mDo (pc, .idiv, a, b, k, n) (mls, mst, I, S))) : (mPt ρ p l e R s m args below meth c Qe y H0 S0 Sf) pc (mls, mst, I, S) := by
  obtain ⟨hd, rfl⟩ := mNx_ok hk
  obtain ⟨x, w, t, rfl, h⟩ := iv_II h
  have h : (w ≠ 0) ∧ rest (mls, mI (mWrap (x.tdiv w)) :: t, I, S) := h
  exact st_idiv C.1.1 C.1.2.1 h.1 hd (hr _ h.2)
theorem ar_irem  (C : mCx ρ p l e R s m args below meth c Qe y H0 S0 Sf D mcR msR r If) (hk : (mNx y (pc, .irem, a, b, k, n) 1 nx) = true) (hr : ∀ c', rest c' → (mPt ρ p l e R s m args below meth c Qe y H0 S0 Sf) nx c') (h : mAct (mRun D) y pc (mPt ρ p l e R s m args below meth c Qe y H0 S0 Sf) (mOne r If Sf) rest (mDo (pc, .irem, a, b, k, n) (mls, mst, I, S))) : (mPt ρ p l e R s m args below meth c Qe y H0 S0 Sf) pc (mls, mst, I, S) := by
  obtain ⟨hd, rfl⟩ := mNx_ok hk
  obtain ⟨x, w, t, rfl, h⟩ := iv_II h
  have h : (w ≠ 0) ∧ rest (mls, mI (x.tmod w) :: t, I, S) := h
  exact st_irem C.1.1 C.1.2.1 h.1 hd (hr _ h.2)
theorem ar_ineg  (C : mCx ρ p l e R s m args below meth c Qe y H0 S0 Sf D mcR msR r If) (hk : (mNx y (pc, .ineg, a, b, k, n) 1 nx) = true) (hr : ∀ c', rest c' → (mPt ρ p l e R s m args below meth c Qe y H0 S0 Sf) nx c') (h : mAct (mRun D) y pc (mPt ρ p l e R s m args below meth c Qe y H0 S0 Sf) (mOne r If Sf) rest (mDo (pc, .ineg, a, b, k, n) (mls, mst, I, S))) : (mPt ρ p l e R s m args below meth c Qe y H0 S0 Sf) pc (mls, mst, I, S) := by
  obtain ⟨hd, rfl⟩ := mNx_ok hk
  obtain ⟨x, t, rfl, h⟩ := iv_I h
  have h : True ∧ rest (mls, mI (mWrap (-x)) :: t, I, S) := h
  exact st_ineg C.1.1 C.1.2.1 hd (hr _ h.2)
theorem ar_i2l  (C : mCx ρ p l e R s m args below meth c Qe y H0 S0 Sf D mcR msR r If) (hk : (mNx y (pc, .i2l, a, b, k, n) 1 nx) = true) (hr : ∀ c', rest c' → (mPt ρ p l e R s m args below meth c Qe y H0 S0 Sf) nx c') (h : mAct (mRun D) y pc (mPt ρ p l e R s m args below meth c Qe y H0 S0 Sf) (mOne r If Sf) rest (mDo (pc, .i2l, a, b, k, n) (mls, mst, I, S))) : (mPt ρ p l e R s m args below meth c Qe y H0 S0 Sf) pc (mls, mst, I, S) := by
  obtain ⟨hd, rfl⟩ := mNx_ok hk
  obtain ⟨x, t, rfl, h⟩ := iv_I h
  have h : True ∧ rest (mls, mL x :: t, I, S) := h
  exact st_i2l C.1.1 C.1.2.1 hd (hr _ h.2)
theorem ar_i2c  (C : mCx ρ p l e R s m args below meth c Qe y H0 S0 Sf D mcR msR r If) (hk : (mNx y (pc, .i2c, a, b, k, n) 1 nx) = true) (hr : ∀ c', rest c' → (mPt ρ p l e R s m args below meth c Qe y H0 S0 Sf) nx c') (h : mAct (mRun D) y pc (mPt ρ p l e R s m args below meth c Qe y H0 S0 Sf) (mOne r If Sf) rest (mDo (pc, .i2c, a, b, k, n) (mls, mst, I, S))) : (mPt ρ p l e R s m args below meth c Qe y H0 S0 Sf) pc (mls, mst, I, S) := by
  obtain ⟨hd, rfl⟩ := mNx_ok hk
  obtain ⟨x, t, rfl, h⟩ := iv_I h
  have h : True ∧ rest (mls, mI (x % 65536) :: t, I, S) := h
  exact st_i2c C.1.1 C.1.2.1 hd (hr _ h.2)
theorem ar_i2f  (C : mCx ρ p l e R s m args below meth c Qe y H0 S0 Sf D mcR msR r If) (hk : (mNx y (pc, .i2f, a, b, k, n) 1 nx) = true) (hr : ∀ c', rest c' → (mPt ρ p l e R s m args below meth c Qe y H0 S0 Sf) nx c') (h : mAct (mRun D) y pc (mPt ρ p l e R s m args below meth c Qe y H0 S0 Sf) (mOne r If Sf) rest (mDo (pc, .i2f, a, b, k, n) (mls, mst, I, S))) : (mPt ρ p l e R s m args below meth c Qe y H0 S0 Sf) pc (mls, mst, I, S) := by
  obtain ⟨hd, rfl⟩ := mNx_ok hk
  obtain ⟨x, t, rfl, h⟩ := iv_I h
  have h : True ∧ rest (mls, mF (FP.i2f (Int32.ofInt x)) :: t, I, S) := h
  exact st_i2f C.1.1 C.1.2.1 hd (hr _ h.2)
theorem ar_i2d  (C : mCx ρ p l e R s m args below meth c Qe y H0 S0 Sf D mcR msR r If) (hk : (mNx y (pc, .i2d, a, b, k, n) 1 nx) = true) (hr : ∀ c', rest c' → (mPt ρ p l e R s m args below meth c Qe y H0 S0 Sf) nx c') (h : mAct (mRun D) y pc (mPt ρ p l e R s m args below meth c Qe y H0 S0 Sf) (mOne r If Sf) rest (mDo (pc, .i2d, a, b, k, n) (mls, mst, I, S))) : (mPt ρ p l e R s m args below meth c Qe y H0 S0 Sf) pc (mls, mst, I, S) := by
  obtain ⟨hd, rfl⟩ := mNx_ok hk
  obtain ⟨x, t, rfl, h⟩ := iv_I h
  have h : True ∧ rest (mls, mD (FP.i2d (Int32.ofInt x)) :: t, I, S) := h
  exact st_i2d C.1.1 C.1.2.1 hd (hr _ h.2)
theorem ar_f2d  (C : mCx ρ p l e R s m args below meth c Qe y H0 S0 Sf D mcR msR r If) (hk : (mNx y (pc, .f2d, a, b, k, n) 1 nx) = true) (hr : ∀ c', rest c' → (mPt ρ p l e R s m args below meth c Qe y H0 S0 Sf) nx c') (h : mAct (mRun D) y pc (mPt ρ p l e R s m args below meth c Qe y H0 S0 Sf) (mOne r If Sf) rest (mDo (pc, .f2d, a, b, k, n) (mls, mst, I, S))) : (mPt ρ p l e R s m args below meth c Qe y H0 S0 Sf) pc (mls, mst, I, S) := by
  obtain ⟨hd, rfl⟩ := mNx_ok hk
  obtain ⟨x, t, rfl, h⟩ := iv_F h
  have h : vf_n64 (FP.f2d x) ∧ rest (mls, mD (FP.f2d x) :: t, I, S) := h
  exact st_f2d C.1.1 C.1.2.1 h.1 hd (hr _ h.2)
theorem ar_lcmp  (C : mCx ρ p l e R s m args below meth c Qe y H0 S0 Sf D mcR msR r If) (hk : (mNx y (pc, .lcmp, a, b, k, n) 1 nx) = true) (hr : ∀ c', rest c' → (mPt ρ p l e R s m args below meth c Qe y H0 S0 Sf) nx c') (h : mAct (mRun D) y pc (mPt ρ p l e R s m args below meth c Qe y H0 S0 Sf) (mOne r If Sf) rest (mDo (pc, .lcmp, a, b, k, n) (mls, mst, I, S))) : (mPt ρ p l e R s m args below meth c Qe y H0 S0 Sf) pc (mls, mst, I, S) := by
  obtain ⟨hd, rfl⟩ := mNx_ok hk
  obtain ⟨x, w, t, rfl, h⟩ := iv_LL h
  have h : True ∧ rest (mls, mI (mCmp x w) :: t, I, S) := h
  exact st_lcmp C.1.1 C.1.2.1 hd (hr _ h.2)
theorem ar_dcmp {o : CmpOp} (C : mCx ρ p l e R s m args below meth c Qe y H0 S0 Sf D mcR msR r If) (hk : (mNx y (pc, .dcmp o, a, b, k, n) 1 nx) = true) (hr : ∀ c', rest c' → (mPt ρ p l e R s m args below meth c Qe y H0 S0 Sf) nx c') (h : mAct (mRun D) y pc (mPt ρ p l e R s m args below meth c Qe y H0 S0 Sf) (mOne r If Sf) rest (mDo (pc, .dcmp o, a, b, k, n) (mls, mst, I, S))) : (mPt ρ p l e R s m args below meth c Qe y H0 S0 Sf) pc (mls, mst, I, S) := by
  obtain ⟨hd, rfl⟩ := mNx_ok hk
  obtain ⟨x, w, t, rfl, h⟩ := iv_DD h
  have h : True ∧ rest (mls, mI (Op.cmpValue (FP.dcmp x w) o).toInt :: t, I, S) := h
  exact st_dcmp C.1.1 C.1.2.1 hd (hr _ h.2)
theorem ar_fdiv  (C : mCx ρ p l e R s m args below meth c Qe y H0 S0 Sf D mcR msR r If) (hk : (mNx y (pc, .fdiv, a, b, k, n) 1 nx) = true) (hr : ∀ c', rest c' → (mPt ρ p l e R s m args below meth c Qe y H0 S0 Sf) nx c') (h : mAct (mRun D) y pc (mPt ρ p l e R s m args below meth c Qe y H0 S0 Sf) (mOne r If Sf) rest (mDo (pc, .fdiv, a, b, k, n) (mls, mst, I, S))) : (mPt ρ p l e R s m args below meth c Qe y H0 S0 Sf) pc (mls, mst, I, S) := by
  obtain ⟨hd, rfl⟩ := mNx_ok hk
  obtain ⟨x, w, t, rfl, h⟩ := iv_FF h
  have h : vf_n32 (FP.fdiv x w) ∧ rest (mls, mF (FP.fdiv x w) :: t, I, S) := h
  exact st_fdiv C.1.1 C.1.2.1 h.1 hd (hr _ h.2)
theorem ar_ddiv  (C : mCx ρ p l e R s m args below meth c Qe y H0 S0 Sf D mcR msR r If) (hk : (mNx y (pc, .ddiv, a, b, k, n) 1 nx) = true) (hr : ∀ c', rest c' → (mPt ρ p l e R s m args below meth c Qe y H0 S0 Sf) nx c') (h : mAct (mRun D) y pc (mPt ρ p l e R s m args below meth c Qe y H0 S0 Sf) (mOne r If Sf) rest (mDo (pc, .ddiv, a, b, k, n) (mls, mst, I, S))) : (mPt ρ p l e R s m args below meth c Qe y H0 S0 Sf) pc (mls, mst, I, S) := by
  obtain ⟨hd, rfl⟩ := mNx_ok hk
  obtain ⟨x, w, t, rfl, h⟩ := iv_DD h
  have h : vf_n64 (FP.ddiv x w) ∧ rest (mls, mD (FP.ddiv x w) :: t, I, S) := h
  exact st_ddiv C.1.1 C.1.2.1 h.1 hd (hr _ h.2)
theorem ar_dup  (C : mCx ρ p l e R s m args below meth c Qe y H0 S0 Sf D mcR msR r If) (hk : (mNx y (pc, .dup, a, b, k, n) 1 nx) = true) (hr : ∀ c', rest c' → (mPt ρ p l e R s m args below meth c Qe y H0 S0 Sf) nx c') (h : mAct (mRun D) y pc (mPt ρ p l e R s m args below meth c Qe y H0 S0 Sf) (mOne r If Sf) rest (mDo (pc, .dup, a, b, k, n) (mls, mst, I, S))) : (mPt ρ p l e R s m args below meth c Qe y H0 S0 Sf) pc (mls, mst, I, S) := by
  obtain ⟨hd, rfl⟩ := mNx_ok hk
  obtain ⟨x, t, rfl, hw, h⟩ := iv_X (f := fun x t => eGo True (mls, x :: x :: t, I, S)) h
  have h : True ∧ rest (mls, x :: x :: t, I, S) := h
  exact st_dup C.1.1 C.1.2.1 hw.1 hw.2 hd (hr _ h.2)
theorem ar_pop  (C : mCx ρ p l e R s m args below meth c Qe y H0 S0 Sf D mcR msR r If) (hk : (mNx y (pc, .pop, a, b, k, n) 1 nx) = true) (hr : ∀ c', rest c' → (mPt ρ p l e R s m args below meth c Qe y H0 S0 Sf) nx c') (h : mAct (mRun D) y pc (mPt ρ p l e R s m args below meth c Qe y H0 S0 Sf) (mOne r If Sf) rest (mDo (pc, .pop, a, b, k, n) (mls, mst, I, S))) : (mPt ρ p l e R s m args below meth c Qe y H0 S0 Sf) pc (mls, mst, I, S) := by
  obtain ⟨hd, rfl⟩ := mNx_ok hk
  obtain ⟨x, t, rfl, hw, h⟩ := iv_X (f := fun _ t => eGo True (mls, t, I, S)) h
  have h : True ∧ rest (mls, t, I, S) := h
  exact st_pop C.1.1 C.1.2.1 hw.1 hw.2 hd (hr _ h.2)
theorem ar_if_eq {off : Int} (C : mCx ρ p l e R s m args below meth c Qe y H0 S0 Sf D mcR msR r If) (hk : (mNx y (pc, .ifCond .eq off, a, b, k, n) 3 nx && mJt pc off a) = true) (hr : ∀ c', rest c' → (mPt ρ p l e R s m args below meth c Qe y H0 S0 Sf) nx c') (h : mAct (mRun D) y pc (mPt ρ p l e R s m args below meth c Qe y H0 S0 Sf) (mOne r If Sf) rest (mDo (pc, .ifCond .eq off, a, b, k, n) (mls, mst, I, S))) : (mPt ρ p l e R s m args below meth c Qe y H0 S0 Sf) pc (mls, mst, I, S) := by
  rw [Bool.and_eq_true] at hk
  obtain ⟨hk, hj⟩ := hk
  obtain ⟨hd, rfl⟩ := mNx_ok hk
  obtain ⟨x, t, rfl, h⟩ := iv_I h
  have h : (mHold .eq x 0 → (mPt ρ p l e R s m args below meth c Qe y H0 S0 Sf) a (mls, t, I, S)) ∧ (¬ mHold .eq x 0 → rest (mls, t, I, S)) := h
  exact st_if_eq C.1.1 C.1.2.1 (of_decide_eq_true hj) hd h.1 (fun z => hr _ (h.2 z))
theorem ar_icmp_eq {off : Int} (C : mCx ρ p l e R s m args below meth c Qe y H0 S0 Sf D mcR msR r If) (hk : (mNx y (pc, .if_icmp .eq off, a, b, k, n) 3 nx && mJt pc off a) = true) (hr : ∀ c', rest c' → (mPt ρ p l e R s m args below meth c Qe y H0 S0 Sf) nx c') (h : mAct (mRun D) y pc (mPt ρ p l e R s m args below meth c Qe y H0 S0 Sf) (mOne r If Sf) rest (mDo (pc, .if_icmp .eq off, a, b, k, n) (mls, mst, I, S))) : (mPt ρ p l e R s m args below meth c Qe y H0 S0 Sf) pc (mls, mst, I, S) := by
  rw [Bool.and_eq_true] at hk
  obtain ⟨hk, hj⟩ := hk
  obtain ⟨hd, rfl⟩ := mNx_ok hk
  obtain ⟨x, w, t, rfl, h⟩ := iv_II h
  have h : (mHold .eq x w → (mPt ρ p l e R s m args below meth c Qe y H0 S0 Sf) a (mls, t, I, S)) ∧ (¬ mHold .eq x w → rest (mls, t, I, S)) := h
  exact st_icmp_eq C.1.1 C.1.2.1 (of_decide_eq_true hj) hd h.1 (fun z => hr _ (h.2 z))
theorem ar_if_ne {off : Int} (C : mCx ρ p l e R s m args below meth c Qe y H0 S0 Sf D mcR msR r If) (hk : (mNx y (pc, .ifCond .ne off, a, b, k, n) 3 nx && mJt pc off a) = true) (hr : ∀ c', rest c' → (mPt ρ p l e R s m args below meth c Qe y H0 S0 Sf) nx c') (h : mAct (mRun D) y pc (mPt ρ p l e R s m args below meth c Qe y H0 S0 Sf) (mOne r If Sf) rest (mDo (pc, .ifCond .ne off, a, b, k, n) (mls, mst, I, S))) : (mPt ρ p l e R s m args below meth c Qe y H0 S0 Sf) pc (mls, mst, I, S) := by
  rw [Bool.and_eq_true] at hk
  obtain ⟨hk, hj⟩ := hk
  obtain ⟨hd, rfl⟩ := mNx_ok hk
  obtain ⟨x, t, rfl, h⟩ := iv_I h
  have h : (mHold .ne x 0 → (mPt ρ p l e R s m args below meth c Qe y H0 S0 Sf) a (mls, t, I, S)) ∧ (¬ mHold .ne x 0 → rest (mls, t, I, S)) := h
  exact st_if_ne C.1.1 C.1.2.1 (of_decide_eq_true hj) hd h.1 (fun z => hr _ (h.2 z))
theorem ar_icmp_ne {off : Int} (C : mCx ρ p l e R s m args below meth c Qe y H0 S0 Sf D mcR msR r If) (hk : (mNx y (pc, .if_icmp .ne off, a, b, k, n) 3 nx && mJt pc off a) = true) (hr : ∀ c', rest c' → (mPt ρ p l e R s m args below meth c Qe y H0 S0 Sf) nx c') (h : mAct (mRun D) y pc (mPt ρ p l e R s m args below meth c Qe y H0 S0 Sf) (mOne r If Sf) rest (mDo (pc, .if_icmp .ne off, a, b, k, n) (mls, mst, I, S))) : (mPt ρ p l e R s m args below meth c Qe y H0 S0 Sf) pc (mls, mst, I, S) := by
  rw [Bool.and_eq_true] at hk
  obtain ⟨hk, hj⟩ := hk
  obtain ⟨hd, rfl⟩ := mNx_ok hk
  obtain ⟨x, w, t, rfl, h⟩ := iv_II h
  have h : (mHold .ne x w → (mPt ρ p l e R s m args below meth c Qe y H0 S0 Sf) a (mls, t, I, S)) ∧ (¬ mHold .ne x w → rest (mls, t, I, S)) := h
  exact st_icmp_ne C.1.1 C.1.2.1 (of_decide_eq_true hj) hd h.1 (fun z => hr _ (h.2 z))
theorem ar_if_lt {off : Int} (C : mCx ρ p l e R s m args below meth c Qe y H0 S0 Sf D mcR msR r If) (hk : (mNx y (pc, .ifCond .lt off, a, b, k, n) 3 nx && mJt pc off a) = true) (hr : ∀ c', rest c' → (mPt ρ p l e R s m args below meth c Qe y H0 S0 Sf) nx c') (h : mAct (mRun D) y pc (mPt ρ p l e R s m args below meth c Qe y H0 S0 Sf) (mOne r If Sf) rest (mDo (pc, .ifCond .lt off, a, b, k, n) (mls, mst, I, S))) : (mPt ρ p l e R s m args below meth c Qe y H0 S0 Sf) pc (mls, mst, I, S) := by
  rw [Bool.and_eq_true] at hk
  obtain ⟨hk, hj⟩ := hk
  obtain ⟨hd, rfl⟩ := mNx_ok hk
  obtain ⟨x, t, rfl, h⟩ := iv_I h
  have h : (mHold .lt x 0 → (mPt ρ p l e R s m args below meth c Qe y H0 S0 Sf) a (mls, t, I, S)) ∧ (¬ mHold .lt x 0 → rest (mls, t, I, S)) := h
  exact st_if_lt C.1.1 C.1.2.1 (of_decide_eq_true hj) hd h.1 (fun z => hr _ (h.2 z))
theorem ar_icmp_lt {off : Int} (C : mCx ρ p l e R s m args below meth c Qe y H0 S0 Sf D mcR msR r If) (hk : (mNx y (pc, .if_icmp .lt off, a, b, k, n) 3 nx && mJt pc off a) = true) (hr : ∀ c', rest c' → (mPt ρ p l e R s m args below meth c Qe y H0 S0 Sf) nx c') (h : mAct (mRun D) y pc (mPt ρ p l e R s m args below meth c Qe y H0 S0 Sf) (mOne r If Sf) rest (mDo (pc, .if_icmp .lt off, a, b, k, n) (mls, mst, I, S))) : (mPt ρ p l e R s m args below meth c Qe y H0 S0 Sf) pc (mls, mst, I, S) := by
  rw [Bool.and_eq_true] at hk
  obtain ⟨hk, hj⟩ := hk
  obtain ⟨hd, rfl⟩ := mNx_ok hk
  obtain ⟨x, w, t, rfl, h⟩ := iv_II h
  have h : (mHold .lt x w → (mPt ρ p l e R s m args below meth c Qe y H0 S0 Sf) a (mls, t, I, S)) ∧ (¬ mHold .lt x w → rest (mls, t, I, S)) := h
  exact st_icmp_lt C.1.1 C.1.2.1 (of_decide_eq_true hj) hd h.1 (fun z => hr _ (h.2 z))
theorem ar_if_ge {off : Int} (C : mCx ρ p l e R s m args below meth c Qe y H0 S0 Sf D mcR msR r If) (hk : (mNx y (pc, .ifCond .ge off, a, b, k, n) 3 nx && mJt pc off a) = true) (hr : ∀ c', rest c' → (mPt ρ p l e R s m args below meth c Qe y H0 S0 Sf) nx c') (h : mAct (mRun D) y pc (mPt ρ p l e R s m args below meth c Qe y H0 S0 Sf) (mOne r If Sf) rest (mDo (pc, .ifCond .ge off, a, b, k, n) (mls, mst, I, S))) : (mPt ρ p l e R s m args below meth c Qe y H0 S0 Sf) pc (mls, mst, I, S) := by
  rw [Bool.and_eq_true] at hk
  obtain ⟨hk, hj⟩ := hk
  obtain ⟨hd, rfl⟩ := mNx_ok hk
  obtain ⟨x, t, rfl, h⟩ := iv_I h
  have h : (mHold .ge x 0 → (mPt ρ p l e R s m args below meth c Qe y H0 S0 Sf) a (mls, t, I, S)) ∧ (¬ mHold .ge x 0 → rest (mls, t, I, S)) := h
  exact st_if_ge C.1.1 C.1.2.1 (of_decide_eq_true hj) hd h.1 (fun z => hr _ (h.2 z))
theorem ar_icmp_ge {off : Int} (C : mCx ρ p l e R s m args below meth c Qe y H0 S0 Sf D mcR msR r If) (hk : (mNx y (pc, .if_icmp .ge off, a, b, k, n) 3 nx && mJt pc off a) = true) (hr : ∀ c', rest c' → (mPt ρ p l e R s m args below meth c Qe y H0 S0 Sf) nx c') (h : mAct (mRun D) y pc (mPt ρ p l e R s m args below meth c Qe y H0 S0 Sf) (mOne r If Sf) rest (mDo (pc, .if_icmp .ge off, a, b, k, n) (mls, mst, I, S))) : (mPt ρ p l e R s m args below meth c Qe y H0 S0 Sf) pc (mls, mst, I, S) := by
  rw [Bool.and_eq_true] at hk
  obtain ⟨hk, hj⟩ := hk
  obtain ⟨hd, rfl⟩ := mNx_ok hk
  obtain ⟨x, w, t, rfl, h⟩ := iv_II h
  have h : (mHold .ge x w → (mPt ρ p l e R s m args below meth c Qe y H0 S0 Sf) a (mls, t, I, S)) ∧ (¬ mHold .ge x w → rest (mls, t, I, S)) := h
  exact st_icmp_ge C.1.1 C.1.2.1 (of_decide_eq_true hj) hd h.1 (fun z => hr _ (h.2 z))
theorem ar_if_gt {off : Int} (C : mCx ρ p l e R s m args below meth c Qe y H0 S0 Sf D mcR msR r If) (hk : (mNx y (pc, .ifCond .gt off, a, b, k, n) 3 nx && mJt pc off a) = true) (hr : ∀ c', rest c' → (mPt ρ p l e R s m args below meth c Qe y H0 S0 Sf) nx c') (h : mAct (mRun D) y pc (mPt ρ p l e R s m args below meth c Qe y H0 S0 Sf) (mOne r If Sf) rest (mDo (pc, .ifCond .gt off, a, b, k, n) (mls, mst, I, S))) : (mPt ρ p l e R s m args below meth c Qe y H0 S0 Sf) pc (mls, mst, I, S) := by
  rw [Bool.and_eq_true] at hk
  obtain ⟨hk, hj⟩ := hk
  obtain ⟨hd, rfl⟩ := mNx_ok hk
  obtain ⟨x, t, rfl, h⟩ := iv_I h
  have h : (mHold .gt x 0 → (mPt ρ p l e R s m args below meth c Qe y H0 S0 Sf) a (mls, t, I, S)) ∧ (¬ mHold .gt x 0 → rest (mls, t, I, S)) := h
  exact st_if_gt C.1.1 C.1.2.1 (of_decide_eq_true hj) hd h.1 (fun z => hr _ (h.2 z))
theorem ar_icmp_gt {off : Int} (C : mCx ρ p l e R s m args below meth c Qe y H0 S0 Sf D mcR msR r If) (hk : (mNx y (pc, .if_icmp .gt off, a, b, k, n) 3 nx && mJt pc off a) = true) (hr : ∀ c', rest c' → (mPt ρ p l e R s m args below meth c Qe y H0 S0 Sf) nx c') (h : mAct (mRun D) y pc (mPt ρ p l e R s m args below meth c Qe y H0 S0 Sf) (mOne r If Sf) rest (mDo (pc, .if_icmp .gt off, a, b, k, n) (mls, mst, I, S))) : (mPt ρ p l e R s m args below meth c Qe y H0 S0 Sf) pc (mls, mst, I, S) := by
  rw [Bool.and_eq_true] at hk
  obtain ⟨hk, hj⟩ := hk
  obtain ⟨hd, rfl⟩ := mNx_ok hk
  obtain ⟨x, w, t, rfl, h⟩ := iv_II h
  have h : (mHold .gt x w → (mPt ρ p l e R s m args below meth c Qe y H0 S0 Sf) a (mls, t, I, S)) ∧ (¬ mHold .gt x w → rest (mls, t, I, S)) := h
  exact st_icmp_gt C.1.1 C.1.2.1 (of_decide_eq_true hj) hd h.1 (fun z => hr _ (h.2 z))
theorem ar_if_le {off : Int} (C : mCx ρ p l e R s m args below meth c Qe y H0 S0 Sf D mcR msR r If) (hk : (mNx y (pc, .ifCond .le off, a, b, k, n) 3 nx && mJt pc off a) = true) (hr : ∀ c', rest c' → (mPt ρ p l e R s m args below meth c Qe y H0 S0 Sf) nx c') (h : mAct (mRun D) y pc (mPt ρ p l e R s m args below meth c Qe y H0 S0 Sf) (mOne r If Sf) rest (mDo (pc, .ifCond .le off, a, b, k, n) (mls, mst, I, S))) : (mPt ρ p l e R s m args below meth c Qe y H0 S0 Sf) pc (mls, mst, I, S) := by
  rw [Bool.and_eq_true] at hk
  obtain ⟨hk, hj⟩ := hk
  obtain ⟨hd, rfl⟩ := mNx_ok hk
  obtain ⟨x, t, rfl, h⟩ := iv_I h
  have h : (mHold .le x 0 → (mPt ρ p l e R s m args below meth c Qe y H0 S0 Sf) a (mls, t, I, S)) ∧ (¬ mHold .le x 0 → rest (mls, t, I, S)) := h
  exact st_if_le C.1.1 C.1.2.1 (of_decide_eq_true hj) hd h.1 (fun z => hr _ (h.2 z))
theorem ar_icmp_le {off : Int} (C : mCx ρ p l e R s m args below meth c Qe y H0 S0 Sf D mcR msR r If) (hk : (mNx y (pc, .if_icmp .le off, a, b, k, n) 3 nx && mJt pc off a) = true) (hr : ∀ c', rest c' → (mPt ρ p l e R s m args below meth c Qe y H0 S0 Sf) nx c') (h : mAct (mRun D) y pc (mPt ρ p l e R s m args below meth c Qe y H0 S0 Sf) (mOne r If Sf) rest (mDo (pc, .if_icmp .le off, a, b, k, n) (mls, mst, I, S))) : (mPt ρ p l e R s m args below meth c Qe y H0 S0 Sf) pc (mls, mst, I, S) := by
  rw [Bool.and_eq_true] at hk
  obtain ⟨hk, hj⟩ := hk
  obtain ⟨hd, rfl⟩ := mNx_ok hk
  obtain ⟨x, w, t, rfl, h⟩ := iv_II h
  have h : (mHold .le x w → (mPt ρ p l e R s m args below meth c Qe y H0 S0 Sf) a (mls, t, I, S)) ∧ (¬ mHold .le x w → rest (mls, t, I, S)) := h
  exact st_icmp_le C.1.1 C.1.2.1 (of_decide_eq_true hj) hd h.1 (fun z => hr _ (h.2 z))
theorem ar_goto {off : Int} (C : mCx ρ p l e R s m args below meth c Qe y H0 S0 Sf D mcR msR r If) (hk : (mDc y (pc, .goto off, a, b, k, n) 3 && mJt pc off a) = true) (hr : ∀ c', rest c' → (mPt ρ p l e R s m args below meth c Qe y H0 S0 Sf) nx c') (h : mAct (mRun D) y pc (mPt ρ p l e R s m args below meth c Qe y H0 S0 Sf) (mOne r If Sf) rest (mDo (pc, .goto off, a, b, k, n) (mls, mst, I, S))) : (mPt ρ p l e R s m args below meth c Qe y H0 S0 Sf) pc (mls, mst, I, S) := by
  rw [Bool.and_eq_true] at hk
  obtain ⟨hk, hj⟩ := hk
  have hd := mDc_ok hk
  have h : (mPt ρ p l e R s m args below meth c Qe y H0 S0 Sf) a (mls, mst, I, S) := h
  exact st_goto C.1.1 C.1.2.1 (of_decide_eq_true hj) hd h
theorem ar_baload  (C : mCx ρ p l e R s m args below meth c Qe y H0 S0 Sf D mcR msR r If) (hk : (mNx y (pc, .baload, a, b, k, n) 1 nx) = true) (hr : ∀ c', rest c' → (mPt ρ p l e R s m args below meth c Qe y H0 S0 Sf) nx c') (h : mAct (mRun D) y pc (mPt ρ p l e R s m args below meth c Qe y H0 S0 Sf) (mOne r If Sf) rest (mDo (pc, .baload, a, b, k, n) (mls, mst, I, S))) : (mPt ρ p l e R s m args below meth c Qe y H0 S0 Sf) pc (mls, mst, I, S) := by
  obtain ⟨hd, rfl⟩ := mNx_ok hk
  obtain ⟨x, i, t, rfl, h⟩ := iv_RI h
  have h : (S.2.1 x = 51 ∧ 0 ≤ i ∧ i < S.2.2.1 x) ∧ rest (mls, mI (I x i) :: t, I, S) := h
  exact st_baload C.1.1 C.1.2.1 h.1.1 h.1.2.1 h.1.2.2 hd (hr _ h.2)
theorem ar_caload  (C : mCx ρ p l e R s m args below meth c Qe y H0 S0 Sf D mcR msR r If) (hk : (mNx y (pc, .caload, a, b, k, n) 1 nx) = true) (hr : ∀ c', rest c' → (mPt ρ p l e R s m args below meth c Qe y H0 S0 Sf) nx c') (h : mAct (mRun D) y pc (mPt ρ p l e R s m args below meth c Qe y H0 S0 Sf) (mOne r If Sf) rest (mDo (pc, .caload, a, b, k, n) (mls, mst, I, S))) : (mPt ρ p l e R s m args below meth c Qe y H0 S0 Sf) pc (mls, mst, I, S) := by
  obtain ⟨hd, rfl⟩ := mNx_ok hk
  obtain ⟨x, i, t, rfl, h⟩ := iv_RI h
  have h : (S.2.1 x = 52 ∧ 0 ≤ i ∧ i < S.2.2.1 x) ∧ rest (mls, mI (I x i) :: t, I, S) := h
  exact st_caload C.1.1 C.1.2.1 h.1.1 h.1.2.1 h.1.2.2 hd (hr _ h.2)
theorem ar_laload  (C : mCx ρ p l e R s m args below meth c Qe y H0 S0 Sf D mcR msR r If) (hk : (mNx y (pc, .laload, a, b, k, n) 1 nx) = true) (hr : ∀ c', rest c' → (mPt ρ p l e R s m args below meth c Qe y H0 S0 Sf) nx c') (h : mAct (mRun D) y pc (mPt ρ p l e R s m args below meth c Qe y H0 S0 Sf) (mOne r If Sf) rest (mDo (pc, .laload, a, b, k, n) (mls, mst, I, S))) : (mPt ρ p l e R s m args below meth c Qe y H0 S0 Sf) pc (mls, mst, I, S) := by
  obtain ⟨hd, rfl⟩ := mNx_ok hk
  obtain ⟨x, i, t, rfl, h⟩ := iv_RI h
  have h : (S.2.1 x = 53 ∧ 0 ≤ i ∧ i < S.2.2.1 x) ∧ rest (mls, mL (I x i) :: t, I, S) := h
  exact st_laload C.1.1 C.1.2.1 h.1.1 h.1.2.1 h.1.2.2 hd (hr _ h.2)
theorem ar_iaload  (C : mCx ρ p l e R s m args below meth c Qe y H0 S0 Sf D mcR msR r If) (hk : (mNx y (pc, .iaload, a, b, k, n) 1 nx && (decide (k = 50) || decide (k = 90))) = true) (hr : ∀ c', rest c' → (mPt ρ p l e R s m args below meth c Qe y H0 S0 Sf) nx c') (h : mAct (mRun D) y pc (mPt ρ p l e R s m args below meth c Qe y H0 S0 Sf) (mOne r If Sf) rest (mDo (pc, .iaload, a, b, k, n) (mls, mst, I, S))) : (mPt ρ p l e R s m args below meth c Qe y H0 S0 Sf) pc (mls, mst, I, S) := by
  rw [Bool.and_eq_true] at hk
  obtain ⟨hk, hv⟩ := hk
  obtain ⟨hd, rfl⟩ := mNx_ok hk
  obtain ⟨x, i, t, rfl, h⟩ := iv_RI h
  have h : (S.2.1 x = k ∧ 0 ≤ i ∧ i < S.2.2.1 x) ∧ rest (mls, mI (I x i) :: t, I, S) := h
  rw [Bool.or_eq_true, decide_eq_true_eq, decide_eq_true_eq] at hv
  rcases hv with rfl | rfl
  · exact st_iaload C.1.1 C.1.2.1 h.1.1 h.1.2.1 h.1.2.2 hd (hr _ h.2)
  · exact st_ialoadX C.1.1 C.1.2.1 h.1.1 h.1.2.1 h.1.2.2 hd (hr _ h.2)
theorem ar_aaload  (C : mCx ρ p l e R s m args below meth c Qe y H0 S0 Sf D mcR msR r If) (hk : (mNx y (pc, .aaload, a, b, k, n) 1 nx && decide (60 ≤ k ∧ k < 72)) = true) (hr : ∀ c', rest c' → (mPt ρ p l e R s m args below meth c Qe y H0 S0 Sf) nx c') (h : mAct (mRun D) y pc (mPt ρ p l e R s m args below meth c Qe y H0 S0 Sf) (mOne r If Sf) rest (mDo (pc, .aaload, a, b, k, n) (mls, mst, I, S))) : (mPt ρ p l e R s m args below meth c Qe y H0 S0 Sf) pc (mls, mst, I, S) := by
  rw [Bool.and_eq_true] at hk
  obtain ⟨hk, hv⟩ := hk
  obtain ⟨hd, rfl⟩ := mNx_ok hk
  have hv : 60 ≤ k ∧ k < 72 := of_decide_eq_true hv
  obtain ⟨x, i, t, rfl, h⟩ := iv_RI h
  have h : (S.2.1 x = k ∧ 0 ≤ i ∧ i < S.2.2.1 x) ∧ rest (mls, mR (S.1 x i) :: t, I, S) := h
  exact st_aaload (cn := (k - 60).toNat) C.1.1 C.1.2.1 (by rw [h.1.1]; omega) (by omega) h.1.2.1 h.1.2.2 hd (hr _ h.2)
theorem ar_alen  (C : mCx ρ p l e R s m args below meth c Qe y H0 S0 Sf D mcR msR r If) (hk : (mNx y (pc, .arraylength, a, b, k, n) 1 nx && (decide (k = 50) || decide (k = 90))) = true) (hr : ∀ c', rest c' → (mPt ρ p l e R s m args below meth c Qe y H0 S0 Sf) nx c') (h : mAct (mRun D) y pc (mPt ρ p l e R s m args below meth c Qe y H0 S0 Sf) (mOne r If Sf) rest (mDo (pc, .arraylength, a, b, k, n) (mls, mst, I, S))) : (mPt ρ p l e R s m args below meth c Qe y H0 S0 Sf) pc (mls, mst, I, S) := by
  rw [Bool.and_eq_true] at hk
  obtain ⟨hk, hv⟩ := hk
  obtain ⟨hd, rfl⟩ := mNx_ok hk
  obtain ⟨x, t, rfl, h⟩ := iv_R h
  have h : S.2.1 x = k ∧ rest (mls, mI (S.2.2.1 x) :: t, I, S) := h
  rw [Bool.or_eq_true, decide_eq_true_eq, decide_eq_true_eq] at hv
  rcases hv with rfl | rfl
  · exact st_alen C.1.1 C.1.2.1 h.1 hd (hr _ h.2)
  · exact st_alenX C.1.1 C.1.2.1 h.1 hd (hr _ h.2)
theorem ar_iastore  (C : mCx ρ p l e R s m args below meth c Qe y H0 S0 Sf D mcR msR r If) (hk : (mNx y (pc, .iastore, a, b, k, n) 1 nx) = true) (hr : ∀ c', rest c' → (mPt ρ p l e R s m args below meth c Qe y H0 S0 Sf) nx c') (h : mAct (mRun D) y pc (mPt ρ p l e R s m args below meth c Qe y H0 S0 Sf) (mOne r If Sf) rest (mDo (pc, .iastore, a, b, k, n) (mls, mst, I, S))) : (mPt ρ p l e R s m args below meth c Qe y H0 S0 Sf) pc (mls, mst, I, S) := by
  obtain ⟨hd, rfl⟩ := mNx_ok hk
  obtain ⟨x, i, v, t, rfl, h⟩ := iv_RII h
  have h : (S.2.1 x = 50 ∧ 0 ≤ i ∧ i < S.2.2.1 x) ∧ rest (mls, t, mUp I x i v, S) := h
  exact st_iastore C.1.1 C.1.2.1 h.1.1 h.1.2.1 h.1.2.2 hd (hr _ h.2)
theorem ar_bastore  (C : mCx ρ p l e R s m args below meth c Qe y H0 S0 Sf D mcR msR r If) (hk : (mNx y (pc, .bastore, a, b, k, n) 1 nx) = true) (hr : ∀ c', rest c' → (mPt ρ p l e R s m args below meth c Qe y H0 S0 Sf) nx c') (h : mAct (mRun D) y pc (mPt ρ p l e R s m args below meth c Qe y H0 S0 Sf) (mOne r If Sf) rest (mDo (pc, .bastore, a, b, k, n) (mls, mst, I, S))) : (mPt ρ p l e R s m args below meth c Qe y H0 S0 Sf) pc (mls, mst, I, S) := by
  obtain ⟨hd, rfl⟩ := mNx_ok hk
  obtain ⟨x, i, v, t, rfl, h⟩ := iv_RII h
  have h : (S.2.1 x = 51 ∧ 0 ≤ i ∧ i < S.2.2.1 x ∧ 0 ≤ v ∧ v ≤ 1) ∧ rest (mls, t, mUp I x i v, S) := h
  exact st_bastore C.1.1 C.1.2.1 h.1.2.2.2 h.1.1 h.1.2.1 h.1.2.2.1 hd (hr _ h.2)
theorem ar_castore  (C : mCx ρ p l e R s m args below meth c Qe y H0 S0 Sf D mcR msR r If) (hk : (mNx y (pc, .castore, a, b, k, n) 1 nx) = true) (hr : ∀ c', rest c' → (mPt ρ p l e R s m args below meth c Qe y H0 S0 Sf) nx c') (h : mAct (mRun D) y pc (mPt ρ p l e R s m args below meth c Qe y H0 S0 Sf) (mOne r If Sf) rest (mDo (pc, .castore, a, b, k, n) (mls, mst, I, S))) : (mPt ρ p l e R s m args below meth c Qe y H0 S0 Sf) pc (mls, mst, I, S) := by
  obtain ⟨hd, rfl⟩ := mNx_ok hk
  obtain ⟨x, i, v, t, rfl, h⟩ := iv_RII h
  have h : (S.2.1 x = 52 ∧ 0 ≤ i ∧ i < S.2.2.1 x ∧ 0 ≤ v ∧ v ≤ 65535) ∧ rest (mls, t, mUp I x i v, S) := h
  exact st_castore C.1.1 C.1.2.1 h.1.2.2.2 h.1.1 h.1.2.1 h.1.2.2.1 hd (hr _ h.2)
theorem ar_lastore  (C : mCx ρ p l e R s m args below meth c Qe y H0 S0 Sf D mcR msR r If) (hk : (mNx y (pc, .lastore, a, b, k, n) 1 nx) = true) (hr : ∀ c', rest c' → (mPt ρ p l e R s m args below meth c Qe y H0 S0 Sf) nx c') (h : mAct (mRun D) y pc (mPt ρ p l e R s m args below meth c Qe y H0 S0 Sf) (mOne r If Sf) rest (mDo (pc, .lastore, a, b, k, n) (mls, mst, I, S))) : (mPt ρ p l e R s m args below meth c Qe y H0 S0 Sf) pc (mls, mst, I, S) := by
  obtain ⟨hd, rfl⟩ := mNx_ok hk
  obtain ⟨x, i, v, t, rfl, h⟩ := iv_RIL h
  have h : (S.2.1 x = 53 ∧ 0 ≤ i ∧ i < S.2.2.1 x) ∧ rest (mls, t, mUp I x i v, S) := h
  exact st_lastore C.1.1 C.1.2.1 h.1.1 h.1.2.1 h.1.2.2 hd (hr _ h.2)
theorem ar_newa_int  (C : mCx ρ p l e R s m args below meth c Qe y H0 S0 Sf D mcR msR r If) (hk : (mNx y (pc, .newarray .int, a, b, k, n) 2 nx && decide (k = 50)) = true) (hr : ∀ c', rest c' → (mPt ρ p l e R s m args below meth c Qe y H0 S0 Sf) nx c') (h : mAct (mRun D) y pc (mPt ρ p l e R s m args below meth c Qe y H0 S0 Sf) (mOne r If Sf) rest (mDo (pc, .newarray .int, a, b, k, n) (mls, mst, I, S))) : (mPt ρ p l e R s m args below meth c Qe y H0 S0 Sf) pc (mls, mst, I, S) := by
  rw [Bool.and_eq_true] at hk
  obtain ⟨hk, hv⟩ := hk
  obtain ⟨hd, rfl⟩ := mNx_ok hk
  have hRc : Sf.2.2.2.1 ≤ S0.2.2.2.1 + (R.cells : Int) := by rw [C.2.2.2.1.2.1, C.2.2.2.1.2.2.1]; exact Int.le_refl _
  have hRs : Sf.2.2.2.2 ≤ S0.2.2.2.2 + (R.slots : Int) := by rw [C.2.2.2.1.2.1, C.2.2.2.1.2.2.2]; exact Int.le_refl _
  obtain rfl : k = 50 := of_decide_eq_true hv
  obtain ⟨x, t, rfl, h⟩ := iv_I h
  have h : (0 ≤ x ∧ x ≤ 100000) ∧ rest (mls, mR S.2.2.2.1 :: t, mNewN I S, mNewH S 50 x) := h
  exact st_newa_int C.1.1 C.1.2.1 hRc hRs (C.2.1.1 _ mWA_int) h.1.1 h.1.2 hd (hr _ h.2)
end NAR
