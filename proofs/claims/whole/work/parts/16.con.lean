/-! What a method of the small machine owes the machine: contracts; what of the tables and of the heap below stays. -/
def mXic (e : Nat) : Nat := match e with
  | 0 => 106
  | 1 => 116
  | 2 => 147
  | _ => 344
def mXix (e : Nat) : Nat := match e with
  | 3 => 13
  | _ => 7
def mXrx (e : Nat) : ByteArray := match e with
  | 3 => ⟨#[42, 43, 183, 0, 13, 177]⟩
  | _ => ⟨#[42, 43, 183, 0, 7, 177]⟩
theorem mX0 (e : Nat) : decode (mXrx e) 0 = .ok (.aload_n 0, 1) := by unfold mXrx; split <;> decide +kernel
theorem mX1 (e : Nat) : decode (mXrx e) 1 = .ok (.aload_n 1, 1) := by unfold mXrx; split <;> decide +kernel
theorem mX2 (e : Nat) : decode (mXrx e) 2 = .ok (.invokespecial (mXix e), 3) := by
  match e with
  | 0 => decide +kernel
  | 1 => decide +kernel
  | 2 => decide +kernel
  | 3 => decide +kernel
  | k + 4 => exact (show decode ⟨#[42, 43, 183, 0, 7, 177]⟩ 2 = .ok (.invokespecial 7, 3) by decide +kernel)
theorem mX5 (e : Nat) : decode (mXrx e) 5 = .ok (.return_, 1) := by unfold mXrx; split <;> decide +kernel
def mAts (e : Nat) : List Cond := nx_at "RiverSeniority" (mXic e) (mEname e) (mXix e) (mXrx e) ["java/lang/RuntimeException", "java/lang/Exception"]
def mBadK (w : Cond) : Bool := match w with
  | .castable _ _ => true
  | .declares _ => true
  | _ => false
def mAtsB (e : Nat) : Bool := (mAts e).all (fun w => vx_ot w && (mBadK w || (goodWord w && decide (w ∈ lw_tbl))))
theorem mAts_ok0 : mAtsB 0 = true := by decide +kernel
theorem mAts_ok1 : mAtsB 1 = true := by decide +kernel
theorem mAts_ok2 : mAtsB 2 = true := by decide +kernel
theorem mAts_ok3 : mAtsB 3 = true := by decide +kernel
theorem mAts_ok (e : Nat) (he : e < 4) : mAtsB e = true := by
  match e, he with
  | 0, _ => exact mAts_ok0
  | 1, _ => exact mAts_ok1
  | 2, _ => exact mAts_ok2
  | 3, _ => exact mAts_ok3
def mBad : List Cond := (List.range 4).flatMap (fun e => (mAts e).filter mBadK)
theorem mBad_warm {s U : State} (hW : s.WarmedH U.vm) (h : ∀ w ∈ mBad, va_Nw w s) : ∀ w ∈ mBad, va_Nw w U := by
  intro w hw
  obtain ⟨e, _, hf⟩ := List.mem_flatMap.mp hw
  have hk := (List.mem_filter.mp hf).2
  have h1 := h w hw
  unfold mBadK at hk
  split at hk
  · exact va_Nw.warmC hW h1
  · exact va_Nw.warmD hW h1
  · cases hk
def mFree (ρ : mRho) : Nat → Prop := fun q => ρ.2.2.1 ≤ q
/-- statics that texts read -/
def mStc (ρ : mRho) (U : State) (H : Heap) : Prop := va_Z "java/lang/String" "COMPACT_STRINGS" "Z" (.int 1) (mFree ρ) U H ∧ (∃ v : Value, v.category = 1 ∧ va_Z "jdk/internal/util/Preconditions" "SIOOBE_FORMATTER" "Ljava/util/function/BiFunction;" v (mFree ρ) U H) ∧ ∀ a b : Nat, a < 4 → b < 4 → a ≠ b → va_Nc (mEname a) (mEname b) U
/-- the texts -/
def mKS (ρ : mRho) (adV : Nat → Nat) (U : State) (H : Heap) : Prop := ∀ i : Nat, i < 37 → va_O "java/lang/String" (ρ.2.2.2.2.2.2 i) (mFree ρ) U H ∧ va_OF "java/lang/String" "coder" "B" (.int 0) (ρ.2.2.2.2.2.2 i) (mFree ρ) U H ∧ va_OF "java/lang/String" "value" "[B" (.ref (adV i)) (ρ.2.2.2.2.2.2 i) (mFree ρ) U H ∧ va_T .byte (adV i) ((mTs.map String.length).getD i 0) (fun j => .int ((mTx8.getD i []).getD j 0)) (mFree ρ) U H
/-- a world below: statics of Throwable, texts -/
def mWld (ρ : mRho) (U : State) (H : Heap) : Prop := (∀ w ∈ mBad, va_Nw w U) ∧ vx_Zq Bundle.tN "UNASSIGNED_STACK" Bundle.steD (mFree ρ) U H ∧ vx_Zq Bundle.tN "SUPPRESSED_SENTINEL" Bundle.listD (mFree ρ) U H ∧ (∀ e ∈ mLS, vk_R (mCname e.2.1) e.2.2.1 (mTs.getD e.2.2.2 "") (ρ.2.2.2.2.2.2 e.2.2.2) U) ∧ (∀ q ∈ mMsg, ∃ a, vk_R "RiverSeniority" q.1 q.2 a U) ∧ mStc ρ U H ∧ ∃ adV, mKS ρ adV U H
theorem mHeap_moved {ρ : mRho} {u U : State} (hv : u.vm.Alike U.vm) {I : mN} {S : mH} {H : Heap} (h : mHeap ρ u I S H) : mHeap ρ U I S H := by
  refine ⟨h.1, h.2.1, h.2.2.1, fun a => ?_⟩
  rcases h.2.2.2 a with z | z | ⟨h1, h2, cA, V, h3, h4⟩ | ⟨h1, h2, h3, h4, h5, h6⟩
  · exact Or.inl z
  · exact Or.inr (Or.inl z)
  · refine Or.inr (Or.inr (Or.inl ⟨h1, h2, cA, V, h3, ?_⟩))
    rcases h4 with ⟨z, t, w⟩ | ⟨z, t, w⟩ | ⟨z, t, w⟩ | ⟨z, t, w⟩ | ⟨c, q, hc, z, t, t2, w⟩
    · exact Or.inl ⟨z, arrOfT_moved hv t, w⟩
    · exact Or.inr (Or.inl ⟨z, arrOfT_moved hv t, w⟩)
    · exact Or.inr (Or.inr (Or.inl ⟨z, arrOfT_moved hv t, w⟩))
    · exact Or.inr (Or.inr (Or.inr (Or.inl ⟨z, arrOfT_moved hv t, w⟩)))
    · exact Or.inr (Or.inr (Or.inr (Or.inr ⟨c, q, hc, z, arrOfT_moved hv t, t2.moved hv, w⟩)))
  · exact Or.inr (Or.inr (Or.inr ⟨h1, h2, h3, h4, h5.moved hv, h6⟩))
theorem mTab_warm {ρ : mRho} {s U : State} (hW : s.WarmedH U.vm) (h : mTab ρ s) : mTab ρ U :=
  ⟨fun c q hq => u_Kn_moved hW.alike (h.1 c q hq), fun e he => (h.2.1 e he).moved hW.alike, fun e he => va_Nw.warmM hW (h.2.2 e he)⟩
theorem mWld_warm {ρ : mRho} {s U : State} {H H' : Heap} (hW : s.WarmedH U.vm) (hq : ∀ q : Nat, q < ρ.2.2.1 → H'[q]? = H[q]?) (h : mWld ρ s H) : mWld ρ U H' := by
  obtain ⟨h1, h2, h3, h4, h5, ⟨hz1, ⟨zv, hzc, hz2⟩, hzn⟩, adV, h6⟩ := h
  have hk : ∀ a : Nat, a < H.size → ¬ mFree ρ a → H'[a]? = H[a]? := fun a _ ha => hq a (Nat.not_le.mp ha)
  exact ⟨mBad_warm hW h1, (vx_Zq.moved hW.alike h2).kept hk, (vx_Zq.moved hW.alike h3).kept hk, fun e he => vk_R.warm hW (h4 e he), fun q hq => by
    obtain ⟨a, ha⟩ := h5 q hq
    exact ⟨a, vk_R.warm hW ha⟩, ⟨(va_Z.moved hW.alike hz1).kept hk, ⟨zv, hzc, (va_Z.moved hW.alike hz2).kept hk⟩, fun a b ha hb hab => va_Nc.moved hW.alike (hzn a b ha hb hab)⟩, adV, fun i hi => ⟨(va_O.moved hW.alike (h6 i hi).1).kept hk, (va_OF.moved hW.alike (h6 i hi).2.1).kept hk, (va_OF.moved hW.alike (h6 i hi).2.2.1).kept hk, (va_T.moved hW.alike (h6 i hi).2.2.2).kept hk⟩⟩
def mPc (ρ : mRho) (as : List mV) (I : mN) (S : mH) : Array Value → State → Prop := fun v U => (∃ vs : List Value, v = vs.toArray ∧ mStk ρ vs as) ∧ mHeap ρ U I S U.heap ∧ mTab ρ U ∧ mWld ρ U U.heap
theorem mPc_blind (ρ : mRho) (as : List mV) (I : mN) (S : mH) : FrameBlind (mPc ρ as I S) := fun a U g mk h =>
  ⟨h.1, mHeap_moved (u := U) (U := U.calling g mk a) (Vm.Alike.refl U.vm) h.2.1, mTab_warm (s := U) (U := U.calling g mk a) (State.WarmedH.refl U) h.2.2.1, mWld_warm (s := U) (U := U.calling g mk a) (State.WarmedH.refl U) (fun _ _ => rfl) h.2.2.2⟩
def mRes (ρ : mRho) (v : Option Value) : mZ → Prop
  | .inl none => v = none
  | .inl (some w) => ∃ x, v = some x ∧ mVal ρ x w
  | .inr _ => False
def mQc (ρ : mRho) (r : mZ) (I : mN) (S : mH) : Array Value → State → Outcome → State → Prop := fun _ st o t => ∃ v, o = .returned v ∧ mRes ρ v r ∧ mHeap ρ t I S t.heap ∧ st.heap.size ≤ t.heap.size ∧ ∀ q : Nat, q < ρ.2.2.1 → t.heap[q]? = st.heap[q]?
def mXc (ρ : mRho) (r : mZ) (I : mN) (S : mH) : String → State → State → Prop := fun E st t => (∃ e, r = .inr e ∧ E = mEname e) ∧ mHeap ρ t I S t.heap ∧ st.heap.size ≤ t.heap.size ∧ ∀ q : Nat, q < ρ.2.2.1 → t.heap[q]? = st.heap[q]?
def mWs (y : Nat) : List Cond := Jvm.Cond.code (mNm y) (mBy y) (mMaxL y) (mRet y) :: mWl
/-- so many calls deep -/
def mRm (D mc ms : Nat) : Room := { frames := D + 6, cells := mc, slots := ms, locals := 41 * D + 278 }
/-- a run of the small machine is a run of the machine -/
def mGood (ρ : mRho) (l : Launch) (D : Nat) : Prop := ∀ (y : Nat) (as : List mV) (I : mN) (S : mH) (r : mZ) (I' : mN) (S' : mH) (mc ms : Nat), y < 371 → mRun D y as I S (mOne r I' S') → S'.2.2.2.1 = S.2.2.2.1 + (mc : Int) → S'.2.2.2.2 = S.2.2.2.2 + (ms : Int) →
  vx_Met l (mNm y) (mWs y) (mRm D mc ms) (mPc ρ as I S) (mQc ρ r I' S') (mXc ρ r I' S') mc ms (mFree ρ)
