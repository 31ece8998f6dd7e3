/-! How a method of the small machine ends, and how a call of its own goes on. -/
theorem mEnd {ρ : mRho} {s t : State} {I : mN} {S : mH} {H H0 : Heap} {locs : List Loc} (hH : mHeap ρ s I S H) (hO : mOld ρ H0 H locs) (h0 : H0 = s.heap) (ht : t.heap = H) (hv : s.vm.Alike t.vm) : mHeap ρ t I S t.heap ∧ s.heap.size ≤ t.heap.size ∧ ∀ q : Nat, q < ρ.2.2.1 → t.heap[q]? = s.heap[q]? := by
  subst h0
  rw [ht]
  exact ⟨mHeap_moved hv hH, hO.2.1, hO.2.2.1⟩
section NEN
variable {ρ : mRho} {p : Program} {l : Launch} {e : Env} {R : Room} {s : State} {m : MethodId} {args : Array Value} {below : List Frame} {meth : Method} {c : Code} {y : Nat} {H0 : Heap} {S0 Sf : mH} {If : mN} {mc ms : Nat}
variable {pc : Nat} {mls : mM} {mst : List mV} {I : mN} {S : mH}
abbrev mQe (ρ : mRho) (s : State) (args : Array Value) (below : List Frame) (mc ms : Nat) (r : mZ) (If : mN) (Sf : mH) : State → Prop := vx_MQ below (mQc ρ r If Sf) (mXc ρ r If Sf) args s mc ms (mFree ρ)
theorem st_ret0 (h0 : H0 = s.heap) (hmc : Sf.2.2.2.1 = S0.2.2.2.1 + (mc : Int)) (hms : Sf.2.2.2.2 = S0.2.2.2.2 + (ms : Int)) {r : mZ}
    (k : ∀ (H : Heap) (locs : List Loc) (ls : Array Slot) (stk : List Value), mStk ρ stk mst → (∀ q ∈ locs, mFree ρ q.base) → (∀ t : State, t.heap = H → s.WarmedH t.vm → mHeap ρ t If Sf t.heap ∧ s.heap.size ≤ t.heap.size ∧ ∀ q : Nat, q < ρ.2.2.1 → t.heap[q]? = s.heap[q]?) →
      W p l e R s m args below meth c H locs mc ms (MQ below (mQc ρ r If Sf) args s mc ms (mFree ρ)) (F0 m pc ls stk)) : mPt ρ p l e R s m args below meth c (mQe ρ s args below mc ms r If Sf) y H0 S0 Sf pc (mls, mst, If, Sf) := by
  refine ⟨⟨Int.le_refl _, Int.le_refl _⟩, fun H locs cells slots ls stk hL hS hH hO hC => ?_⟩
  have e1 : cells = mc := by have h9 : Sf.2.2.2.1 = S0.2.2.2.1 + (cells : Int) := hC.1; omega
  have e2 : slots = ms := by have h9 : Sf.2.2.2.2 = S0.2.2.2.2 + (slots : Int) := hC.2; omega
  subst e1; subst e2
  exact vx_ret (k H locs ls stk hS hO.2.2.2 (fun t ht hW => mEnd hH hO h0 ht hW.alike))
theorem st_retV (hx : p.tables.exec = Jvm.exec) (hb : c.code = mBy y) (h0 : H0 = s.heap) (hmc : Sf.2.2.2.1 = S0.2.2.2.1 + (mc : Int)) (hms : Sf.2.2.2.2 = S0.2.2.2.2 + (ms : Int)) (hr : meth.sig.returnType = none) (hlk : meth.locks = false) (hd : decode (mBy y) pc = .ok (.return_, 1)) :
    mPt ρ p l e R s m args below meth c (mQe ρ s args below mc ms (.inl none) If Sf) y H0 S0 Sf pc (mls, [], If, Sf) := by
  refine st_ret0 h0 hmc hms (fun H locs ls stk hS hf hq => ?_)
  cases mStk_n hS
  exact W.vret hx hb hr (fun t ht hW => ⟨none, rfl, rfl, hq t ht hW⟩) hf hd hlk
theorem st_retI (hx : p.tables.exec = Jvm.exec) (hb : c.code = mBy y) (h0 : H0 = s.heap) (hmc : Sf.2.2.2.1 = S0.2.2.2.1 + (mc : Int)) (hms : Sf.2.2.2.2 = S0.2.2.2.2 + (ms : Int)) {x : Int} (hr : meth.sig.returnType = some .int ∨ (meth.sig.returnType = some .boolean ∧ 0 ≤ x ∧ x ≤ 1) ∨ (meth.sig.returnType = some .char ∧ 0 ≤ x ∧ x ≤ 65535)) (hlk : meth.locks = false) (hd : decode (mBy y) pc = .ok (.ireturn, 1)) :
    mPt ρ p l e R s m args below meth c (mQe ρ s args below mc ms (.inl (some (mI x))) If Sf) y H0 S0 Sf pc (mls, [mI x], If, Sf) := by
  refine st_ret0 h0 hmc hms (fun H locs ls stk hS hf hq => ?_)
  obtain ⟨v, l', rfl, hv, hS'⟩ := mStk_c hS
  cases mStk_n hS'
  have hv' := hv
  obtain ⟨-, rfl⟩ := hv'
  rcases hr with hr | ⟨hr, hx2⟩ | ⟨hr, hx2⟩
  · exact W.iret hx hb hr (fun t ht hW => ⟨some (.int (mO x)), rfl, ⟨_, rfl, hv⟩, hq t ht hW⟩) hf hd hlk
  · exact W.zret hx hb hr (mNar_z hx2) (fun t ht hW => ⟨some (.int (mO x)), rfl, ⟨_, rfl, hv⟩, hq t ht hW⟩) hf hd hlk
  · exact W.zret hx hb hr (mNar_c hx2) (fun t ht hW => ⟨some (.int (mO x)), rfl, ⟨_, rfl, hv⟩, hq t ht hW⟩) hf hd hlk
theorem st_retA (hx : p.tables.exec = Jvm.exec) (hb : c.code = mBy y) (h0 : H0 = s.heap) (hmc : Sf.2.2.2.1 = S0.2.2.2.1 + (mc : Int)) (hms : Sf.2.2.2.2 = S0.2.2.2.2 + (ms : Int)) {w : mV} (hw : (∃ a, w = mR a) ∨ ∃ k, w = mS k) {rt : FieldType} (hr : meth.sig.returnType = some rt) (hrt : (∃ n, rt = FieldType.object n) ∨ ∃ t, rt = FieldType.array t) (hlk : meth.locks = false) (hd : decode (mBy y) pc = .ok (.areturn, 1)) :
    mPt ρ p l e R s m args below meth c (mQe ρ s args below mc ms (.inl (some w)) If Sf) y H0 S0 Sf pc (mls, [w], If, Sf) := by
  refine st_ret0 h0 hmc hms (fun H locs ls stk hS hf hq => ?_)
  obtain ⟨v, l', rfl, hv, hS'⟩ := mStk_c hS
  cases mStk_n hS'
  have hvr : v = .null ∨ ∃ a, v = .ref a := by
    rcases hw with ⟨a, rfl⟩ | ⟨k, rfl⟩
    · rcases hv with ⟨-, h⟩ | ⟨-, h⟩ | ⟨-, q, h⟩
      · exact Or.inl h
      · exact Or.inr ⟨_, h⟩
      · exact Or.inr ⟨_, h⟩
    · exact Or.inr ⟨_, hv.2⟩
  exact W.aret hx hb hr hrt hvr (fun t ht hW => ⟨some v, rfl, ⟨_, rfl, hv⟩, hq t ht hW⟩) hf hd hlk
theorem st_retF (hx : p.tables.exec = Jvm.exec) (hb : c.code = mBy y) (h0 : H0 = s.heap) (hmc : Sf.2.2.2.1 = S0.2.2.2.1 + (mc : Int)) (hms : Sf.2.2.2.2 = S0.2.2.2.2 + (ms : Int)) {x : UInt32} (hr : meth.sig.returnType = some .float) (hlk : meth.locks = false) (hd : decode (mBy y) pc = .ok (.freturn, 1)) :
    mPt ρ p l e R s m args below meth c (mQe ρ s args below mc ms (.inl (some (mF x))) If Sf) y H0 S0 Sf pc (mls, [mF x], If, Sf) := by
  refine st_ret0 h0 hmc hms (fun H locs ls stk hS hf hq => ?_)
  obtain ⟨v, l', rfl, hv, hS'⟩ := mStk_c hS
  cases mStk_n hS'
  have hv' : v = .float x := hv
  subst hv'
  exact W.fret hx hb hr (fun t ht hW => ⟨some (.float x), rfl, ⟨_, rfl, hv⟩, hq t ht hW⟩) hf hd hlk
theorem st_retD (hx : p.tables.exec = Jvm.exec) (hb : c.code = mBy y) (h0 : H0 = s.heap) (hmc : Sf.2.2.2.1 = S0.2.2.2.1 + (mc : Int)) (hms : Sf.2.2.2.2 = S0.2.2.2.2 + (ms : Int)) {x : UInt64} (hr : meth.sig.returnType = some .double) (hlk : meth.locks = false) (hd : decode (mBy y) pc = .ok (.dreturn, 1)) :
    mPt ρ p l e R s m args below meth c (mQe ρ s args below mc ms (.inl (some (mD x))) If Sf) y H0 S0 Sf pc (mls, [mD x], If, Sf) := by
  refine st_ret0 h0 hmc hms (fun H locs ls stk hS hf hq => ?_)
  obtain ⟨v, l', rfl, hv, hS'⟩ := mStk_c hS
  cases mStk_n hS'
  have hv' : v = .double x := hv
  subst hv'
  exact W.dret hx hb hr (fun t ht hW => ⟨some (.double x), rfl, ⟨_, rfl, hv⟩, hq t ht hW⟩) hf hd hlk
end NEN
