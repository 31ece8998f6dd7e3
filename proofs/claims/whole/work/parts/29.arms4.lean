/-! Checked instructions, fourth lot: throws, the library, a switch, doubled values. -/
def mDcI (y pc : Nat) (i : Instr) (len : Nat) : Bool := match decode (mBy y) pc with
  | .ok r => decide (r = (i, len))
  | .error _ => false
theorem mDcI_ok {y pc len : Nat} {i : Instr} (h : mDcI y pc i len = true) : decode (mBy y) pc = .ok (i, len) := by
  unfold mDcI at h
  split at h
  · rename_i r hr
    rw [hr, of_decide_eq_true h]
  · cases h
def mThr (y pc v a : Nat) : Bool := mDcI y pc (.new v) 3 && mDcI y (pc + 3) .dup 1 && (match decode (mBy y) (pc + 4) with
  | .ok (.ldc is, _) => mMsg.any (fun q => Nat.beq q.1 is) && mDcI y (pc + 4) (.ldc is) 2 && mDcI y (pc + 4 + 2) (.invokespecial (mXic a)) 3 && mDcI y (pc + 4 + 2 + 3) .athrow 1
  | .ok (.ldc_w is, _) => mMsg.any (fun q => Nat.beq q.1 is) && mDcI y (pc + 4) (.ldc_w is) 3 && mDcI y (pc + 4 + 3) (.invokespecial (mXic a)) 3 && mDcI y (pc + 4 + 3 + 3) .athrow 1
  | _ => false)
theorem mMsg_in {i : Nat} (h : mMsg.any (fun q => Nat.beq q.1 i) = true) : ∃ tx, (i, tx) ∈ mMsg := by
  obtain ⟨f, hf, h1⟩ := List.any_eq_true.mp h
  have e1 : f.1 = i := Nat.eq_of_beq_eq_true h1
  obtain ⟨fi, tx⟩ := f
  subst e1
  exact ⟨tx, hf⟩
theorem mThr_ok {y pc v a : Nat} (h : mThr y pc v a = true) : ∃ (n i : Nat) (tx : String), (i, tx) ∈ mMsg ∧ decode (mBy y) pc = .ok (.new v, 3) ∧ decode (mBy y) (pc + 3) = .ok (.dup, 1) ∧ ((n = 2 ∧ decode (mBy y) (pc + 4) = .ok (.ldc i, 2)) ∨ (n = 3 ∧ decode (mBy y) (pc + 4) = .ok (.ldc_w i, 3))) ∧ decode (mBy y) (pc + 4 + n) = .ok (.invokespecial (mXic a), 3) ∧ decode (mBy y) (pc + 4 + n + 3) = .ok (.athrow, 1) := by
  unfold mThr at h
  simp only [Bool.and_eq_true] at h
  obtain ⟨⟨h1, h2⟩, h3⟩ := h
  split at h3
  · simp only [Bool.and_eq_true] at h3
    obtain ⟨⟨⟨g1, g2⟩, g3⟩, g4⟩ := h3
    obtain ⟨tx, ht⟩ := mMsg_in g1
    exact ⟨2, _, tx, ht, mDcI_ok h1, mDcI_ok h2, Or.inl ⟨rfl, mDcI_ok g2⟩, mDcI_ok g3, mDcI_ok g4⟩
  · simp only [Bool.and_eq_true] at h3
    obtain ⟨⟨⟨g1, g2⟩, g3⟩, g4⟩ := h3
    obtain ⟨tx, ht⟩ := mMsg_in g1
    exact ⟨3, _, tx, ht, mDcI_ok h1, mDcI_ok h2, Or.inr ⟨rfl, mDcI_ok g2⟩, mDcI_ok g3, mDcI_ok g4⟩
  · cases h3
theorem mW_exc1 (en : Nat) (he : en < 4) : Jvm.Cond.initialized (mEname en) ∈ mWl := by
  match en, he with
  | 0, _ => exact mWl_of (mW_exc _ (by decide))
  | 1, _ => exact mWl_of (mW_exc _ (by decide))
  | 2, _ => exact mWl_of (mW_exc _ (by decide))
  | 3, _ => exact mWl_of (mW_exc _ (by decide))
section NAU
variable {ρ : mRho} {p : Program} {l : Launch} {e : Env} {R : Room} {s : State} {m : MethodId} {args : Array Value} {below : List Frame} {meth : Method} {c : Code} {Qe : State → Prop} {y : Nat} {H0 : Heap} {S0 Sf : mH} {If : mN} {D mcR msR : Nat} {r : mZ}
variable {pc : Nat} {mls : mM} {mst : List mV} {I : mN} {S : mH} {rest : mC → Prop} {a n nx : Nat} {b k : Int}
theorem ar_throw {v : Nat} (C : mCx ρ p l e R s m args below meth c Qe y H0 S0 Sf D mcR msR r If) (hk : (mThr y pc v a && (Nat.blt y 371 && decide (n = 1 ∧ mOw y = 10) && Nat.blt a 4 && mFm mLE 10 v a)) = true) (hr : ∀ c', rest c' → (mPt ρ p l e R s m args below meth c Qe y H0 S0 Sf) nx c') (h : mAct (mRun D) y pc (mPt ρ p l e R s m args below meth c Qe y H0 S0 Sf) (mOne r If Sf) rest (mDo (pc, .new v, a, b, k, n) (mls, mst, I, S))) : (mPt ρ p l e R s m args below meth c Qe y H0 S0 Sf) pc (mls, mst, I, S) := by
  rw [Bool.and_eq_true] at hk
  obtain ⟨hk, hv⟩ := hk
  simp only [Bool.and_eq_true, decide_eq_true_eq] at hv
  obtain ⟨⟨⟨hy, ⟨hn, hy10⟩⟩, ha⟩, hlk⟩ := hv
  have hy : y < 371 := Nat.le_of_ble_eq_true hy
  have hQ := C.2.2.1.2.2.2.2.1 (by omega)
  subst hQ
  subst hn
  have ha : a < 4 := Nat.le_of_ble_eq_true ha
  obtain ⟨n2, i, tx, htx, d0, d3, d4, d6, d9⟩ := mThr_ok hk
  have hown : s.vm.findClass "RiverSeniority" = some m.cls := by
    have h9 := C.1.2.2.2
    rw [hy10] at h9
    exact h9
  cases mst with
  | cons w t => exact (show False ∧ _ from h).1.elim
  | nil =>
    have h : True ∧ (.inr a = r ∧ mNewN I S = If ∧ mNewH S 0 6 = Sf) := h
    obtain ⟨-, rfl, rfl, rfl⟩ := h
    exact st_throw (n := n2) (ik := v) (is := i) (tx := tx) ha C.1.1 C.1.2.1 C.1.2.2.1 C.2.2.1.2.2.2.1 hown C.2.1.1 C.2.1.2.2 C.2.2.1.1 (C.2.2.1.2.1 hy) C.2.2.1.2.2.1 (C.2.1.1 _ (mFm_e hlk)) (C.2.1.1 _ (mW_exc1 a ha)) htx d0 d3 d4 d6 d9
      (by rw [C.2.2.2.1.2.1]; show 6 ≤ D + 1 + 6; omega) (by rw [C.2.2.2.1.2.1]; show 200 ≤ 41 * (D + 1) + 278; omega) C.2.2.2.1.2.2.1 C.2.2.2.1.2.2.2 (by rw [C.2.2.2.1.2.1]; exact Nat.le_refl _) (by rw [C.2.2.2.1.2.1]; exact Nat.le_refl _)
theorem ar_dup2  (C : mCx ρ p l e R s m args below meth c Qe y H0 S0 Sf D mcR msR r If) (hk : (mNx y (pc, .dup2, a, b, k, n) 1 nx) = true) (hr : ∀ c', rest c' → (mPt ρ p l e R s m args below meth c Qe y H0 S0 Sf) nx c') (h : mAct (mRun D) y pc (mPt ρ p l e R s m args below meth c Qe y H0 S0 Sf) (mOne r If Sf) rest (mDo (pc, .dup2, a, b, k, n) (mls, mst, I, S))) : (mPt ρ p l e R s m args below meth c Qe y H0 S0 Sf) pc (mls, mst, I, S) := by
  obtain ⟨hd, rfl⟩ := mNx_ok hk
  have h : mAct (mRun D) y pc (mPt ρ p l e R s m args below meth c Qe y H0 S0 Sf) (mOne r If Sf) rest (mDup2 (mls, mst, I, S)) := h
  unfold mDup2 at h
  dsimp only at h
  split at h
  · rename_i x w t _
    have h : True ∧ rest (mls, mI x :: mR w :: mI x :: mR w :: t, I, S) := h
    exact st_dup2 C.1.1 C.1.2.1 (fun z q => by cases q) (fun z q => by cases q) (fun z q => by cases q) (fun z q => by cases q) hd (hr _ h.2)
  · exact h.1.elim
theorem ar_dupx2  (C : mCx ρ p l e R s m args below meth c Qe y H0 S0 Sf D mcR msR r If) (hk : (mNx y (pc, .dup_x2, a, b, k, n) 1 nx) = true) (hr : ∀ c', rest c' → (mPt ρ p l e R s m args below meth c Qe y H0 S0 Sf) nx c') (h : mAct (mRun D) y pc (mPt ρ p l e R s m args below meth c Qe y H0 S0 Sf) (mOne r If Sf) rest (mDo (pc, .dup_x2, a, b, k, n) (mls, mst, I, S))) : (mPt ρ p l e R s m args below meth c Qe y H0 S0 Sf) pc (mls, mst, I, S) := by
  obtain ⟨hd, rfl⟩ := mNx_ok hk
  have h : mAct (mRun D) y pc (mPt ρ p l e R s m args below meth c Qe y H0 S0 Sf) (mOne r If Sf) rest (mDupX2 (mls, mst, I, S)) := h
  unfold mDupX2 at h
  dsimp only at h
  split at h
  · rename_i x z w t _
    have h : True ∧ rest (mls, mI x :: mI z :: mR w :: mI x :: t, I, S) := h
    exact st_dup_x2 C.1.1 C.1.2.1 (fun z q => by cases q) (fun z q => by cases q) (fun z q => by cases q) (fun z q => by cases q) (fun z q => by cases q) (fun z q => by cases q) hd (hr _ h.2)
  · exact h.1.elim
theorem ar_switch {d lo hi : Int} {offs : Array Int} (C : mCx ρ p l e R s m args below meth c Qe y H0 S0 Sf D mcR msR r If) (hk : ((match decode (mBy y) pc with | .ok r => decide (r.1 = .tableswitch d lo hi offs) | .error _ => false) && (mJt pc d a && decide (hi = lo + (offs.size : Nat) - 1) && offs.toList.all (fun o => decide (0 ≤ (pc : Int) + o)))) = true) (hr : ∀ c', rest c' → (mPt ρ p l e R s m args below meth c Qe y H0 S0 Sf) nx c') (h : mAct (mRun D) y pc (mPt ρ p l e R s m args below meth c Qe y H0 S0 Sf) (mOne r If Sf) rest (mDo (pc, .tableswitch d lo hi offs, a, b, k, n) (mls, mst, I, S))) : (mPt ρ p l e R s m args below meth c Qe y H0 S0 Sf) pc (mls, mst, I, S) := by
  rw [Bool.and_eq_true] at hk
  obtain ⟨hk, hv⟩ := hk
  simp only [Bool.and_eq_true] at hv
  obtain ⟨⟨hj, hs⟩, hall⟩ := hv
  obtain ⟨len, hd⟩ : ∃ len, decode (mBy y) pc = .ok (.tableswitch d lo hi offs, len) := by
    split at hk
    · rename_i z hz
      exact ⟨z.2, by rw [hz, ← of_decide_eq_true hk]⟩
    · cases hk
  obtain ⟨x, t, rfl, h⟩ := iv_I h
  exact st_switch C.1.1 C.1.2.1 hd (of_decide_eq_true hj) (of_decide_eq_true hs) (fun o ho => of_decide_eq_true (List.all_eq_true.mp hall o ho)) h
end NAU
