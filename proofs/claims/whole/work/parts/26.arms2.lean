/-! Checked instructions, second lot: new cells, fields, constants of the pool, returns. -/
theorem mWA_bool : Jvm.Cond.arrayClass .boolean ∈ mWl := List.mem_filter.mpr ⟨List.mem_append_right _ (by decide +kernel), rfl⟩
theorem mWA_char : Jvm.Cond.arrayClass .char ∈ mWl := List.mem_filter.mpr ⟨List.mem_append_right _ (by decide +kernel), rfl⟩
theorem mWA_long : Jvm.Cond.arrayClass .long ∈ mWl := List.mem_filter.mpr ⟨List.mem_append_right _ (by decide +kernel), rfl⟩
theorem mW_lib : ∀ w ∈ [Jvm.Cond.instanceMethod Lib.objectInit, Jvm.Cond.code Lib.objectInit ⟨#[177]⟩ 1 none, Jvm.Cond.native arraycopyName, Jvm.Cond.static arraycopyName, Jvm.Cond.initialized "java/lang/System", Jvm.Cond.static Lib.Math.min.name, Jvm.Cond.initialized "java/lang/Math", Jvm.Cond.code Lib.Math.min.name Lib.Math.min.code 2 (some .int)], w ∈ lw_tbl ∧ goodWord w = true := by decide +kernel
theorem mW_exc : ∀ e ∈ ["java/lang/IllegalStateException", "java/lang/IllegalArgumentException", "java/lang/IndexOutOfBoundsException", "java/util/NoSuchElementException"], Jvm.Cond.initialized e ∈ lw_tbl ∧ goodWord (Jvm.Cond.initialized e) = true := by decide +kernel
theorem mLn_eq : mLn = [⟨"java/lang/String", "length", "()I"⟩, ⟨"java/lang/String", "charAt", "(I)C"⟩, Lib.Math.min.name, arraycopyName, Lib.objectInit] := by rfl
theorem mWl_of {w : Cond} (h : w ∈ lw_tbl ∧ goodWord w = true) : w ∈ mWl := List.mem_filter.mpr h
/-- a field of class k - 1 at place b -/
def mFd (y v : Nat) (k b : Int) (n : Nat) : Bool := match mClz[(k - 1).toNat]? with
  | some q => decide (1 ≤ k) && decide (0 ≤ b) && Nat.blt b.toNat q.2.2 && mFl (mOw y) v (k - 1).toNat b.toNat && (match n with
    | 0 => decide ((q.2.1 b.toNat).2.2.1 = "I")
    | 1 => decide ((q.2.1 b.toNat).2.2.1 ≠ "I") && decide ((q.2.1 b.toNat).2.2.1 ≠ "Z")
    | 2 => decide ((q.2.1 b.toNat).2.2.1 = "Z")
    | _ => false)
  | none => false
theorem mFd_ok {y v n : Nat} {k b : Int} (h : mFd y v k b n = true) : ∃ q : vw_C, mClz[(k - 1).toNat]? = some q ∧ 1 ≤ k ∧ 0 ≤ b ∧ b.toNat < q.2.2 ∧ Jvm.Cond.fieldLink (mCname (mOw y)) v (q.2.1 b.toNat).1 (q.2.1 b.toNat).2.1 (q.2.1 b.toNat).2.2.1 ∈ mWl ∧
    ((n = 0 ∧ (q.2.1 b.toNat).2.2.1 = "I") ∨ (n = 1 ∧ (q.2.1 b.toNat).2.2.1 ≠ "I" ∧ (q.2.1 b.toNat).2.2.1 ≠ "Z") ∨ (n = 2 ∧ (q.2.1 b.toNat).2.2.1 = "Z")) := by
  unfold mFd at h
  split at h
  · rename_i q hq
    simp only [Bool.and_eq_true, decide_eq_true_eq] at h
    obtain ⟨⟨⟨⟨h1, h2⟩, h3⟩, h4⟩, h5⟩ := h
    refine ⟨q, hq, h1, h2, Nat.le_of_ble_eq_true h3, ?_, ?_⟩
    · have h6 := mFl_ok h4
      have h7 : mClz.getD (k - 1).toNat ("", mT8, 0) = q := by rw [List.getD_eq_getElem?_getD, hq]; rfl
      unfold wF mTn at h6
      dsimp only at h6
      rw [h7] at h6
      exact h6
    · split at h5
      · exact Or.inl ⟨rfl, of_decide_eq_true h5⟩
      · rw [Bool.and_eq_true, decide_eq_true_eq, decide_eq_true_eq] at h5
        exact Or.inr (Or.inl ⟨rfl, h5⟩)
      · exact Or.inr (Or.inr ⟨rfl, of_decide_eq_true h5⟩)
      · cases h5
  · cases h
section NAS
variable {ρ : mRho} {p : Program} {l : Launch} {e : Env} {R : Room} {s : State} {m : MethodId} {args : Array Value} {below : List Frame} {meth : Method} {c : Code} {Qe : State → Prop} {y : Nat} {H0 : Heap} {S0 Sf : mH} {If : mN} {D mcR msR : Nat} {r : mZ}
variable {pc : Nat} {mls : mM} {mst : List mV} {I : mN} {S : mH} {rest : mC → Prop} {a n nx : Nat} {b k : Int}
theorem ar_newa_bool  (C : mCx ρ p l e R s m args below meth c Qe y H0 S0 Sf D mcR msR r If) (hk : (mNx y (pc, .newarray .boolean, a, b, k, n) 2 nx && decide (k = 51)) = true) (hr : ∀ c', rest c' → (mPt ρ p l e R s m args below meth c Qe y H0 S0 Sf) nx c') (h : mAct (mRun D) y pc (mPt ρ p l e R s m args below meth c Qe y H0 S0 Sf) (mOne r If Sf) rest (mDo (pc, .newarray .boolean, a, b, k, n) (mls, mst, I, S))) : (mPt ρ p l e R s m args below meth c Qe y H0 S0 Sf) pc (mls, mst, I, S) := by
  rw [Bool.and_eq_true] at hk
  obtain ⟨hk, hv⟩ := hk
  obtain ⟨hd, rfl⟩ := mNx_ok hk
  have hRc : Sf.2.2.2.1 ≤ S0.2.2.2.1 + (R.cells : Int) := by rw [C.2.2.2.1.2.1, C.2.2.2.1.2.2.1]; exact Int.le_refl _
  have hRs : Sf.2.2.2.2 ≤ S0.2.2.2.2 + (R.slots : Int) := by rw [C.2.2.2.1.2.1, C.2.2.2.1.2.2.2]; exact Int.le_refl _
  obtain rfl : k = 51 := of_decide_eq_true hv
  obtain ⟨x, t, rfl, h⟩ := iv_I h
  have h : (0 ≤ x ∧ x ≤ 100000) ∧ rest (mls, mR S.2.2.2.1 :: t, mNewN I S, mNewH S 51 x) := h
  exact st_newa_bool C.1.1 C.1.2.1 hRc hRs (C.2.1.1 _ mWA_bool) h.1.1 h.1.2 hd (hr _ h.2)
theorem ar_newa_char  (C : mCx ρ p l e R s m args below meth c Qe y H0 S0 Sf D mcR msR r If) (hk : (mNx y (pc, .newarray .char, a, b, k, n) 2 nx && decide (k = 52)) = true) (hr : ∀ c', rest c' → (mPt ρ p l e R s m args below meth c Qe y H0 S0 Sf) nx c') (h : mAct (mRun D) y pc (mPt ρ p l e R s m args below meth c Qe y H0 S0 Sf) (mOne r If Sf) rest (mDo (pc, .newarray .char, a, b, k, n) (mls, mst, I, S))) : (mPt ρ p l e R s m args below meth c Qe y H0 S0 Sf) pc (mls, mst, I, S) := by
  rw [Bool.and_eq_true] at hk
  obtain ⟨hk, hv⟩ := hk
  obtain ⟨hd, rfl⟩ := mNx_ok hk
  have hRc : Sf.2.2.2.1 ≤ S0.2.2.2.1 + (R.cells : Int) := by rw [C.2.2.2.1.2.1, C.2.2.2.1.2.2.1]; exact Int.le_refl _
  have hRs : Sf.2.2.2.2 ≤ S0.2.2.2.2 + (R.slots : Int) := by rw [C.2.2.2.1.2.1, C.2.2.2.1.2.2.2]; exact Int.le_refl _
  obtain rfl : k = 52 := of_decide_eq_true hv
  obtain ⟨x, t, rfl, h⟩ := iv_I h
  have h : (0 ≤ x ∧ x ≤ 100000) ∧ rest (mls, mR S.2.2.2.1 :: t, mNewN I S, mNewH S 52 x) := h
  exact st_newa_char C.1.1 C.1.2.1 hRc hRs (C.2.1.1 _ mWA_char) h.1.1 h.1.2 hd (hr _ h.2)
theorem ar_newa_long  (C : mCx ρ p l e R s m args below meth c Qe y H0 S0 Sf D mcR msR r If) (hk : (mNx y (pc, .newarray .long, a, b, k, n) 2 nx && decide (k = 53)) = true) (hr : ∀ c', rest c' → (mPt ρ p l e R s m args below meth c Qe y H0 S0 Sf) nx c') (h : mAct (mRun D) y pc (mPt ρ p l e R s m args below meth c Qe y H0 S0 Sf) (mOne r If Sf) rest (mDo (pc, .newarray .long, a, b, k, n) (mls, mst, I, S))) : (mPt ρ p l e R s m args below meth c Qe y H0 S0 Sf) pc (mls, mst, I, S) := by
  rw [Bool.and_eq_true] at hk
  obtain ⟨hk, hv⟩ := hk
  obtain ⟨hd, rfl⟩ := mNx_ok hk
  have hRc : Sf.2.2.2.1 ≤ S0.2.2.2.1 + (R.cells : Int) := by rw [C.2.2.2.1.2.1, C.2.2.2.1.2.2.1]; exact Int.le_refl _
  have hRs : Sf.2.2.2.2 ≤ S0.2.2.2.2 + (R.slots : Int) := by rw [C.2.2.2.1.2.1, C.2.2.2.1.2.2.2]; exact Int.le_refl _
  obtain rfl : k = 53 := of_decide_eq_true hv
  obtain ⟨x, t, rfl, h⟩ := iv_I h
  have h : (0 ≤ x ∧ x ≤ 100000) ∧ rest (mls, mR S.2.2.2.1 :: t, mNewN I S, mNewH S 53 x) := h
  exact st_newa_long C.1.1 C.1.2.1 hRc hRs (C.2.1.1 _ mWA_long) h.1.1 h.1.2 hd (hr _ h.2)
theorem ar_anewa {v : Nat} (C : mCx ρ p l e R s m args below meth c Qe y H0 S0 Sf D mcR msR r If) (hk : (mNx y (pc, .anewarray v, a, b, k, n) 3 nx && (decide (60 ≤ k ∧ k < 72) && mFm mLC (mOw y) v (k - 60).toNat && mF1 mWO (k - 60).toNat)) = true) (hr : ∀ c', rest c' → (mPt ρ p l e R s m args below meth c Qe y H0 S0 Sf) nx c') (h : mAct (mRun D) y pc (mPt ρ p l e R s m args below meth c Qe y H0 S0 Sf) (mOne r If Sf) rest (mDo (pc, .anewarray v, a, b, k, n) (mls, mst, I, S))) : (mPt ρ p l e R s m args below meth c Qe y H0 S0 Sf) pc (mls, mst, I, S) := by
  rw [Bool.and_eq_true] at hk
  obtain ⟨hk, hv⟩ := hk
  obtain ⟨hd, rfl⟩ := mNx_ok hk
  have hRc : Sf.2.2.2.1 ≤ S0.2.2.2.1 + (R.cells : Int) := by rw [C.2.2.2.1.2.1, C.2.2.2.1.2.2.1]; exact Int.le_refl _
  have hRs : Sf.2.2.2.2 ≤ S0.2.2.2.2 + (R.slots : Int) := by rw [C.2.2.2.1.2.1, C.2.2.2.1.2.2.2]; exact Int.le_refl _
  rw [Bool.and_eq_true, Bool.and_eq_true, decide_eq_true_eq] at hv
  obtain ⟨⟨hk1, hlk⟩, hov⟩ := hv
  obtain ⟨q, hq⟩ : ∃ q, mClz[(k - 60).toNat]? = some q := ⟨_, List.getElem?_eq_getElem (by show (k - 60).toNat < 12; omega)⟩
  obtain ⟨g, hg⟩ := mF1_in hov
  have hover : va_AO (mCname (k - 60).toNat) s := C.2.1.2.1.2.1 _ hg
  have hlink := C.2.1.1 _ (mFm_c hlk)
  rw [← mClz_name _ _ hq] at hover hlink
  obtain ⟨x, t, rfl, h⟩ := iv_I h
  have h : (0 ≤ x ∧ x ≤ 100000) ∧ rest (mls, mR S.2.2.2.1 :: t, mNewN I S, mNewH S k x) := h
  have e9 : (((k - 60).toNat : Nat) : Int) + 60 = k := by omega
  exact st_anew (cn := (k - 60).toNat) C.1.1 C.1.2.1 hRc hRs C.2.1.2.1 hq hover C.1.2.2.2 hlink h.1.1 h.1.2 hd (by rw [e9]; exact hr _ h.2)
theorem ar_new {v : Nat} (C : mCx ρ p l e R s m args below meth c Qe y H0 S0 Sf D mcR msR r If) (hk : (mNx y (pc, .new v, a, b, k, n) 3 nx && (decide (n = 0) && decide (1 ≤ k ∧ k < 13) && mFm mLC (mOw y) v (k - 1).toNat && mF1 mWN (k - 1).toNat && mF1 mWD (k - 1).toNat && decide (b = ((mClz.getD (k - 1).toNat ("", mT8, 0)).2.2 : Nat)))) = true) (hr : ∀ c', rest c' → (mPt ρ p l e R s m args below meth c Qe y H0 S0 Sf) nx c') (h : mAct (mRun D) y pc (mPt ρ p l e R s m args below meth c Qe y H0 S0 Sf) (mOne r If Sf) rest (mDo (pc, .new v, a, b, k, n) (mls, mst, I, S))) : (mPt ρ p l e R s m args below meth c Qe y H0 S0 Sf) pc (mls, mst, I, S) := by
  rw [Bool.and_eq_true] at hk
  obtain ⟨hk, hv⟩ := hk
  obtain ⟨hd, rfl⟩ := mNx_ok hk
  have hRc : Sf.2.2.2.1 ≤ S0.2.2.2.1 + (R.cells : Int) := by rw [C.2.2.2.1.2.1, C.2.2.2.1.2.2.1]; exact Int.le_refl _
  have hRs : Sf.2.2.2.2 ≤ S0.2.2.2.2 + (R.slots : Int) := by rw [C.2.2.2.1.2.1, C.2.2.2.1.2.2.2]; exact Int.le_refl _
  simp only [Bool.and_eq_true, decide_eq_true_eq] at hv
  obtain ⟨⟨⟨⟨⟨hn, hk1⟩, hlk⟩, hwn⟩, hwd⟩, hb9⟩ := hv
  subst hn
  obtain ⟨q, hq⟩ : ∃ q, mClz[(k - 1).toNat]? = some q := ⟨_, List.getElem?_eq_getElem (by show (k - 1).toNat < 12; omega)⟩
  have h7 : mClz.getD (k - 1).toNat ("", mT8, 0) = q := by rw [List.getD_eq_getElem?_getD, hq]; rfl
  have hlink := C.2.1.1 _ (mFm_c hlk)
  have hins := C.2.1.1 _ (mF1_n hwn)
  have hini := C.2.1.1 _ (mF1_d hwd)
  rw [h7] at hins hb9
  rw [← mClz_name _ _ hq] at hlink hins hini
  have h : True ∧ rest (mls, mR S.2.2.2.1 :: mst, mNewN I S, mNewH S k b) := h
  have e9 : (((k - 1).toNat : Nat) : Int) + 1 = k := by omega
  exact st_new (cn := (k - 1).toNat) C.1.1 C.1.2.1 hRc hRs C.2.1.2.1 C.2.1.1 hq C.1.2.2.2 hlink hins hini hd (by rw [e9, ← hb9]; exact hr _ h.2)
theorem ar_getf {v : Nat} (C : mCx ρ p l e R s m args below meth c Qe y H0 S0 Sf D mcR msR r If) (hk : (mNx y (pc, .getfield v, a, b, k, n) 3 nx && mFd y v k b n) = true) (hr : ∀ c', rest c' → (mPt ρ p l e R s m args below meth c Qe y H0 S0 Sf) nx c') (h : mAct (mRun D) y pc (mPt ρ p l e R s m args below meth c Qe y H0 S0 Sf) (mOne r If Sf) rest (mDo (pc, .getfield v, a, b, k, n) (mls, mst, I, S))) : (mPt ρ p l e R s m args below meth c Qe y H0 S0 Sf) pc (mls, mst, I, S) := by
  rw [Bool.and_eq_true] at hk
  obtain ⟨hk, hv⟩ := hk
  obtain ⟨hd, rfl⟩ := mNx_ok hk
  obtain ⟨q, hq, hk1, hb0, hbl, hlk, hty⟩ := mFd_ok hv
  obtain ⟨x, t, rfl, h⟩ := iv_R h
  have e9 : (((k - 1).toNat : Nat) : Int) + 1 = k := by omega
  have e8 : ((b.toNat : Nat) : Int) = b := by omega
  rcases hty with ⟨rfl, ht⟩ | ⟨rfl, ht, ht2⟩ | ⟨rfl, ht⟩
  · have h : S.2.1 x = k ∧ rest (mls, mI (I x b) :: t, I, S) := h
    refine st_getf (cn := (k - 1).toNat) (k := b.toNat) C.1.1 C.1.2.1 C.1.2.2.2 C.2.1.1 C.2.1.2.1 hq hbl (C.2.1.1 _ hlk) (by rw [e9]; exact h.1) hd (w := mI (I x b)) (fun v hv => ?_) (hr _ h.2)
    unfold mFld at hv
    rw [if_pos ht, e8] at hv
    exact hv
  · have h : S.2.1 x = k ∧ rest (mls, mR (S.1 x b) :: t, I, S) := h
    refine st_getf (cn := (k - 1).toNat) (k := b.toNat) C.1.1 C.1.2.1 C.1.2.2.2 C.2.1.1 C.2.1.2.1 hq hbl (C.2.1.1 _ hlk) (by rw [e9]; exact h.1) hd (w := mR (S.1 x b)) (fun v hv => ?_) (hr _ h.2)
    unfold mFld at hv
    rw [if_neg ht, if_neg ht2, e8] at hv
    exact hv
  · have h : S.2.1 x = k ∧ rest (mls, mI (I x b) :: t, I, S) := h
    refine st_getf (cn := (k - 1).toNat) (k := b.toNat) C.1.1 C.1.2.1 C.1.2.2.2 C.2.1.1 C.2.1.2.1 hq hbl (C.2.1.1 _ hlk) (by rw [e9]; exact h.1) hd (w := mI (I x b)) (fun v hv => ?_) (hr _ h.2)
    unfold mFld at hv
    rw [if_neg (by rw [ht]; decide), if_pos ht, e8] at hv
    exact ⟨by unfold mIn; omega, hv.2⟩
theorem ar_ldc {v : Nat} (C : mCx ρ p l e R s m args below meth c Qe y H0 S0 Sf D mcR msR r If) (hk : (mNx y (pc, .ldc v, a, b, k, n) 2 nx && (match n with | 0 => Nat.blt a 37 && mFm mLS (mOw y) v a | _ + 1 => mInB b && mFi (mOw y) v b)) = true) (hr : ∀ c', rest c' → (mPt ρ p l e R s m args below meth c Qe y H0 S0 Sf) nx c') (h : mAct (mRun D) y pc (mPt ρ p l e R s m args below meth c Qe y H0 S0 Sf) (mOne r If Sf) rest (mDo (pc, .ldc v, a, b, k, n) (mls, mst, I, S))) : (mPt ρ p l e R s m args below meth c Qe y H0 S0 Sf) pc (mls, mst, I, S) := by
  rw [Bool.and_eq_true] at hk
  obtain ⟨hk, hv⟩ := hk
  obtain ⟨hd, rfl⟩ := mNx_ok hk
  cases n with
  | zero =>
    have hv : (Nat.blt a 37 && mFm mLS (mOw y) v a) = true := hv
    rw [Bool.and_eq_true] at hv
    have h : True ∧ rest (mls, mS a :: mst, I, S) := h
    exact st_ldcS C.1.1 C.1.2.1 (Nat.le_of_ble_eq_true hv.1) C.1.2.2.2 (mFm_s C.2.1.2.2 hv.2) hd (hr _ h.2)
  | succ n =>
    have hv : (mInB b && mFi (mOw y) v b) = true := hv
    rw [Bool.and_eq_true] at hv
    have h : True ∧ rest (mls, mI b :: mst, I, S) := h
    exact st_ldcI C.1.1 C.1.2.1 (mInB_ok hv.1) C.1.2.2.2 (C.2.1.1 _ (mFi_ok hv.2)) hd (hr _ h.2)
theorem ar_ldcw {v : Nat} (C : mCx ρ p l e R s m args below meth c Qe y H0 S0 Sf D mcR msR r If) (hk : (mNx y (pc, .ldc_w v, a, b, k, n) 3 nx && (match n with | 0 => false | _ + 1 => mInB b && mFi (mOw y) v b)) = true) (hr : ∀ c', rest c' → (mPt ρ p l e R s m args below meth c Qe y H0 S0 Sf) nx c') (h : mAct (mRun D) y pc (mPt ρ p l e R s m args below meth c Qe y H0 S0 Sf) (mOne r If Sf) rest (mDo (pc, .ldc_w v, a, b, k, n) (mls, mst, I, S))) : (mPt ρ p l e R s m args below meth c Qe y H0 S0 Sf) pc (mls, mst, I, S) := by
  rw [Bool.and_eq_true] at hk
  obtain ⟨hk, hv⟩ := hk
  obtain ⟨hd, rfl⟩ := mNx_ok hk
  cases n with
  | zero => cases hv
  | succ n =>
    have hv : (mInB b && mFi (mOw y) v b) = true := hv
    rw [Bool.and_eq_true] at hv
    have h : True ∧ rest (mls, mI b :: mst, I, S) := h
    exact st_ldcwI C.1.1 C.1.2.1 (mInB_ok hv.1) C.1.2.2.2 (C.2.1.1 _ (mFi_ok hv.2)) hd (hr _ h.2)
theorem ar_aastore  (C : mCx ρ p l e R s m args below meth c Qe y H0 S0 Sf D mcR msR r If) (hk : (mNx y (pc, .aastore, a, b, k, n) 1 nx && (decide (60 ≤ k ∧ k < 72) && decide (b = k - 59))) = true) (hr : ∀ c', rest c' → (mPt ρ p l e R s m args below meth c Qe y H0 S0 Sf) nx c') (h : mAct (mRun D) y pc (mPt ρ p l e R s m args below meth c Qe y H0 S0 Sf) (mOne r If Sf) rest (mDo (pc, .aastore, a, b, k, n) (mls, mst, I, S))) : (mPt ρ p l e R s m args below meth c Qe y H0 S0 Sf) pc (mls, mst, I, S) := by
  rw [Bool.and_eq_true] at hk
  obtain ⟨hk, hv⟩ := hk
  obtain ⟨hd, rfl⟩ := mNx_ok hk
  rw [Bool.and_eq_true, decide_eq_true_eq, decide_eq_true_eq] at hv
  obtain ⟨hk1, hb9⟩ := hv
  obtain ⟨q, hq⟩ : ∃ q, mClz[(k - 60).toNat]? = some q := ⟨_, List.getElem?_eq_getElem (by show (k - 60).toNat < 12; omega)⟩
  obtain ⟨x, i, v, t, rfl, h⟩ := iv_RIR h
  have h : (S.2.1 x = k ∧ 0 ≤ i ∧ i < S.2.2.1 x ∧ S.2.1 v = b) ∧ rest (mls, t, I, (mUp S.1 x i v, S.2)) := h
  exact st_aastore (cn := (k - 60).toNat) C.1.1 C.1.2.1 C.2.1.2.1 hq (by rw [h.1.1]; omega) (by rw [h.1.2.2.2]; omega) h.1.2.1 h.1.2.2.1 hd (hr _ h.2)
theorem ar_return  (C : mCx ρ p l e R s m args below meth c Qe y H0 S0 Sf D mcR msR r If) (hk : (mDc y (pc, .return_, a, b, k, n) 1 && Nat.blt y 413 && decide (mRet y = none)) = true) (hr : ∀ c', rest c' → (mPt ρ p l e R s m args below meth c Qe y H0 S0 Sf) nx c') (h : mAct (mRun D) y pc (mPt ρ p l e R s m args below meth c Qe y H0 S0 Sf) (mOne r If Sf) rest (mDo (pc, .return_, a, b, k, n) (mls, mst, I, S))) : (mPt ρ p l e R s m args below meth c Qe y H0 S0 Sf) pc (mls, mst, I, S) := by
  rw [Bool.and_eq_true] at hk
  obtain ⟨hk, hv⟩ := hk
  rw [Bool.and_eq_true] at hk
  obtain ⟨hk, hy4⟩ := hk
  have hQ := C.2.2.1.2.2.2.2.1 (show y ≠ 413 from fun h9 => absurd (Nat.le_of_ble_eq_true hy4 : y < 413) (by omega))
  have hd := mDc_ok hk
  have hre : mRet y = none := of_decide_eq_true hv
  cases mst with
  | nil =>
    have h : True ∧ (.inl none = r ∧ I = If ∧ S = Sf) := h
    obtain ⟨-, rfl, rfl, rfl⟩ := h
    rw [hQ]; exact st_retV C.1.1 C.1.2.1 C.2.2.1.1 C.2.2.2.1.2.2.1 C.2.2.2.1.2.2.2 (C.2.2.2.2.1.trans hre) C.2.2.1.2.2.1 hd
  | cons w t => exact (show False ∧ _ from h).1.elim
theorem ar_iret  (C : mCx ρ p l e R s m args below meth c Qe y H0 S0 Sf D mcR msR r If) (hk : (mDc y (pc, .ireturn, a, b, k, n) 1 && Nat.blt y 413 && (decide (n = 0 ∧ mRet y = some .int) || decide (n = 2 ∧ mRet y = some .boolean) || decide (n = 3 ∧ mRet y = some .char))) = true) (hr : ∀ c', rest c' → (mPt ρ p l e R s m args below meth c Qe y H0 S0 Sf) nx c') (h : mAct (mRun D) y pc (mPt ρ p l e R s m args below meth c Qe y H0 S0 Sf) (mOne r If Sf) rest (mDo (pc, .ireturn, a, b, k, n) (mls, mst, I, S))) : (mPt ρ p l e R s m args below meth c Qe y H0 S0 Sf) pc (mls, mst, I, S) := by
  rw [Bool.and_eq_true] at hk
  obtain ⟨hk, hv⟩ := hk
  rw [Bool.and_eq_true] at hk
  obtain ⟨hk, hy4⟩ := hk
  have hQ := C.2.2.1.2.2.2.2.1 (show y ≠ 413 from fun h9 => absurd (Nat.le_of_ble_eq_true hy4 : y < 413) (by omega))
  have hd := mDc_ok hk
  rw [Bool.or_eq_true, Bool.or_eq_true, decide_eq_true_eq, decide_eq_true_eq, decide_eq_true_eq] at hv
  have h : mAct (mRun D) y pc (mPt ρ p l e R s m args below meth c Qe y H0 S0 Sf) (mOne r If Sf) rest (mRetI n (mls, mst, I, S)) := h
  unfold mRetI at h
  dsimp only at h
  split at h
  · rename_i x _
    have h : (n = 0 ∨ (n = 2 ∧ 0 ≤ x ∧ x ≤ 1) ∨ (n = 3 ∧ 0 ≤ x ∧ x ≤ 65535)) ∧ (.inl (some (mI x)) = r ∧ I = If ∧ S = Sf) := h
    obtain ⟨h1, rfl, rfl, rfl⟩ := h
    rw [hQ]
    refine st_retI C.1.1 C.1.2.1 C.2.2.1.1 C.2.2.2.1.2.2.1 C.2.2.2.1.2.2.2 ?_ C.2.2.1.2.2.1 hd
    rw [C.2.2.2.2.1]
    rcases hv with (⟨g1, g2⟩ | ⟨g1, g2⟩) | ⟨g1, g2⟩
    · exact Or.inl g2
    · rcases h1 with h1 | h1 | h1
      · omega
      · exact Or.inr (Or.inl ⟨g2, h1.2⟩)
      · omega
    · rcases h1 with h1 | h1 | h1
      · omega
      · omega
      · exact Or.inr (Or.inr ⟨g2, h1.2⟩)
  · exact h.1.elim
theorem ar_aret  (C : mCx ρ p l e R s m args below meth c Qe y H0 S0 Sf D mcR msR r If) (hk : (mDc y (pc, .areturn, a, b, k, n) 1 && Nat.blt y 413 && (match mRet y with | some (.object _) => true | some (.array _) => true | _ => false)) = true) (hr : ∀ c', rest c' → (mPt ρ p l e R s m args below meth c Qe y H0 S0 Sf) nx c') (h : mAct (mRun D) y pc (mPt ρ p l e R s m args below meth c Qe y H0 S0 Sf) (mOne r If Sf) rest (mDo (pc, .areturn, a, b, k, n) (mls, mst, I, S))) : (mPt ρ p l e R s m args below meth c Qe y H0 S0 Sf) pc (mls, mst, I, S) := by
  rw [Bool.and_eq_true] at hk
  obtain ⟨hk, hv⟩ := hk
  rw [Bool.and_eq_true] at hk
  obtain ⟨hk, hy4⟩ := hk
  have hQ := C.2.2.1.2.2.2.2.1 (show y ≠ 413 from fun h9 => absurd (Nat.le_of_ble_eq_true hy4 : y < 413) (by omega))
  have hd := mDc_ok hk
  obtain ⟨rt, hre, hrt⟩ : ∃ rt, mRet y = some rt ∧ ((∃ n, rt = FieldType.object n) ∨ ∃ t, rt = FieldType.array t) := by
    split at hv
    · rename_i z hz; exact ⟨_, hz, Or.inl ⟨_, rfl⟩⟩
    · rename_i z hz; exact ⟨_, hz, Or.inr ⟨_, rfl⟩⟩
    · cases hv
  have h : mAct (mRun D) y pc (mPt ρ p l e R s m args below meth c Qe y H0 S0 Sf) (mOne r If Sf) rest (mRetA (mls, mst, I, S)) := h
  unfold mRetA at h
  dsimp only at h
  split at h
  · rename_i x _
    have h : True ∧ (.inl (some (mR x)) = r ∧ I = If ∧ S = Sf) := h
    obtain ⟨-, rfl, rfl, rfl⟩ := h
    rw [hQ]; exact st_retA C.1.1 C.1.2.1 C.2.2.1.1 C.2.2.2.1.2.2.1 C.2.2.2.1.2.2.2 (Or.inl ⟨_, rfl⟩) (C.2.2.2.2.1.trans hre) hrt C.2.2.1.2.2.1 hd
  · rename_i x _
    have h : True ∧ (.inl (some (mS x)) = r ∧ I = If ∧ S = Sf) := h
    obtain ⟨-, rfl, rfl, rfl⟩ := h
    rw [hQ]; exact st_retA C.1.1 C.1.2.1 C.2.2.1.1 C.2.2.2.1.2.2.1 C.2.2.2.1.2.2.2 (Or.inr ⟨_, rfl⟩) (C.2.2.2.2.1.trans hre) hrt C.2.2.1.2.2.1 hd
  · exact h.1.elim
theorem ar_fret  (C : mCx ρ p l e R s m args below meth c Qe y H0 S0 Sf D mcR msR r If) (hk : (mDc y (pc, .freturn, a, b, k, n) 1 && Nat.blt y 413 && decide (mRet y = some .float)) = true) (hr : ∀ c', rest c' → (mPt ρ p l e R s m args below meth c Qe y H0 S0 Sf) nx c') (h : mAct (mRun D) y pc (mPt ρ p l e R s m args below meth c Qe y H0 S0 Sf) (mOne r If Sf) rest (mDo (pc, .freturn, a, b, k, n) (mls, mst, I, S))) : (mPt ρ p l e R s m args below meth c Qe y H0 S0 Sf) pc (mls, mst, I, S) := by
  rw [Bool.and_eq_true] at hk
  obtain ⟨hk, hv⟩ := hk
  rw [Bool.and_eq_true] at hk
  obtain ⟨hk, hy4⟩ := hk
  have hQ := C.2.2.1.2.2.2.2.1 (show y ≠ 413 from fun h9 => absurd (Nat.le_of_ble_eq_true hy4 : y < 413) (by omega))
  have hd := mDc_ok hk
  have hre : mRet y = some .float := of_decide_eq_true hv
  have h : mAct (mRun D) y pc (mPt ρ p l e R s m args below meth c Qe y H0 S0 Sf) (mOne r If Sf) rest (mRetF (mls, mst, I, S)) := h
  unfold mRetF at h
  dsimp only at h
  split at h
  · rename_i x _
    have h : True ∧ (.inl (some (mF x)) = r ∧ I = If ∧ S = Sf) := h
    obtain ⟨-, rfl, rfl, rfl⟩ := h
    rw [hQ]; exact st_retF C.1.1 C.1.2.1 C.2.2.1.1 C.2.2.2.1.2.2.1 C.2.2.2.1.2.2.2 (C.2.2.2.2.1.trans hre) C.2.2.1.2.2.1 hd
  · exact h.1.elim
theorem ar_dret  (C : mCx ρ p l e R s m args below meth c Qe y H0 S0 Sf D mcR msR r If) (hk : (mDc y (pc, .dreturn, a, b, k, n) 1 && Nat.blt y 413 && decide (mRet y = some .double)) = true) (hr : ∀ c', rest c' → (mPt ρ p l e R s m args below meth c Qe y H0 S0 Sf) nx c') (h : mAct (mRun D) y pc (mPt ρ p l e R s m args below meth c Qe y H0 S0 Sf) (mOne r If Sf) rest (mDo (pc, .dreturn, a, b, k, n) (mls, mst, I, S))) : (mPt ρ p l e R s m args below meth c Qe y H0 S0 Sf) pc (mls, mst, I, S) := by
  rw [Bool.and_eq_true] at hk
  obtain ⟨hk, hv⟩ := hk
  rw [Bool.and_eq_true] at hk
  obtain ⟨hk, hy4⟩ := hk
  have hQ := C.2.2.1.2.2.2.2.1 (show y ≠ 413 from fun h9 => absurd (Nat.le_of_ble_eq_true hy4 : y < 413) (by omega))
  have hd := mDc_ok hk
  have hre : mRet y = some .double := of_decide_eq_true hv
  have h : mAct (mRun D) y pc (mPt ρ p l e R s m args below meth c Qe y H0 S0 Sf) (mOne r If Sf) rest (mRetD (mls, mst, I, S)) := h
  unfold mRetD at h
  dsimp only at h
  split at h
  · rename_i x _
    have h : True ∧ (.inl (some (mD x)) = r ∧ I = If ∧ S = Sf) := h
    obtain ⟨-, rfl, rfl, rfl⟩ := h
    rw [hQ]; exact st_retD C.1.1 C.1.2.1 C.2.2.1.1 C.2.2.2.1.2.2.1 C.2.2.2.1.2.2.2 (C.2.2.2.2.1.trans hre) C.2.2.1.2.2.1 hd
  · exact h.1.elim
theorem ar_lret  (C : mCx ρ p l e R s m args below meth c Qe y H0 S0 Sf D mcR msR r If) (hk : (mDc y (pc, .ireturn, a, b, k, n) 1 && Nat.beq y 413 && decide (n = 2)) = true) (hr : ∀ c', rest c' → (mPt ρ p l e R s m args below meth c Qe y H0 S0 Sf) nx c') (h : mAct (mRun D) y pc (mPt ρ p l e R s m args below meth c Qe y H0 S0 Sf) (mOne r If Sf) rest (mDo (pc, .ireturn, a, b, k, n) (mls, mst, I, S))) : (mPt ρ p l e R s m args below meth c Qe y H0 S0 Sf) pc (mls, mst, I, S) := by
  rw [Bool.and_eq_true] at hk
  obtain ⟨hk, hv⟩ := hk
  rw [Bool.and_eq_true] at hk
  obtain ⟨hk, hy⟩ := hk
  have hd := mDc_ok hk
  have hy : y = 413 := Nat.eq_of_beq_eq_true hy
  have hv : n = 2 := of_decide_eq_true hv
  obtain ⟨hr1, hend, -⟩ := C.2.2.1.2.2.2.2.2.2.2 hy
  have h : mAct (mRun D) y pc (mPt ρ p l e R s m args below meth c Qe y H0 S0 Sf) (mOne r If Sf) rest (mRetI n (mls, mst, I, S)) := h
  unfold mRetI at h
  dsimp only at h
  split at h
  · rename_i x _
    have h : (n = 0 ∨ (n = 2 ∧ 0 ≤ x ∧ x ≤ 1) ∨ (n = 3 ∧ 0 ≤ x ∧ x ≤ 65535)) ∧ (.inl (some (mI x)) = r ∧ I = If ∧ S = Sf) := h
    obtain ⟨h1, h2, rfl, rfl⟩ := h
    rw [hr1] at h2
    cases h2
    have hR1 := C.2.2.2.1.2.2.1
    have hR2 := C.2.2.2.1.2.2.2
    refine ⟨⟨Int.le_refl _, Int.le_refl _⟩, fun H locs cells slots ls stk hL hS hH hO hC => ?_⟩
    obtain ⟨v1, l1, rfl, hv1, hS1⟩ := mStk_c hS
    cases mStk_n hS1
    obtain ⟨-, rfl⟩ := hv1
    dsimp only at hC
    exact hend pc H locs cells slots ls hd hO (by have := hC.1; omega) (by have := hC.2; omega)
  · exact h.1.elim
end NAS
