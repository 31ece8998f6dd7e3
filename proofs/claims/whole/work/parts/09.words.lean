/-! where the tables' words stand: one walk along the table a list of words -/
def mSub : List Cond → List (Nat × Cond) → Bool
  | _, [] => true
  | t, q :: l => match t.drop q.1 with
    | [] => false
    | c :: t' => decide (c = q.2) && (goodWord c && mSub t' l)
theorem mSub_ok : ∀ (l : List (Nat × Cond)) (t : List Cond), mSub t l = true → ∀ q ∈ l, q.2 ∈ t.filter goodWord
  | [], _, _ => fun q h => by cases h
  | q :: l, t, h => by
    unfold mSub at h
    split at h
    · cases h
    · rename_i c t' ht
      rw [Bool.and_eq_true, Bool.and_eq_true, decide_eq_true_eq] at h
      obtain ⟨h1, h2, h3⟩ := h
      have hc : ∀ x, x ∈ c :: t' → x ∈ t := fun x hx => List.mem_of_mem_drop (i := q.1) (by rw [ht]; exact hx)
      intro z hz
      rcases List.mem_cons.mp hz with rfl | hz
      · rw [← h1]
        exact List.mem_filter.mpr ⟨hc _ List.mem_cons_self, h2⟩
      · have h4 := List.mem_filter.mp (mSub_ok l t' h3 z hz)
        exact List.mem_filter.mpr ⟨hc _ (List.mem_cons_of_mem _ h4.1), h4.2⟩
/-- the words that all contracts of the small machine have -/
def mWl : List Cond := lw_tbl.filter goodWord
theorem mWl_in {w : Cond} (h : w ∈ mWl) : w ∈ lw_tbl ∧ goodWord w = true := List.mem_filter.mp h
abbrev mTn (c k : Nat) : String × String × String × Bool := ((mClz.getD c ("", mT8, 0)).2.1) k
def wF (e : Nat × Nat × Nat × Nat) : Cond := .fieldLink (mCname e.1) e.2.1 (mTn e.2.2.1 e.2.2.2).1 (mTn e.2.2.1 e.2.2.2).2.1 (mTn e.2.2.1 e.2.2.2).2.2.1
theorem mLF_ok : mSub lw_tbl (mLF.map fun e => (e.1, wF e.2)) = true := by decide +kernel
theorem mLM_ok : mSub lw_tbl (mLM.map fun e => (e.1, Jvm.Cond.methodLink (mCname e.2.1) e.2.2.1 (mNm e.2.2.2))) = true := by decide +kernel
theorem mLC_ok : mSub lw_tbl (mLC.map fun e => (e.1, Jvm.Cond.classLink (mCname e.2.1) e.2.2.1 (mCname e.2.2.2))) = true := by decide +kernel
theorem mLE_ok : mSub lw_tbl (mLE.map fun e => (e.1, Jvm.Cond.classLink (mCname e.2.1) e.2.2.1 (mEname e.2.2.2))) = true := by decide +kernel
theorem mLI_ok : mSub lw_tbl (mLI.map fun e => (e.1, Jvm.Cond.constant (mCname e.2.1) e.2.2.1 (Int32.ofInt e.2.2.2))) = true := by decide +kernel
theorem mLX_ok : mSub lw_tbl (mLX.map fun e => (e.1, Jvm.Cond.methodLink (mCname e.2.1) e.2.2.1 (mLname e.2.2.2))) = true := by decide +kernel
theorem mWI_ok : mSub lw_tbl (mWI.map fun e => (e.1, Jvm.Cond.instanceMethod (mNm e.2))) = true := by decide +kernel
theorem mWS_ok : mSub lw_tbl (mWS.map fun e => (e.1, Jvm.Cond.static (mNm e.2))) = true := by decide +kernel
theorem mWT_ok : mSub lw_tbl (mWT.map fun e => (e.1, Jvm.Cond.selects (mNm e.2).cls (mNm e.2) (mNm e.2))) = true := by decide +kernel
theorem mWD_ok : mSub lw_tbl (mWD.map fun e => (e.1, Jvm.Cond.initialized (mCname e.2))) = true := by decide +kernel
theorem mWN_ok : mSub lw_tbl (mWN.map fun e => (e.1, Jvm.Cond.instantiable (mCname e.2) (mClz.getD e.2 ("", mT8, 0)).2.2)) = true := by decide +kernel
theorem mWL_ok : mSub lw_tbl (mWL.map fun e => (e.1, u_lay (mCname e.2.1) (mClz.getD e.2.1 ("", mT8, 0)).2.1 e.2.2)) = true := by decide +kernel
theorem mWA_int : Jvm.Cond.arrayClass .int ∈ mWl := List.mem_filter.mpr ⟨List.mem_append_right _ (by decide +kernel), rfl⟩
def mSel : List Cond → List Nat → List Cond
  | _, [] => []
  | t, g :: l => match t.drop g with
    | [] => []
    | c :: t' => c :: mSel t' l
theorem mSel_ok : ∀ (l : List Nat) (t : List Cond), ∀ w ∈ mSel t l, w ∈ t
  | [], _, w, h => by simp [mSel] at h
  | g :: l, t, w, h => by
    unfold mSel at h
    split at h
    · cases h
    · rename_i c t' ht
      have hc : ∀ x, x ∈ c :: t' → x ∈ t := fun x hx => List.mem_of_mem_drop (i := g) (by rw [ht]; exact hx)
      rcases List.mem_cons.mp h with rfl | h
      · exact hc _ List.mem_cons_self
      · exact hc _ (List.mem_cons_of_mem _ (mSel_ok l t' w h))
set_option maxRecDepth 100000 in
theorem mWC_eq : mSel lw_tbl (mWC.map (·.1)) = mWC.map (fun e => Jvm.Cond.code (mNm e.2) (mBy e.2) (mMaxL e.2) (mRet e.2)) := by rfl
