/-! What is checked of each instruction of the program as data, and what an effect tells of the stack. -/
def mDc (y : Nat) (q : mJ) (len : Nat) : Bool := match decode (mBy y) q.1 with
  | .ok r => decide (r = (q.2.1, len))
  | .error _ => false
theorem mDc_ok {y : Nat} {q : mJ} {len : Nat} (h : mDc y q len = true) : decode (mBy y) q.1 = .ok (q.2.1, len) := by
  unfold mDc at h
  split at h
  · rename_i r hr
    rw [hr, of_decide_eq_true h]
  · cases h
def mNx (y : Nat) (q : mJ) (len nx : Nat) : Bool := mDc y q len && Nat.beq nx (q.1 + len)
theorem mNx_ok {y : Nat} {q : mJ} {len nx : Nat} (h : mNx y q len nx = true) : decode (mBy y) q.1 = .ok (q.2.1, len) ∧ nx = q.1 + len := by
  unfold mNx at h
  rw [Bool.and_eq_true] at h
  exact ⟨mDc_ok h.1, Nat.eq_of_beq_eq_true h.2⟩
-- the links
theorem mSub_in {α : Type} {l : List α} {g : α → Nat × Cond} (h : mSub lw_tbl (l.map g) = true) {x : α} (hx : x ∈ l) : (g x).2 ∈ mWl := mSub_ok _ _ h _ (List.mem_map.mpr ⟨x, hx, rfl⟩)
def mFl (o i c k : Nat) : Bool := mLF.any (fun f => Nat.beq f.2.2.1 i && Nat.beq f.2.1 o && Nat.beq f.2.2.2.1 c && Nat.beq f.2.2.2.2 k)
theorem mFl_ok {o i c k : Nat} (h : mFl o i c k = true) : wF (o, i, c, k) ∈ mWl := by
  obtain ⟨f, hf, h1⟩ := List.any_eq_true.mp h
  simp only [Bool.and_eq_true] at h1
  obtain ⟨⟨⟨e1, e2⟩, e3⟩, e4⟩ := h1
  have h2 := mSub_in mLF_ok hf
  obtain ⟨g, fo, fi, fc, fk⟩ := f
  obtain rfl : fi = i := Nat.eq_of_beq_eq_true e1
  obtain rfl : fo = o := Nat.eq_of_beq_eq_true e2
  obtain rfl : fc = c := Nat.eq_of_beq_eq_true e3
  obtain rfl : fk = k := Nat.eq_of_beq_eq_true e4
  exact h2
def mFm (l : List (Nat × Nat × Nat × Nat)) (o i t : Nat) : Bool := l.any (fun f => Nat.beq f.2.2.1 i && Nat.beq f.2.1 o && Nat.beq f.2.2.2 t)
theorem mFm_in {l : List (Nat × Nat × Nat × Nat)} {o i t : Nat} (h : mFm l o i t = true) : ∃ g, (g, o, i, t) ∈ l := by
  obtain ⟨f, hf, h1⟩ := List.any_eq_true.mp h
  simp only [Bool.and_eq_true] at h1
  obtain ⟨⟨e1, e2⟩, e3⟩ := h1
  obtain ⟨g, fo, fi, ft⟩ := f
  obtain rfl : fi = i := Nat.eq_of_beq_eq_true e1
  obtain rfl : fo = o := Nat.eq_of_beq_eq_true e2
  obtain rfl : ft = t := Nat.eq_of_beq_eq_true e3
  exact ⟨g, hf⟩
theorem mFm_m {o i t : Nat} (h : mFm mLM o i t = true) : Jvm.Cond.methodLink (mCname o) i (mNm t) ∈ mWl := by
  obtain ⟨g, hg⟩ := mFm_in h
  exact mSub_in mLM_ok hg
theorem mFm_c {o i t : Nat} (h : mFm mLC o i t = true) : Jvm.Cond.classLink (mCname o) i (mCname t) ∈ mWl := by
  obtain ⟨g, hg⟩ := mFm_in h
  exact mSub_in mLC_ok hg
theorem mFm_e {o i t : Nat} (h : mFm mLE o i t = true) : Jvm.Cond.classLink (mCname o) i (mEname t) ∈ mWl := by
  obtain ⟨g, hg⟩ := mFm_in h
  exact mSub_in mLE_ok hg
theorem mFm_x {o i t : Nat} (h : mFm mLX o i t = true) : Jvm.Cond.methodLink (mCname o) i (mLname t) ∈ mWl := by
  obtain ⟨g, hg⟩ := mFm_in h
  exact mSub_in mLX_ok hg
theorem mFm_n {ρ : mRho} {s : State} (hT : mTab ρ s) {o i t : Nat} (h : mFm mLN o i t = true) : va_Nw (.methodLinkNest (mCname o) i (mNm t) "RiverSeniority") s := by
  obtain ⟨g, hg⟩ := mFm_in h
  exact hT.2.2 _ hg
theorem mFm_s {ρ : mRho} {s : State} {H : Heap} (hW : mWld ρ s H) {o i t : Nat} (h : mFm mLS o i t = true) : vk_R (mCname o) i (mTs.getD t "") (ρ.2.2.2.2.2.2 t) s := by
  obtain ⟨g, hg⟩ := mFm_in h
  have h9 := hW.2.2.2.1 (g, o, i, t) hg
  dsimp only at h9
  exact h9
def mFi (o i : Nat) (v : Int) : Bool := mLI.any (fun f => Nat.beq f.2.2.1 i && Nat.beq f.2.1 o && decide (f.2.2.2 = v))
theorem mFi_ok {o i : Nat} {v : Int} (h : mFi o i v = true) : Jvm.Cond.constant (mCname o) i (Int32.ofInt v) ∈ mWl := by
  obtain ⟨f, hf, h1⟩ := List.any_eq_true.mp h
  simp only [Bool.and_eq_true, decide_eq_true_eq] at h1
  obtain ⟨⟨e1, e2⟩, e3⟩ := h1
  have h2 := mSub_in mLI_ok hf
  obtain ⟨g, fo, fi, ft⟩ := f
  obtain rfl : fi = i := Nat.eq_of_beq_eq_true e1
  obtain rfl : fo = o := Nat.eq_of_beq_eq_true e2
  obtain rfl : ft = v := e3
  exact h2
def mF1 (l : List (Nat × Nat)) (t : Nat) : Bool := l.any (fun f => Nat.beq f.2 t)
theorem mF1_in {l : List (Nat × Nat)} {t : Nat} (h : mF1 l t = true) : ∃ g, (g, t) ∈ l := by
  obtain ⟨f, hf, h1⟩ := List.any_eq_true.mp h
  have e1 : f.2 = t := Nat.eq_of_beq_eq_true h1
  obtain ⟨g, ft⟩ := f
  subst e1
  exact ⟨g, hf⟩
theorem mF1_i {t : Nat} (h : mF1 mWI t = true) : Jvm.Cond.instanceMethod (mNm t) ∈ mWl := by
  obtain ⟨g, hg⟩ := mF1_in h
  exact mSub_in mWI_ok hg
theorem mF1_s {t : Nat} (h : mF1 mWS t = true) : Jvm.Cond.static (mNm t) ∈ mWl := by
  obtain ⟨g, hg⟩ := mF1_in h
  exact mSub_in mWS_ok hg
theorem mF1_t {t : Nat} (h : mF1 mWT t = true) : Jvm.Cond.selects (mNm t).cls (mNm t) (mNm t) ∈ mWl := by
  obtain ⟨g, hg⟩ := mF1_in h
  exact mSub_in mWT_ok hg
theorem mF1_d {t : Nat} (h : mF1 mWD t = true) : Jvm.Cond.initialized (mCname t) ∈ mWl := by
  obtain ⟨g, hg⟩ := mF1_in h
  exact mSub_in mWD_ok hg
theorem mF1_n {t : Nat} (h : mF1 mWN t = true) : Jvm.Cond.instantiable (mCname t) (mClz.getD t ("", mT8, 0)).2.2 ∈ mWl := by
  obtain ⟨g, hg⟩ := mF1_in h
  exact mSub_in mWN_ok hg
-- what stood on the stack
section NIV
variable {call : mK} {m pc : Nat} {X : Nat → mC → Prop} {Q : mQ} {rest : mC → Prop} {ls : mM} {st : List mV} {I : mN} {S : mH}
theorem iv_I {f : Int → List mV → mE} (h : mAct call m pc X Q rest (tI (ls, st, I, S) f)) : ∃ x t, st = mI x :: t ∧ mAct call m pc X Q rest (f x t) := by
  unfold tI at h; dsimp only at h; split at h
  · exact ⟨_, _, rfl, h⟩
  · exact h.1.elim
theorem iv_II {f : Int → Int → List mV → mE} (h : mAct call m pc X Q rest (tII (ls, st, I, S) f)) : ∃ x y t, st = mI y :: mI x :: t ∧ mAct call m pc X Q rest (f x y t) := by
  unfold tII at h; dsimp only at h; split at h
  · exact ⟨_, _, _, rfl, h⟩
  · exact h.1.elim
theorem iv_R {f : Int → List mV → mE} (h : mAct call m pc X Q rest (tR (ls, st, I, S) f)) : ∃ x t, st = mR x :: t ∧ mAct call m pc X Q rest (f x t) := by
  unfold tR at h; dsimp only at h; split at h
  · exact ⟨_, _, rfl, h⟩
  · exact h.1.elim
theorem iv_RI {f : Int → Int → List mV → mE} (h : mAct call m pc X Q rest (tRI (ls, st, I, S) f)) : ∃ a i t, st = mI i :: mR a :: t ∧ mAct call m pc X Q rest (f a i t) := by
  unfold tRI at h; dsimp only at h; split at h
  · exact ⟨_, _, _, rfl, h⟩
  · exact h.1.elim
theorem iv_RII {f : Int → Int → Int → List mV → mE} (h : mAct call m pc X Q rest (tRII (ls, st, I, S) f)) : ∃ a i v t, st = mI v :: mI i :: mR a :: t ∧ mAct call m pc X Q rest (f a i v t) := by
  unfold tRII at h; dsimp only at h; split at h
  · exact ⟨_, _, _, _, rfl, h⟩
  · exact h.1.elim
theorem iv_RIL {f : Int → Int → Int → List mV → mE} (h : mAct call m pc X Q rest (tRIL (ls, st, I, S) f)) : ∃ a i v t, st = mL v :: mI i :: mR a :: t ∧ mAct call m pc X Q rest (f a i v t) := by
  unfold tRIL at h; dsimp only at h; split at h
  · exact ⟨_, _, _, _, rfl, h⟩
  · exact h.1.elim
theorem iv_RIR {f : Int → Int → Int → List mV → mE} (h : mAct call m pc X Q rest (tRIR (ls, st, I, S) f)) : ∃ a i v t, st = mR v :: mI i :: mR a :: t ∧ mAct call m pc X Q rest (f a i v t) := by
  unfold tRIR at h; dsimp only at h; split at h
  · exact ⟨_, _, _, _, rfl, h⟩
  · exact h.1.elim
theorem iv_LL {f : Int → Int → List mV → mE} (h : mAct call m pc X Q rest (tLL (ls, st, I, S) f)) : ∃ x y t, st = mL y :: mL x :: t ∧ mAct call m pc X Q rest (f x y t) := by
  unfold tLL at h; dsimp only at h; split at h
  · exact ⟨_, _, _, rfl, h⟩
  · exact h.1.elim
theorem iv_F {f : UInt32 → List mV → mE} (h : mAct call m pc X Q rest (tF (ls, st, I, S) f)) : ∃ x t, st = mF x :: t ∧ mAct call m pc X Q rest (f x t) := by
  unfold tF at h; dsimp only at h; split at h
  · exact ⟨_, _, rfl, h⟩
  · exact h.1.elim
theorem iv_FF {f : UInt32 → UInt32 → List mV → mE} (h : mAct call m pc X Q rest (tFF (ls, st, I, S) f)) : ∃ x y t, st = mF y :: mF x :: t ∧ mAct call m pc X Q rest (f x y t) := by
  unfold tFF at h; dsimp only at h; split at h
  · exact ⟨_, _, _, rfl, h⟩
  · exact h.1.elim
theorem iv_D {f : UInt64 → List mV → mE} (h : mAct call m pc X Q rest (tD (ls, st, I, S) f)) : ∃ x t, st = mD x :: t ∧ mAct call m pc X Q rest (f x t) := by
  unfold tD at h; dsimp only at h; split at h
  · exact ⟨_, _, rfl, h⟩
  · exact h.1.elim
theorem iv_DD {f : UInt64 → UInt64 → List mV → mE} (h : mAct call m pc X Q rest (tDD (ls, st, I, S) f)) : ∃ x y t, st = mD y :: mD x :: t ∧ mAct call m pc X Q rest (f x y t) := by
  unfold tDD at h; dsimp only at h; split at h
  · exact ⟨_, _, _, rfl, h⟩
  · exact h.1.elim
theorem iv_A {f : mV → List mV → mE} (h : mAct call m pc X Q rest (tA (ls, st, I, S) f)) : ∃ w t, st = w :: t ∧ ((∃ x, w = mR x) ∨ ∃ k, w = mS k) ∧ mAct call m pc X Q rest (f w t) := by
  unfold tA at h; dsimp only at h; split at h
  · exact ⟨_, _, rfl, Or.inl ⟨_, rfl⟩, h⟩
  · exact ⟨_, _, rfl, Or.inr ⟨_, rfl⟩, h⟩
  · exact h.1.elim
theorem iv_X {f : mV → List mV → mE} (h : mAct call m pc X Q rest (tX (ls, st, I, S) f)) : ∃ w t, st = w :: t ∧ ((∀ z, w ≠ mL z) ∧ ∀ z, w ≠ mD z) ∧ mAct call m pc X Q rest (f w t) := by
  unfold tX at h; dsimp only at h; split at h
  · exact ⟨_, _, rfl, ⟨fun z e => (by cases e), fun z e => (by cases e)⟩, h⟩
  · exact ⟨_, _, rfl, ⟨fun z e => (by cases e), fun z e => (by cases e)⟩, h⟩
  · exact h.1.elim
theorem iv_lI {k : Nat} {f : Int → mE} (h : mAct call m pc X Q rest (lI (ls, st, I, S) k f)) : ∃ x, mGet ls k = some (mI x) ∧ mAct call m pc X Q rest (f x) := by
  unfold lI at h; dsimp only at h; split at h
  · rename_i x hx; exact ⟨x, hx, h⟩
  · exact h.1.elim
theorem iv_lA {k : Nat} {f : mV → mE} (h : mAct call m pc X Q rest (lA (ls, st, I, S) k f)) : ∃ w, mGet ls k = some w ∧ ((∃ x, w = mR x) ∨ ∃ k, w = mS k) ∧ mAct call m pc X Q rest (f w) := by
  unfold lA at h; dsimp only at h; split at h
  · rename_i x hx; exact ⟨_, hx, Or.inl ⟨_, rfl⟩, h⟩
  · rename_i x hx; exact ⟨_, hx, Or.inr ⟨_, rfl⟩, h⟩
  · exact h.1.elim
theorem iv_lD {k : Nat} {f : UInt64 → mE} (h : mAct call m pc X Q rest (lD (ls, st, I, S) k f)) : ∃ x, mGet ls k = some (mD x) ∧ mAct call m pc X Q rest (f x) := by
  unfold lD at h; dsimp only at h; split at h
  · rename_i x hx; exact ⟨x, hx, h⟩
  · exact h.1.elim
end NIV
