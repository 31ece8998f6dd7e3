theorem zWb : Jvm.Cond.arrayClass .boolean ∈ mWl := List.mem_filter.mpr ⟨List.mem_append_right _ (by decide +kernel), rfl⟩
theorem zWc : Jvm.Cond.arrayClass .char ∈ mWl := List.mem_filter.mpr ⟨List.mem_append_right _ (by decide +kernel), rfl⟩
theorem zWl : Jvm.Cond.arrayClass .long ∈ mWl := List.mem_filter.mpr ⟨List.mem_append_right _ (by decide +kernel), rfl⟩
theorem zz (y : Nat) (h : mRet y = none) : decide (mRet y = none) = true := decide_eq_true h
theorem zi : ∀ w ∈ [Jvm.Cond.methodLink (mCname 10) 3 Lib.objectInit, Jvm.Cond.instanceMethod Lib.objectInit, Jvm.Cond.code Lib.objectInit ⟨#[177]⟩ 1 none, Jvm.Cond.native arraycopyName, Jvm.Cond.static arraycopyName, Jvm.Cond.initialized "java/lang/System", Jvm.Cond.static Lib.Math.min.name, Jvm.Cond.initialized "java/lang/Math", Jvm.Cond.code Lib.Math.min.name Lib.Math.min.code 2 (some .int)], w ∈ lw_tbl ∧ goodWord w = true := by decide +kernel
theorem zn : mLn = [⟨"java/lang/String", "length", "()I"⟩, ⟨"java/lang/String", "charAt", "(I)C"⟩, Lib.Math.min.name, arraycopyName, Lib.objectInit] := by rfl
theorem zini : ∀ e ∈ ["java/lang/IllegalStateException", "java/lang/IllegalArgumentException", "java/lang/IndexOutOfBoundsException", "java/util/NoSuchElementException"], Jvm.Cond.initialized e ∈ lw_tbl ∧ goodWord (Jvm.Cond.initialized e) = true := by decide +kernel
