/-! whole numbers of the small machine against those of the machine -/
def mIn (x : Int) : Prop := -2147483648 ≤ x ∧ x ≤ 2147483647
def mInL (x : Int) : Prop := -9223372036854775808 ≤ x ∧ x ≤ 9223372036854775807
abbrev mO (x : Int) : Int32 := Int32.ofInt x
theorem mIn_wrap (x : Int) : mIn (mWrap x) := by
  unfold mIn mWrap
  have h1 := Int.le_bmod (x := x) (m := 4294967296) (by decide)
  have h2 := Int.bmod_lt (x := x) (m := 4294967296) (by decide)
  omega
theorem mO_toInt {x : Int} (h : mIn x) : (mO x).toInt = x := Int32.toInt_ofInt_of_le (by unfold mIn at h; omega) (by unfold mIn at h; omega)
theorem mO_wrap (x : Int) : mO (mWrap x) = mO x := by
  apply Int32.toInt_inj.mp
  rw [mO_toInt (mIn_wrap x)]
  unfold mO mWrap
  rw [Int32.toInt_ofInt]
theorem mIn_toInt (x : Int32) : mIn x.toInt := by
  have h1 := x.le_toInt
  have h2 := x.toInt_lt
  unfold mIn
  omega
theorem mO_ofInt (x : Int32) : mO x.toInt = x := Int32.ofInt_toInt x
theorem mO_lt {x y : Int} (hx : mIn x) (hy : mIn y) : mO x < mO y ↔ x < y := by
  rw [Int32.lt_iff_toInt_lt, mO_toInt hx, mO_toInt hy]
theorem mO_le {x y : Int} (hx : mIn x) (hy : mIn y) : mO x ≤ mO y ↔ x ≤ y := by
  rw [Int32.le_iff_toInt_le, mO_toInt hx, mO_toInt hy]
theorem mO_eq {x y : Int} (hx : mIn x) (hy : mIn y) : mO x = mO y ↔ x = y := by
  constructor
  · intro h
    have h2 := congrArg Int32.toInt h
    rw [mO_toInt hx, mO_toInt hy] at h2
    exact h2
  · intro h; rw [h]
theorem mIn_0 : mIn 0 := ⟨by decide, by decide⟩
theorem mO_0 : mO 0 = 0 := rfl
theorem mO_add (x y : Int) : mO x + mO y = mO (mWrap (x + y)) := by rw [mO_wrap]; exact (Int32.ofInt_add x y).symm
theorem mO_sub (x y : Int) : mO x - mO y = mO (mWrap (x - y)) := by rw [mO_wrap]; exact (Int32.ofInt_sub x y).symm
theorem mO_mul (x y : Int) : mO x * mO y = mO (mWrap (x * y)) := by rw [mO_wrap]; exact (Int32.ofInt_mul x y).symm
theorem mO_neg (x : Int) : -mO x = mO (mWrap (-x)) := by rw [mO_wrap]; exact (Int32.ofInt_neg x).symm
theorem mO_div {x y : Int} (hx : mIn x) (hy : mIn y) : mO x / mO y = mO (mWrap (x.tdiv y)) := by
  apply Int32.toInt_inj.mp
  rw [mO_toInt (mIn_wrap _), Int32.toInt_div, mO_toInt hx, mO_toInt hy]
  rfl
theorem mIn_tmod {x y : Int} (hx : mIn x) (hy : mIn y) (h0 : y ≠ 0) : mIn (x.tmod y) := by
  unfold mIn at *
  have h1 := Int.tmod_lt_of_pos x (b := (y.natAbs : Int)) (by omega)
  have h3 : x.tmod y = x.tmod (y.natAbs : Int) := by
    rcases Int.natAbs_eq y with h | h
    · rw [← h]
    · rw [h, Int.tmod_neg]; simp
  have h4 : -(y.natAbs : Int) < x.tmod (y.natAbs : Int) := by
    have h5 := Int.tmod_lt_of_pos (-x) (b := (y.natAbs : Int)) (by omega)
    rw [Int.neg_tmod] at h5
    omega
  rw [h3]
  omega
theorem mO_rem {x y : Int} (hx : mIn x) (hy : mIn y) : mO x - mO x / mO y * mO y = mO (x.tmod y) := by
  rw [mO_div hx hy, mO_wrap]
  have h := Int.tmod_add_mul_tdiv x y
  have h2 : x.tmod y = x - x.tdiv y * y := by rw [Int.mul_comm (x.tdiv y) y]; omega
  rw [h2]
  show _ = Int32.ofInt _
  rw [Int32.ofInt_sub, Int32.ofInt_mul]
theorem mO_and (x y : Int) : mO x &&& mO y = mO (mAnd x y) := (mO_ofInt _).symm
theorem mIn_and (x y : Int) : mIn (mAnd x y) := mIn_toInt _
theorem mO_shr (x y : Int) : ((mO x).toUInt32 >>> ((mO y).toUInt32 &&& Int32.toUInt32 31)).toInt32 = mO (mShr x y) := (mO_ofInt _).symm
theorem mIn_shr (x y : Int) : mIn (mShr x y) := mIn_toInt _
theorem mO_char {x : Int} (hx : mIn x) : ((mO x).toUInt32 % 65536).toInt32 = mO (x % 65536) := by
  apply Int32.toInt_inj.mp
  rw [mO_toInt (by unfold mIn; omega), pk_char]
  unfold nI
  have h1 : (mO x).toBitVec.toNat % 2 ^ 16 < 65536 := Nat.mod_lt _ (by decide)
  rw [show Int32.ofNat ((mO x).toBitVec.toNat % 65536) = mO (((mO x).toBitVec.toNat % 65536 : Nat) : Int) from Int32.ofInt_eq_ofNat.symm, mO_toInt (by unfold mIn; omega)]
  show (((Int32.ofInt x).toBitVec.toNat % 65536 : Nat) : Int) = _
  have h2 : (Int32.ofInt x).toBitVec = BitVec.ofInt 32 x := rfl
  rw [h2, BitVec.toNat_ofInt]
  omega
theorem mL_of {x : Int} (hx : mIn x) : (mO x).toInt64 = Int64.ofInt x := by
  apply Int64.toInt_inj.mp
  rw [Int32.toInt_toInt64, mO_toInt hx, Int64.toInt_ofInt_of_le (by unfold mIn at hx; omega) (by unfold mIn at hx; omega)]
theorem mL_toInt {x : Int} (h : mInL x) : (Int64.ofInt x).toInt = x := Int64.toInt_ofInt_of_le (by unfold mInL at h; omega) (by unfold mInL at h; omega)
theorem mL_cmp {x y : Int} (hx : mInL x) (hy : mInL y) : lg_cmp (Int64.ofInt x) (Int64.ofInt y) = mO (mCmp x y) := by
  unfold lg_cmp mCmp
  have h1 : (Int64.ofInt x > Int64.ofInt y) ↔ x > y := by
    show Int64.ofInt y < Int64.ofInt x ↔ _
    rw [Int64.lt_iff_toInt_lt, mL_toInt hx, mL_toInt hy]
  have h2 : Int64.ofInt x = Int64.ofInt y ↔ x = y := by
    constructor
    · intro h
      have h3 := congrArg Int64.toInt h
      rw [mL_toInt hx, mL_toInt hy] at h3
      exact h3
    · intro h; rw [h]
  by_cases e1 : x > y
  · rw [if_pos e1, if_pos (h1.mpr e1)]; rfl
  · rw [if_neg e1, if_neg (fun h => e1 (h1.mp h))]
    by_cases e2 : x = y
    · rw [if_pos e2, if_pos (h2.mpr e2)]; rfl
    · rw [if_neg e2, if_neg (fun h => e2 (h2.mp h))]; rfl
theorem mIn_cmp (x y : Int) : mIn (mCmp x y) := by
  unfold mCmp mIn
  split
  · omega
  · split <;> omega
theorem mO_clamp {x : Int} (h : mIn x) (h0 : 0 ≤ x) : (mO x).toNatClampNeg = x.toNat := by
  show ((mO x).toInt).toNat = _
  rw [mO_toInt h]
theorem mO_size {n : Nat} (h : mIn n) : n.toInt32 = mO n := Int32.ofInt_eq_ofNat.symm
