/-! The small machine: what a block asks of the state ahead of it (a value; numbers and addresses in cells; an effect an instruction; the least predicate closed under the blocks). -/
/-- a value: a whole number, an address (-1: null, -2: some address), a text constant, a long, a float, a double -/
abbrev mV : Type := Int ⊕ Int ⊕ Nat ⊕ Int ⊕ UInt32 ⊕ UInt64
abbrev mI (x : Int) : mV := .inl x
abbrev mR (a : Int) : mV := .inr (.inl a)
abbrev mS (k : Nat) : mV := .inr (.inr (.inl k))
abbrev mL (x : Int) : mV := .inr (.inr (.inr (.inl x)))
abbrev mF (x : UInt32) : mV := .inr (.inr (.inr (.inr (.inl x))))
abbrev mD (x : UInt64) : mV := .inr (.inr (.inr (.inr (.inr x))))
/-- numbers in cells, by address and place -/
abbrev mN : Type := Int → Int → Int
/-- the rest of the heap: addresses in cells, what a cell is, how many places it has, the next address, how many places were made -/
abbrev mH : Type := (Int → Int → Int) × (Int → Int) × (Int → Int) × Int × Int
abbrev mM : Type := List (Option mV)
abbrev mC : Type := mM × List mV × mN × mH
/-- what a method ends with: a value or none, or the number of an exception -/
abbrev mZ : Type := Option mV ⊕ Nat
abbrev mE : Type := (Prop × mC) ⊕ (Prop × Nat × mC) ⊕ (Nat × mC) ⊕ (Prop × Nat × List mV × mC) ⊕ (Prop × mZ × mN × mH) ⊕ (Int × Int × Nat × List Nat × mC)
abbrev eGo (p : Prop) (c : mC) : mE := .inl (p, c)
abbrev eIf (p : Prop) (t : Nat) (c : mC) : mE := .inr (.inl (p, t, c))
abbrev eTo (t : Nat) (c : mC) : mE := .inr (.inr (.inl (t, c)))
abbrev eCall (p : Prop) (y : Nat) (args : List mV) (c : mC) : mE := .inr (.inr (.inr (.inl (p, y, args, c))))
abbrev eRet (p : Prop) (r : mZ) (I : mN) (S : mH) : mE := .inr (.inr (.inr (.inr (.inl (p, r, I, S)))))
abbrev eSw (x lo : Int) (d : Nat) (ts : List Nat) (c : mC) : mE := .inr (.inr (.inr (.inr (.inr (x, lo, d, ts, c)))))
abbrev eNo (c : mC) : mE := eGo False c
def mWrap (x : Int) : Int := x.bmod 4294967296
def mUp (I : Int → Int → Int) (a k v : Int) : Int → Int → Int := fun b j => if b = a then (if j = k then v else I b j) else I b j
def mUa (I : Int → Int → Int) (a : Int) (f : Int → Int) : Int → Int → Int := fun b => if b = a then f else I b
def mUk (K : Int → Int) (a v : Int) : Int → Int := fun b => if b = a then v else K b
def mGet : mM → Nat → Option mV
  | [], _ => none
  | x :: _, 0 => x
  | _ :: l, k + 1 => mGet l k
def mSet : mM → Nat → mV → mM
  | [], _, _ => []
  | _ :: l, 0, v => some v :: l
  | x :: l, k + 1, v => x :: mSet l k v
def mOff : mM → Nat → mM
  | [], _ => []
  | _ :: l, 0 => none :: l
  | x :: l, k + 1 => x :: mOff l k
/-- a value of two places ahead of this one goes -/
def mKill (ls : mM) (k : Nat) : mM := match k with
  | 0 => ls
  | j + 1 => match mGet ls j with
    | some (.inr (.inr (.inr (.inl _)))) => mOff ls j
    | some (.inr (.inr (.inr (.inr (.inr _))))) => mOff ls j
    | _ => ls
def mPut (b : Nat) (ls : mM) (k : Nat) (v : mV) : mM := match b with
  | 0 => mSet ls k v
  | _ + 1 => mSet (mKill ls k) k v
def mPop : Nat → List mV → List mV → Option (List mV × List mV)
  | 0, acc, st => some (acc, st)
  | n + 1, acc, v :: st => mPop n (v :: acc) st
  | _ + 1, _, [] => none
def mAnd (x y : Int) : Int := (Int32.ofInt x &&& Int32.ofInt y).toInt
def mShr (x y : Int) : Int := ((Int32.ofInt x).toUInt32 >>> ((Int32.ofInt y).toUInt32 &&& Int32.toUInt32 31)).toInt32.toInt
def mCmp (x y : Int) : Int := if x > y then 1 else if x = y then 0 else -1
def mTake (f : Int → Int) (g : Int → Int) (sp dp n : Int) : Int → Int := fun k => if dp ≤ k ∧ k < dp + n then f (sp + (k - dp)) else g k
def mHold (c : ClassFile.Cond) (x y : Int) : Prop := match c with
  | .eq => x = y
  | .ne => x ≠ y
  | .lt => x < y
  | .ge => y ≤ x
  | .gt => y < x
  | .le => x ≤ y
/-- a new cell -/
def mNewN (I : mN) (S : mH) : mN := mUa I S.2.2.2.1 (fun _ => 0)
def mNewH (S : mH) (kind n : Int) : mH := (mUa S.1 S.2.2.2.1 (fun _ => -1), mUk S.2.1 S.2.2.2.1 kind, mUk S.2.2.1 S.2.2.2.1 n, S.2.2.2.1 + 1, S.2.2.2.2 + n)
def mTxt (k : Nat) (i : Int) : Int := (mTx k).getD i.toNat 0
def mLen (k : Nat) : Int := ((mTx k).length : Nat)
-- what an instruction takes from the stack, or from a local
def tI (c : mC) (f : Int → List mV → mE) : mE := match c.2.1 with
  | .inl x :: st => f x st
  | _ => eNo c
def tII (c : mC) (f : Int → Int → List mV → mE) : mE := match c.2.1 with
  | .inl y :: .inl x :: st => f x y st
  | _ => eNo c
def tR (c : mC) (f : Int → List mV → mE) : mE := match c.2.1 with
  | .inr (.inl a) :: st => f a st
  | _ => eNo c
def tRI (c : mC) (f : Int → Int → List mV → mE) : mE := match c.2.1 with
  | .inl i :: .inr (.inl a) :: st => f a i st
  | _ => eNo c
def tRII (c : mC) (f : Int → Int → Int → List mV → mE) : mE := match c.2.1 with
  | .inl v :: .inl i :: .inr (.inl a) :: st => f a i v st
  | _ => eNo c
def tRIL (c : mC) (f : Int → Int → Int → List mV → mE) : mE := match c.2.1 with
  | .inr (.inr (.inr (.inl v))) :: .inl i :: .inr (.inl a) :: st => f a i v st
  | _ => eNo c
def tRIR (c : mC) (f : Int → Int → Int → List mV → mE) : mE := match c.2.1 with
  | .inr (.inl v) :: .inl i :: .inr (.inl a) :: st => f a i v st
  | _ => eNo c
def tLL (c : mC) (f : Int → Int → List mV → mE) : mE := match c.2.1 with
  | .inr (.inr (.inr (.inl y))) :: .inr (.inr (.inr (.inl x))) :: st => f x y st
  | _ => eNo c
def tF (c : mC) (f : UInt32 → List mV → mE) : mE := match c.2.1 with
  | .inr (.inr (.inr (.inr (.inl x)))) :: st => f x st
  | _ => eNo c
def tFF (c : mC) (f : UInt32 → UInt32 → List mV → mE) : mE := match c.2.1 with
  | .inr (.inr (.inr (.inr (.inl y)))) :: .inr (.inr (.inr (.inr (.inl x)))) :: st => f x y st
  | _ => eNo c
def tD (c : mC) (f : UInt64 → List mV → mE) : mE := match c.2.1 with
  | .inr (.inr (.inr (.inr (.inr x)))) :: st => f x st
  | _ => eNo c
def tDD (c : mC) (f : UInt64 → UInt64 → List mV → mE) : mE := match c.2.1 with
  | .inr (.inr (.inr (.inr (.inr y)))) :: .inr (.inr (.inr (.inr (.inr x)))) :: st => f x y st
  | _ => eNo c
/-- an address or a text on top -/
def tA (c : mC) (f : mV → List mV → mE) : mE := match c.2.1 with
  | .inr (.inl a) :: st => f (mR a) st
  | .inr (.inr (.inl k)) :: st => f (mS k) st
  | _ => eNo c
/-- a number or an address on top -/
def tX (c : mC) (f : mV → List mV → mE) : mE := match c.2.1 with
  | .inl x :: st => f (mI x) st
  | .inr (.inl a) :: st => f (mR a) st
  | _ => eNo c
def lI (c : mC) (k : Nat) (f : Int → mE) : mE := match mGet c.1 k with
  | some (.inl x) => f x
  | _ => eNo c
def lA (c : mC) (k : Nat) (f : mV → mE) : mE := match mGet c.1 k with
  | some (.inr (.inl a)) => f (mR a)
  | some (.inr (.inr (.inl a))) => f (mS a)
  | _ => eNo c
def lD (c : mC) (k : Nat) (f : UInt64 → mE) : mE := match mGet c.1 k with
  | some (.inr (.inr (.inr (.inr (.inr x))))) => f x
  | _ => eNo c
/-- the room that a stack takes -/
def mCs : List mV → Nat
  | [] => 0
  | .inr (.inr (.inr (.inl _))) :: l => mCs l + 2
  | .inr (.inr (.inr (.inr (.inr _)))) :: l => mCs l + 2
  | _ :: l => mCs l + 1
/-- a call of a method of the library that is no row of code here -/
def mLib (y : Nat) (args : List mV) (c : mC) : mE := match y, args with
  | 1001, [.inr (.inr (.inl k))] => eGo (mCs c.2.1 ≤ 8) (c.1, mI (mLen k) :: c.2.1, c.2.2)
  | 1002, [.inr (.inr (.inl k)), .inl i] => eGo (mCs c.2.1 ≤ 8 ∧ 0 ≤ i ∧ i < mLen k) (c.1, mI (mTxt k i) :: c.2.1, c.2.2)
  | 1003, [.inl x, .inl y] => eGo (mCs c.2.1 ≤ 8) (c.1, mI (if x ≤ y then x else y) :: c.2.1, c.2.2)
  | 1004, [.inr (.inl a), .inl sp, .inr (.inl b), .inl dp, .inl n] => eGo (mCs c.2.1 ≤ 8 ∧ c.2.2.2.2.1 a = 50 ∧ c.2.2.2.2.1 b = 50 ∧ 0 ≤ sp ∧ 0 ≤ dp ∧ 0 ≤ n ∧ sp + n ≤ c.2.2.2.2.2.1 a ∧ dp + n ≤ c.2.2.2.2.2.1 b) (c.1, c.2.1, mUa c.2.2.1 b (mTake (c.2.2.1 a) (c.2.2.1 b) sp dp n), c.2.2.2)
  | 1005, [.inr (.inl x)] => eGo (mCs c.2.1 ≤ 8 ∧ 0 ≤ x) c
  | _, _ => eNo c
def mCallS (n y : Nat) (c : mC) : mE := match mPop n [] c.2.1 with
  | some (args, st) => bif Nat.blt 1000 y then mLib y args (c.1, st, c.2.2) else eCall (mCs st ≤ 8) y args (c.1, st, c.2.2)
  | none => eNo c
def mRecv (k : Int) (y : Nat) (args : List mV) (c : mC) : mE := match args with
  | .inr (.inl a) :: _ => eCall (c.2.2.2.2.1 a = k ∧ mCs c.2.1 ≤ 8) y args c
  | _ => eNo c
def mCallV (n y : Nat) (k : Int) (c : mC) : mE := match mPop n [] c.2.1 with
  | some (args, st) => bif Nat.blt 1000 y then mLib y args (c.1, st, c.2.2) else mRecv k y args (c.1, st, c.2.2)
  | none => eNo c
def mRetI (t : Nat) (c : mC) : mE := match c.2.1 with
  | [.inl x] => eRet (t = 0 ∨ (t = 2 ∧ 0 ≤ x ∧ x ≤ 1) ∨ (t = 3 ∧ 0 ≤ x ∧ x ≤ 65535)) (.inl (some (mI x))) c.2.2.1 c.2.2.2
  | _ => eNo c
def mRetA (c : mC) : mE := match c.2.1 with
  | [.inr (.inl x)] => eRet True (.inl (some (mR x))) c.2.2.1 c.2.2.2
  | [.inr (.inr (.inl x))] => eRet True (.inl (some (mS x))) c.2.2.1 c.2.2.2
  | _ => eNo c
def mRetF (c : mC) : mE := match c.2.1 with
  | [.inr (.inr (.inr (.inr (.inl x))))] => eRet True (.inl (some (mF x))) c.2.2.1 c.2.2.2
  | _ => eNo c
def mRetD (c : mC) : mE := match c.2.1 with
  | [.inr (.inr (.inr (.inr (.inr x))))] => eRet True (.inl (some (mD x))) c.2.2.1 c.2.2.2
  | _ => eNo c
def mRetV (c : mC) : mE := match c.2.1 with
  | [] => eRet True (.inl none) c.2.2.1 c.2.2.2
  | _ => eNo c
def mPutF (k b : Int) (t : Nat) (c : mC) : mE := match c.2.1 with
  | .inl v :: .inr (.inl x) :: st => eGo (c.2.2.2.2.1 x = k ∧ (t = 0 ∨ (t = 2 ∧ 0 ≤ v ∧ v ≤ 1))) (c.1, st, mUp c.2.2.1 x b v, c.2.2.2)
  | .inr (.inl v) :: .inr (.inl x) :: st => eGo (c.2.2.2.2.1 x = k ∧ t = 1) (c.1, st, c.2.2.1, mUp c.2.2.2.1 x b v, c.2.2.2.2)
  | _ => eNo c
def mDup2 (c : mC) : mE := match c.2.1 with
  | .inl y :: .inr (.inl x) :: st => eGo True (c.1, mI y :: mR x :: mI y :: mR x :: st, c.2.2)
  | _ => eNo c
def mDupX2 (c : mC) : mE := match c.2.1 with
  | .inl z :: .inl y :: .inr (.inl x) :: st => eGo True (c.1, mI z :: mI y :: mR x :: mI z :: st, c.2.2)
  | _ => eNo c
def mLdc (a n : Nat) (b : Int) (c : mC) : mE := match n with
  | 0 => eGo True (c.1, mS a :: c.2.1, c.2.2)
  | _ + 1 => eGo True (c.1, mI b :: c.2.1, c.2.2)
def mNewO (a n : Nat) (b k : Int) (c : mC) : mE := match n with
  | 0 => eGo True (c.1, mR c.2.2.2.2.2.2.1 :: c.2.1, mNewN c.2.2.1 c.2.2.2, mNewH c.2.2.2 k b)
  | 1 => (match c.2.1 with
    | [] => eRet True (.inr a) (mNewN c.2.2.1 c.2.2.2) (mNewH c.2.2.2 0 6)
    | _ => eNo c)
  | _ => eNo c
def mGetF (k b : Int) (t : Nat) (x : Int) (st : List mV) (c : mC) : mE := match t with
  | 1 => eGo (c.2.2.2.2.1 x = k) (c.1, mR (c.2.2.2.1 x b) :: st, c.2.2)
  | _ => eGo (c.2.2.2.2.1 x = k) (c.1, mI (c.2.2.1 x b) :: st, c.2.2)
def mIf0 (o : ClassFile.Cond) (t : Nat) (c : mC) : mE := tI c fun x st => eIf (mHold o x 0) t (c.1, st, c.2.2)
def mIf2 (o : ClassFile.Cond) (t : Nat) (c : mC) : mE := tII c fun x y st => eIf (mHold o x y) t (c.1, st, c.2.2)
def mLdA (k : Int) (c : mC) : mE := tRI c fun a i st => eGo (c.2.2.2.2.1 a = k ∧ 0 ≤ i ∧ i < c.2.2.2.2.2.1 a) (c.1, mI (c.2.2.1 a i) :: st, c.2.2)
def mStA (k lo hi : Int) (c : mC) : mE := tRII c fun a i v st => eGo (c.2.2.2.2.1 a = k ∧ 0 ≤ i ∧ i < c.2.2.2.2.2.1 a ∧ lo ≤ v ∧ v ≤ hi) (c.1, st, mUp c.2.2.1 a i v, c.2.2.2)
/-- what an instruction does -/
def mDo (q : mJ) (c : mC) : mE := match q.2.1 with
  | .iconst n => eGo True (c.1, mI n :: c.2.1, c.2.2)
  | .bipush n => eGo True (c.1, mI n :: c.2.1, c.2.2)
  | .sipush n => eGo True (c.1, mI n :: c.2.1, c.2.2)
  | .ldc _ => mLdc q.2.2.1 q.2.2.2.2.2 q.2.2.2.1 c
  | .ldc_w _ => mLdc q.2.2.1 q.2.2.2.2.2 q.2.2.2.1 c
  | .lconst n => eGo True (c.1, mL (n : Nat) :: c.2.1, c.2.2)
  | .fconst n => eGo ((n : Nat) = 0) (c.1, mF 0 :: c.2.1, c.2.2)
  | .dconst n => eGo ((n : Nat) = 0) (c.1, mD 0 :: c.2.1, c.2.2)
  | .iload _ => lI c q.2.2.1 fun x => eGo True (c.1, mI x :: c.2.1, c.2.2)
  | .iload_n _ => lI c q.2.2.1 fun x => eGo True (c.1, mI x :: c.2.1, c.2.2)
  | .aload _ => lA c q.2.2.1 fun x => eGo True (c.1, x :: c.2.1, c.2.2)
  | .aload_n _ => lA c q.2.2.1 fun x => eGo True (c.1, x :: c.2.1, c.2.2)
  | .dload _ => lD c q.2.2.1 fun x => eGo True (c.1, mD x :: c.2.1, c.2.2)
  | .istore _ => tI c fun x st => eGo True (mPut q.2.2.2.2.2 c.1 q.2.2.1 (mI x), st, c.2.2)
  | .istore_n _ => tI c fun x st => eGo True (mPut q.2.2.2.2.2 c.1 q.2.2.1 (mI x), st, c.2.2)
  | .astore _ => tA c fun x st => eGo True (mPut q.2.2.2.2.2 c.1 q.2.2.1 x, st, c.2.2)
  | .astore_n _ => tA c fun x st => eGo True (mPut q.2.2.2.2.2 c.1 q.2.2.1 x, st, c.2.2)
  | .dstore _ => tD c fun x st => eGo True (mOff (mPut q.2.2.2.2.2 c.1 q.2.2.1 (mD x)) (q.2.2.1 + 1), st, c.2.2)
  | .iinc _ n => lI c q.2.2.1 fun x => eGo True (mPut q.2.2.2.2.2 c.1 q.2.2.1 (mI (mWrap (x + n))), c.2)
  | .iadd => tII c fun x y st => eGo True (c.1, mI (mWrap (x + y)) :: st, c.2.2)
  | .isub => tII c fun x y st => eGo True (c.1, mI (mWrap (x - y)) :: st, c.2.2)
  | .imul => tII c fun x y st => eGo True (c.1, mI (mWrap (x * y)) :: st, c.2.2)
  | .idiv => tII c fun x y st => eGo (y ≠ 0) (c.1, mI (mWrap (x.tdiv y)) :: st, c.2.2)
  | .irem => tII c fun x y st => eGo (y ≠ 0) (c.1, mI (x.tmod y) :: st, c.2.2)
  | .ineg => tI c fun x st => eGo True (c.1, mI (mWrap (-x)) :: st, c.2.2)
  | .iand => tII c fun x y st => eGo True (c.1, mI (mAnd x y) :: st, c.2.2)
  | .iushr => tII c fun x y st => eGo True (c.1, mI (mShr x y) :: st, c.2.2)
  | .i2l => tI c fun x st => eGo True (c.1, mL x :: st, c.2.2)
  | .i2c => tI c fun x st => eGo True (c.1, mI (x % 65536) :: st, c.2.2)
  | .i2f => tI c fun x st => eGo True (c.1, mF (FP.i2f (Int32.ofInt x)) :: st, c.2.2)
  | .i2d => tI c fun x st => eGo True (c.1, mD (FP.i2d (Int32.ofInt x)) :: st, c.2.2)
  | .f2d => tF c fun x st => eGo (vf_n64 (FP.f2d x)) (c.1, mD (FP.f2d x) :: st, c.2.2)
  | .lcmp => tLL c fun x y st => eGo True (c.1, mI (mCmp x y) :: st, c.2.2)
  | .dcmp o => tDD c fun x y st => eGo True (c.1, mI (Op.cmpValue (FP.dcmp x y) o).toInt :: st, c.2.2)
  | .fdiv => tFF c fun x y st => eGo (vf_n32 (FP.fdiv x y)) (c.1, mF (FP.fdiv x y) :: st, c.2.2)
  | .ddiv => tDD c fun x y st => eGo (vf_n64 (FP.ddiv x y)) (c.1, mD (FP.ddiv x y) :: st, c.2.2)
  | .dup => tX c fun x st => eGo True (c.1, x :: x :: st, c.2.2)
  | .dup2 => mDup2 c
  | .dup_x2 => mDupX2 c
  | .pop => tX c fun _ st => eGo True (c.1, st, c.2.2)
  | .ifCond o _ => mIf0 o q.2.2.1 c
  | .if_icmp o _ => mIf2 o q.2.2.1 c
  | .goto _ => eTo q.2.2.1 c
  | .tableswitch _ lo _ offs => tI c fun x st => eSw x lo q.2.2.1 (offs.toList.map (fun o => ((q.1 : Int) + o).toNat)) (c.1, st, c.2.2)
  | .ireturn => mRetI q.2.2.2.2.2 c
  | .areturn => mRetA c
  | .freturn => mRetF c
  | .dreturn => mRetD c
  | .return_ => mRetV c
  | .iaload => mLdA q.2.2.2.2.1 c
  | .baload => mLdA 51 c
  | .caload => mLdA 52 c
  | .laload => tRI c fun a i st => eGo (c.2.2.2.2.1 a = 53 ∧ 0 ≤ i ∧ i < c.2.2.2.2.2.1 a) (c.1, mL (c.2.2.1 a i) :: st, c.2.2)
  | .aaload => tRI c fun a i st => eGo (c.2.2.2.2.1 a = q.2.2.2.2.1 ∧ 0 ≤ i ∧ i < c.2.2.2.2.2.1 a) (c.1, mR (c.2.2.2.1 a i) :: st, c.2.2)
  | .iastore => tRII c fun a i v st => eGo (c.2.2.2.2.1 a = 50 ∧ 0 ≤ i ∧ i < c.2.2.2.2.2.1 a) (c.1, st, mUp c.2.2.1 a i v, c.2.2.2)
  | .bastore => mStA 51 0 1 c
  | .castore => mStA 52 0 65535 c
  | .lastore => tRIL c fun a i v st => eGo (c.2.2.2.2.1 a = 53 ∧ 0 ≤ i ∧ i < c.2.2.2.2.2.1 a) (c.1, st, mUp c.2.2.1 a i v, c.2.2.2)
  | .aastore => tRIR c fun a i v st => eGo (c.2.2.2.2.1 a = q.2.2.2.2.1 ∧ 0 ≤ i ∧ i < c.2.2.2.2.2.1 a ∧ c.2.2.2.2.1 v = q.2.2.2.1) (c.1, st, c.2.2.1, mUp c.2.2.2.1 a i v, c.2.2.2.2)
  | .arraylength => tR c fun a st => eGo (c.2.2.2.2.1 a = q.2.2.2.2.1) (c.1, mI (c.2.2.2.2.2.1 a) :: st, c.2.2)
  | .newarray _ => tI c fun n st => eGo (0 ≤ n ∧ n ≤ 100000) (c.1, mR c.2.2.2.2.2.2.1 :: st, mNewN c.2.2.1 c.2.2.2, mNewH c.2.2.2 q.2.2.2.2.1 n)
  | .anewarray _ => tI c fun n st => eGo (0 ≤ n ∧ n ≤ 100000) (c.1, mR c.2.2.2.2.2.2.1 :: st, mNewN c.2.2.1 c.2.2.2, mNewH c.2.2.2 q.2.2.2.2.1 n)
  | .new _ => mNewO q.2.2.1 q.2.2.2.2.2 q.2.2.2.1 q.2.2.2.2.1 c
  | .getfield _ => tR c fun x st => mGetF q.2.2.2.2.1 q.2.2.2.1 q.2.2.2.2.2 x st c
  | .putfield _ => mPutF q.2.2.2.2.1 q.2.2.2.1 q.2.2.2.2.2 c
  | .invokestatic _ => mCallS q.2.2.2.2.2 q.2.2.1 c
  | .invokevirtual _ => mCallV q.2.2.2.2.2 q.2.2.1 q.2.2.2.2.1 c
  | .invokespecial _ => mCallV q.2.2.2.2.2 q.2.2.1 q.2.2.2.2.1 c
  | _ => eNo c
abbrev mQ : Type := mZ → mN → mH → Prop
abbrev mK : Type := Nat → List mV → mN → mH → mQ → Prop
/-- behind a call: go on, or to the handler, or out -/
def mAft (m pc : Nat) (ls : mM) (st : List mV) (X : Nat → mC → Prop) (Q : mQ) (rest : mC → Prop) : mQ := fun r I S => match r with
  | .inl none => rest (ls, st, I, S)
  | .inl (some v) => rest (ls, v :: st, I, S)
  | .inr e => match mHnd m pc e with
    | some t => X t (ls, [mR (-2)], I, S)
    | none => Q (.inr e) I S
def mSw (X : Nat → mC → Prop) (x lo : Int) (d : Nat) (ts : List Nat) (c : mC) : Prop := ((x < lo ∨ lo + (ts.length : Nat) ≤ x) → X d c) ∧ ∀ k : Nat, k < ts.length → x = lo + (k : Int) → X (ts.getD k 0) c
def mAct (call : mK) (m pc : Nat) (X : Nat → mC → Prop) (Q : mQ) (rest : mC → Prop) : mE → Prop
  | .inl (p, c) => p ∧ rest c
  | .inr (.inl (p, t, c)) => (p → X t c) ∧ (¬ p → rest c)
  | .inr (.inr (.inl (t, c))) => X t c
  | .inr (.inr (.inr (.inl (p, y, args, ls, st, I, S)))) => p ∧ call y args I S (mAft m pc ls st X Q rest)
  | .inr (.inr (.inr (.inr (.inl (p, r, I, S))))) => p ∧ Q r I S
  | .inr (.inr (.inr (.inr (.inr (x, lo, d, ts, c))))) => mSw X x lo d ts c
def mWp (call : mK) (m nx : Nat) (X : Nat → mC → Prop) (Q : mQ) : List mJ → mC → Prop
  | [], c => X nx c
  | q :: is, c => mAct call m q.1 X Q (mWp call m nx X Q is) (mDo q c)
def mBlk (call : mK) (m : Nat) (X : Nat → mC → Prop) (Q : mQ) (pc : Nat) (c : mC) : Prop := match mCode m pc with
  | some (is, nx) => mWp call m nx X Q is c
  | none => False
/-- from here the method ends so that Q holds -/
def mAt (call : mK) (m pc : Nat) (c : mC) (Q : mQ) : Prop := ∀ X : Nat → mC → Prop, (∀ pc c, mBlk call m X Q pc c → X pc c) → X pc c
def mPad (n : Nat) (l : mM) : mM := l ++ List.replicate (n - l.length) none
/-- a method's run, at most so many calls deep -/
def mRun : Nat → mK
  | 0 => fun _ _ _ _ _ => False
  | D + 1 => fun y args I S Q => (mCs args ≤ args.length ∧ args.length ≤ mMaxL y) ∧ mAt (mRun D) y 0 (mPad (mMaxL y) (args.map some), [], I, S) Q
