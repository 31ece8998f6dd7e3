/-! The check of an instruction, of a block, and the step that it gives. -/
def mChk (y pc : Nat) (i : Instr) (a : Nat) (b k : Int) (n nx : Nat) : Bool := match i with
  | .iconst v => (mNx y (pc, .iconst v, a, b, k, n) 1 nx && mInB v)
  | .bipush v => (mNx y (pc, .bipush v, a, b, k, n) 2 nx && decide (-128 ≤ v ∧ v ≤ 127))
  | .sipush v => (mNx y (pc, .sipush v, a, b, k, n) 3 nx && decide (-32768 ≤ v ∧ v ≤ 32767))
  | .lconst v => (mNx y (pc, .lconst v, a, b, k, n) 1 nx)
  | .fconst v => (mNx y (pc, .fconst v, a, b, k, n) 1 nx)
  | .dconst v => (mNx y (pc, .dconst v, a, b, k, n) 1 nx)
  | .dload v => (mNx y (pc, .dload v, a, b, k, n) 2 nx && Nat.beq v a)
  | .dstore v => (mNx y (pc, .dstore v, a, b, k, n) 2 nx && Nat.beq v a && (Nat.beq y 413 && Nat.blt (a + 1) (mMaxL y) && !Nat.beq n 0))
  | .iload v => (mNx y (pc, .iload v, a, b, k, n) 2 nx && Nat.beq v a)
  | .iload_n v => (mNx y (pc, .iload_n v, a, b, k, n) 1 nx && Nat.beq v a)
  | .aload v => (mNx y (pc, .aload v, a, b, k, n) 2 nx && Nat.beq v a)
  | .aload_n v => (mNx y (pc, .aload_n v, a, b, k, n) 1 nx && Nat.beq v a)
  | .istore v => (mNx y (pc, .istore v, a, b, k, n) 2 nx && Nat.beq v a && mLk y a n)
  | .istore_n v => (mNx y (pc, .istore_n v, a, b, k, n) 1 nx && Nat.beq v a && mLk y a n)
  | .astore v => (mNx y (pc, .astore v, a, b, k, n) 2 nx && Nat.beq v a && mLk y a n)
  | .astore_n v => (mNx y (pc, .astore_n v, a, b, k, n) 1 nx && Nat.beq v a && mLk y a n)
  | .iinc v w => (mNx y (pc, .iinc v w, a, b, k, n) 3 nx && Nat.beq v a && mLk y a n)
  | .iadd => (mNx y (pc, .iadd, a, b, k, n) 1 nx)
  | .isub => (mNx y (pc, .isub, a, b, k, n) 1 nx)
  | .imul => (mNx y (pc, .imul, a, b, k, n) 1 nx)
  | .iand => (mNx y (pc, .iand, a, b, k, n) 1 nx)
  | .iushr => (mNx y (pc, .iushr, a, b, k, n) 1 nx)
  | .idiv => (mNx y (pc, .idiv, a, b, k, n) 1 nx)
  | .irem => (mNx y (pc, .irem, a, b, k, n) 1 nx)
  | .ineg => (mNx y (pc, .ineg, a, b, k, n) 1 nx)
  | .i2l => (mNx y (pc, .i2l, a, b, k, n) 1 nx)
  | .i2c => (mNx y (pc, .i2c, a, b, k, n) 1 nx)
  | .i2f => (mNx y (pc, .i2f, a, b, k, n) 1 nx)
  | .i2d => (mNx y (pc, .i2d, a, b, k, n) 1 nx)
  | .f2d => (mNx y (pc, .f2d, a, b, k, n) 1 nx)
  | .lcmp => (mNx y (pc, .lcmp, a, b, k, n) 1 nx)
  | .dcmp o => (mNx y (pc, .dcmp o, a, b, k, n) 1 nx)
  | .fdiv => (mNx y (pc, .fdiv, a, b, k, n) 1 nx)
  | .ddiv => (mNx y (pc, .ddiv, a, b, k, n) 1 nx)
  | .dup => (mNx y (pc, .dup, a, b, k, n) 1 nx)
  | .pop => (mNx y (pc, .pop, a, b, k, n) 1 nx)
  | .ifCond .eq off => (mNx y (pc, .ifCond .eq off, a, b, k, n) 3 nx && mJt pc off a)
  | .if_icmp .eq off => (mNx y (pc, .if_icmp .eq off, a, b, k, n) 3 nx && mJt pc off a)
  | .ifCond .ne off => (mNx y (pc, .ifCond .ne off, a, b, k, n) 3 nx && mJt pc off a)
  | .if_icmp .ne off => (mNx y (pc, .if_icmp .ne off, a, b, k, n) 3 nx && mJt pc off a)
  | .ifCond .lt off => (mNx y (pc, .ifCond .lt off, a, b, k, n) 3 nx && mJt pc off a)
  | .if_icmp .lt off => (mNx y (pc, .if_icmp .lt off, a, b, k, n) 3 nx && mJt pc off a)
  | .ifCond .ge off => (mNx y (pc, .ifCond .ge off, a, b, k, n) 3 nx && mJt pc off a)
  | .if_icmp .ge off => (mNx y (pc, .if_icmp .ge off, a, b, k, n) 3 nx && mJt pc off a)
  | .ifCond .gt off => (mNx y (pc, .ifCond .gt off, a, b, k, n) 3 nx && mJt pc off a)
  | .if_icmp .gt off => (mNx y (pc, .if_icmp .gt off, a, b, k, n) 3 nx && mJt pc off a)
  | .ifCond .le off => (mNx y (pc, .ifCond .le off, a, b, k, n) 3 nx && mJt pc off a)
  | .if_icmp .le off => (mNx y (pc, .if_icmp .le off, a, b, k, n) 3 nx && mJt pc off a)
  | .goto off => (mDc y (pc, .goto off, a, b, k, n) 3 && mJt pc off a)
  | .baload => (mNx y (pc, .baload, a, b, k, n) 1 nx)
  | .caload => (mNx y (pc, .caload, a, b, k, n) 1 nx)
  | .laload => (mNx y (pc, .laload, a, b, k, n) 1 nx)
  | .iaload => (mNx y (pc, .iaload, a, b, k, n) 1 nx && (decide (k = 50) || decide (k = 90)))
  | .aaload => (mNx y (pc, .aaload, a, b, k, n) 1 nx && decide (60 ≤ k ∧ k < 72))
  | .arraylength => (mNx y (pc, .arraylength, a, b, k, n) 1 nx && (decide (k = 50) || decide (k = 90)))
  | .iastore => (mNx y (pc, .iastore, a, b, k, n) 1 nx)
  | .bastore => (mNx y (pc, .bastore, a, b, k, n) 1 nx)
  | .castore => (mNx y (pc, .castore, a, b, k, n) 1 nx)
  | .lastore => (mNx y (pc, .lastore, a, b, k, n) 1 nx)
  | .newarray .int => (mNx y (pc, .newarray .int, a, b, k, n) 2 nx && decide (k = 50))
  | .newarray .boolean => (mNx y (pc, .newarray .boolean, a, b, k, n) 2 nx && decide (k = 51))
  | .newarray .char => (mNx y (pc, .newarray .char, a, b, k, n) 2 nx && decide (k = 52))
  | .newarray .long => (mNx y (pc, .newarray .long, a, b, k, n) 2 nx && decide (k = 53))
  | .anewarray v => (mNx y (pc, .anewarray v, a, b, k, n) 3 nx && (decide (60 ≤ k ∧ k < 72) && mFm mLC (mOw y) v (k - 60).toNat && mF1 mWO (k - 60).toNat))
  | .new v => (mNx y (pc, .new v, a, b, k, n) 3 nx && (decide (n = 0) && decide (1 ≤ k ∧ k < 13) && mFm mLC (mOw y) v (k - 1).toNat && mF1 mWN (k - 1).toNat && mF1 mWD (k - 1).toNat && decide (b = ((mClz.getD (k - 1).toNat ("", mT8, 0)).2.2 : Nat)))) || (mThr y pc v a && (Nat.blt y 371 && decide (n = 1 ∧ mOw y = 10) && Nat.blt a 4 && mFm mLE 10 v a)) || (decide (n = 2))
  | .getfield v => (mNx y (pc, .getfield v, a, b, k, n) 3 nx && mFd y v k b n)
  | .ldc v => (mNx y (pc, .ldc v, a, b, k, n) 2 nx && (match n with | 0 => Nat.blt a 37 && mFm mLS (mOw y) v a | _ + 1 => mInB b && mFi (mOw y) v b))
  | .ldc_w v => (mNx y (pc, .ldc_w v, a, b, k, n) 3 nx && (match n with | 0 => false | _ + 1 => mInB b && mFi (mOw y) v b)) || (mNx y (pc, .ldc_w v, a, b, k, n) 3 nx && (decide (n = 0) && Nat.blt a 37 && mFm mLS (mOw y) v a))
  | .aastore => (mNx y (pc, .aastore, a, b, k, n) 1 nx && (decide (60 ≤ k ∧ k < 72) && decide (b = k - 59)))
  | .return_ => (mDc y (pc, .return_, a, b, k, n) 1 && Nat.blt y 413 && decide (mRet y = none))
  | .ireturn => (mDc y (pc, .ireturn, a, b, k, n) 1 && Nat.blt y 413 && (decide (n = 0 ∧ mRet y = some .int) || decide (n = 2 ∧ mRet y = some .boolean) || decide (n = 3 ∧ mRet y = some .char))) || (mDc y (pc, .ireturn, a, b, k, n) 1 && Nat.beq y 413 && decide (n = 2))
  | .areturn => (mDc y (pc, .areturn, a, b, k, n) 1 && Nat.blt y 413 && (match mRet y with | some (.object _) => true | some (.array _) => true | _ => false))
  | .freturn => (mDc y (pc, .freturn, a, b, k, n) 1 && Nat.blt y 413 && decide (mRet y = some .float))
  | .dreturn => (mDc y (pc, .dreturn, a, b, k, n) 1 && Nat.blt y 413 && decide (mRet y = some .double))
  | .invokestatic v => (mNx y (pc, .invokestatic v, a, b, k, n) 3 nx && ((Nat.blt y 371 || Nat.beq y 413) && Nat.blt a 371 && mSta a && decide (mNa a = n) && mFm mLM (mOw y) v a && mF1 mWS a && mF1 mWD (mOw a))) || (mNx y (pc, .invokestatic v, a, b, k, n) 3 nx && (decide (n = 2 ∧ a = 1003) && mFm mLX (mOw y) v 1003)) || (mNx y (pc, .invokestatic v, a, b, k, n) 3 nx && (decide (n = 5 ∧ a = 1004) && mFm mLX (mOw y) v 1004)) || (mNx y (pc, .invokestatic v, a, b, k, n) 3 nx && (Nat.beq y 413 && Nat.ble 371 a && Nat.blt a 413 && decide (mNa a = n) && mFm mLM (mOw y) v a && mF1 mWS a && mF1 mWD (mOw a)))
  | .invokevirtual v => (mNx y (pc, .invokevirtual v, a, b, k, n) 3 nx && ((Nat.blt y 371 || Nat.beq y 413) && Nat.blt a 371 && !mSta a && decide (mNa a = n) && decide (mOw a < 12 ∧ k = (mOw a : Int) + 1) && mFm mLM (mOw y) v a && mF1 mWI a && mF1 mWT a && mF1 mWD (mOw a))) || (mNx y (pc, .invokevirtual v, a, b, k, n) 3 nx && (decide (n = 1 ∧ a = 1001) && mFm mLX (mOw y) v 1001)) || (mNx y (pc, .invokevirtual v, a, b, k, n) 3 nx && (decide (n = 2 ∧ a = 1002) && mFm mLX (mOw y) v 1002)) || (mNx y (pc, .invokevirtual v, a, b, k, n) 3 nx && (Nat.ble 371 y && Nat.blt y 413 && Nat.blt a 371 && !mSta a && decide (mNa a = n) && decide (mOw a < 12 ∧ k = (mOw a : Int) + 1) && mFm mLM (mOw y) v a && mF1 mWI a && mF1 mWT a && mF1 mWD (mOw a)))
  | .invokespecial v => (mNx y (pc, .invokespecial v, a, b, k, n) 3 nx && ((Nat.blt y 371 || Nat.beq y 413) && Nat.blt a 371 && !mSta a && decide (mNa a = n) && decide (mOw a < 12 ∧ k = (mOw a : Int) + 1) && (mFm mLM (mOw y) v a || mFm mLN (mOw y) v a) && mF1 mWI a && decide ((mNm a).name = "<init>" ∧ mRet a = none) && mF1 mWD (mOw a))) || (mNx y (pc, .invokespecial v, a, b, k, n) 3 nx && (decide (n = 1 ∧ a = 1005) && mFm mLX (mOw y) v 1005))
  | .dup2 => (mNx y (pc, .dup2, a, b, k, n) 1 nx)
  | .dup_x2 => (mNx y (pc, .dup_x2, a, b, k, n) 1 nx)
  | .tableswitch d lo hi offs => ((match decode (mBy y) pc with | .ok r => decide (r.1 = .tableswitch d lo hi offs) | .error _ => false) && (mJt pc d a && decide (hi = lo + (offs.size : Nat) - 1) && offs.toList.all (fun o => decide (0 ≤ (pc : Int) + o))))
  | .putfield v => (mNx y (pc, .putfield v, a, b, k, n) 3 nx && mFd y v k b n && mPf y v k b n)
  | _ => false
section NST
variable {ρ : mRho} {p : Program} {l : Launch} {e : Env} {R : Room} {s : State} {m : MethodId} {args : Array Value} {below : List Frame} {meth : Method} {c : Code} {Qe : State → Prop} {y : Nat} {H0 : Heap} {S0 Sf : mH} {If : mN} {D mcR msR : Nat} {r : mZ}
variable {pc : Nat} {mls : mM} {mst : List mV} {I : mN} {S : mH} {rest : mC → Prop} {a n nx : Nat} {b k : Int}
set_option maxHeartbeats 4000000 in
theorem mStep {i : Instr} (C : mCx ρ p l e R s m args below meth c Qe y H0 S0 Sf D mcR msR r If) (hk : mChk y pc i a b k n nx = true) (hr : ∀ c', rest c' → (mPt ρ p l e R s m args below meth c Qe y H0 S0 Sf) nx c') (h : mAct (mRun D) y pc (mPt ρ p l e R s m args below meth c Qe y H0 S0 Sf) (mOne r If Sf) rest (mDo (pc, i, a, b, k, n) (mls, mst, I, S))) : (mPt ρ p l e R s m args below meth c Qe y H0 S0 Sf) pc (mls, mst, I, S) := by
  unfold mChk at hk
  split at hk
  · exact ar_iconst C hk hr h
  · exact ar_bipush C hk hr h
  · exact ar_sipush C hk hr h
  · exact ar_lconst C hk hr h
  · exact ar_fconst C hk hr h
  · exact ar_dconst C hk hr h
  · exact ar_dload C hk hr h
  · exact ar_dstore C hk hr h
  · exact ar_iload C hk hr h
  · exact ar_iload_n C hk hr h
  · exact ar_aload C hk hr h
  · exact ar_aload_n C hk hr h
  · exact ar_istore C hk hr h
  · exact ar_istore_n C hk hr h
  · exact ar_astore C hk hr h
  · exact ar_astore_n C hk hr h
  · exact ar_iinc C hk hr h
  · exact ar_iadd C hk hr h
  · exact ar_isub C hk hr h
  · exact ar_imul C hk hr h
  · exact ar_iand C hk hr h
  · exact ar_iushr C hk hr h
  · exact ar_idiv C hk hr h
  · exact ar_irem C hk hr h
  · exact ar_ineg C hk hr h
  · exact ar_i2l C hk hr h
  · exact ar_i2c C hk hr h
  · exact ar_i2f C hk hr h
  · exact ar_i2d C hk hr h
  · exact ar_f2d C hk hr h
  · exact ar_lcmp C hk hr h
  · exact ar_dcmp C hk hr h
  · exact ar_fdiv C hk hr h
  · exact ar_ddiv C hk hr h
  · exact ar_dup C hk hr h
  · exact ar_pop C hk hr h
  · exact ar_if_eq C hk hr h
  · exact ar_icmp_eq C hk hr h
  · exact ar_if_ne C hk hr h
  · exact ar_icmp_ne C hk hr h
  · exact ar_if_lt C hk hr h
  · exact ar_icmp_lt C hk hr h
  · exact ar_if_ge C hk hr h
  · exact ar_icmp_ge C hk hr h
  · exact ar_if_gt C hk hr h
  · exact ar_icmp_gt C hk hr h
  · exact ar_if_le C hk hr h
  · exact ar_icmp_le C hk hr h
  · exact ar_goto C hk hr h
  · exact ar_baload C hk hr h
  · exact ar_caload C hk hr h
  · exact ar_laload C hk hr h
  · exact ar_iaload C hk hr h
  · exact ar_aaload C hk hr h
  · exact ar_alen C hk hr h
  · exact ar_iastore C hk hr h
  · exact ar_bastore C hk hr h
  · exact ar_castore C hk hr h
  · exact ar_lastore C hk hr h
  · exact ar_newa_int C hk hr h
  · exact ar_newa_bool C hk hr h
  · exact ar_newa_char C hk hr h
  · exact ar_newa_long C hk hr h
  · exact ar_anewa C hk hr h
  · rw [Bool.or_eq_true] at hk; rcases hk with hk | hk
    rotate_left 1
    · exact ar_dead C hk hr h
    rw [Bool.or_eq_true] at hk; rcases hk with hk | hk
    rotate_left 1
    · exact ar_throw C hk hr h
    · exact ar_new C hk hr h
  · exact ar_getf C hk hr h
  · exact ar_ldc C hk hr h
  · rw [Bool.or_eq_true] at hk; rcases hk with hk | hk
    rotate_left 1
    · exact ar_ldcws C hk hr h
    · exact ar_ldcw C hk hr h
  · exact ar_aastore C hk hr h
  · exact ar_return C hk hr h
  · rw [Bool.or_eq_true] at hk; rcases hk with hk | hk
    rotate_left 1
    · exact ar_lret C hk hr h
    · exact ar_iret C hk hr h
  · exact ar_aret C hk hr h
  · exact ar_fret C hk hr h
  · exact ar_dret C hk hr h
  · rw [Bool.or_eq_true] at hk; rcases hk with hk | hk
    rotate_left 1
    · exact ar_callw C hk hr h
    rw [Bool.or_eq_true] at hk; rcases hk with hk | hk
    rotate_left 1
    · exact ar_copy C hk hr h
    rw [Bool.or_eq_true] at hk; rcases hk with hk | hk
    rotate_left 1
    · exact ar_min C hk hr h
    · exact ar_calls C hk hr h
  · rw [Bool.or_eq_true] at hk; rcases hk with hk | hk
    rotate_left 1
    · exact ar_callh C hk hr h
    rw [Bool.or_eq_true] at hk; rcases hk with hk | hk
    rotate_left 1
    · exact ar_chr C hk hr h
    rw [Bool.or_eq_true] at hk; rcases hk with hk | hk
    rotate_left 1
    · exact ar_len C hk hr h
    · exact ar_callv C hk hr h
  · rw [Bool.or_eq_true] at hk; rcases hk with hk | hk
    rotate_left 1
    · exact ar_obj C hk hr h
    · exact ar_calli C hk hr h
  · exact ar_dup2 C hk hr h
  · exact ar_dupx2 C hk hr h
  · exact ar_switch C hk hr h
  · exact ar_putf C hk hr h
  · cases hk
end NST
def mChkQ (y : Nat) (q : mJ) (nx : Nat) : Bool := mChk y q.1 q.2.1 q.2.2.1 q.2.2.2.1 q.2.2.2.2.1 q.2.2.2.2.2 nx
def mChkB (y nx : Nat) : List mJ → Bool
  | [] => true
  | q :: l => mChkQ y q (match l with | [] => nx | q' :: _ => q'.1) && mChkB y nx l
def mHd (nx : Nat) : List mJ → Nat
  | [] => nx
  | q :: _ => q.1
theorem mChkB_hd (nx : Nat) (l : List mJ) : (match l with | [] => nx | q' :: _ => q'.1) = mHd nx l := by cases l <;> rfl
def mChkM (y : Nat) : Bool := (mTabOf y mTabs).all (fun b => Nat.beq b.1 (mHd b.2.2 b.2.1) && mChkB y b.2.2 b.2.1)
section NBL
variable {ρ : mRho} {p : Program} {l : Launch} {e : Env} {R : Room} {s : State} {m : MethodId} {args : Array Value} {below : List Frame} {meth : Method} {c : Code} {Qe : State → Prop} {y : Nat} {H0 : Heap} {S0 Sf : mH} {If : mN} {D mcR msR : Nat} {r : mZ}
variable {pc : Nat} {mls : mM} {mst : List mV} {I : mN} {S : mH} {rest : mC → Prop} {a n nx : Nat} {b k : Int}
theorem mBlkStep (C : mCx ρ p l e R s m args below meth c Qe y H0 S0 Sf D mcR msR r If) : ∀ (is : List mJ) (k : mC), mChkB y nx is = true → mWp (mRun D) y nx (mPt ρ p l e R s m args below meth c Qe y H0 S0 Sf) (mOne r If Sf) is k → (mPt ρ p l e R s m args below meth c Qe y H0 S0 Sf) (mHd nx is) k
  | [], k, _, h => h
  | q :: is, k, hk, h => by
    unfold mChkB at hk
    rw [Bool.and_eq_true, mChkB_hd] at hk
    obtain ⟨pc, i, a, b, k9, n⟩ := q
    obtain ⟨mls, mst, I, S⟩ := k
    exact mStep (nx := mHd nx is) C hk.1 (fun c' h' => mBlkStep C is c' hk.2 h') h
theorem mBlkAll (C : mCx ρ p l e R s m args below meth c Qe y H0 S0 Sf D mcR msR r If) (hy : mChkM y = true) {k : mC} (h : mAt (mRun D) y pc k (mOne r If Sf)) : (mPt ρ p l e R s m args below meth c Qe y H0 S0 Sf) pc k := by
  refine h _ (fun pc k hb => ?_)
  unfold mBlk at hb
  cases hh : mCode y pc with
  | none => rw [hh] at hb; exact hb.elim
  | some b =>
    obtain ⟨is, nx⟩ := b
    rw [hh] at hb
    have h1 := List.all_eq_true.mp hy _ (mFind_in hh)
    rw [Bool.and_eq_true] at h1
    have e1 : pc = mHd nx is := Nat.eq_of_beq_eq_true h1.1
    rw [e1]
    exact mBlkStep C is k h1.2 hb
end NBL
