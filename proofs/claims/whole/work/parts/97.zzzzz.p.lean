/-! The office's constructor. -/
theorem k_no {D y m nx : Nat} {X : Nat → mC → Prop} {Q : mQ} {q1 q2 q3 q4 q5 : mJ} {is : List mJ} {ls : mM} {I : mN} {S : mH} (n f K c Kn : Int)
    (e1 : ∀ (st : List mV) (I : mN) (S : mH), mDo q1 (ls, st, I, S) = eGo True (ls, mR n :: st, I, S)) (e2 : ∀ (st : List mV) (I : mN) (S : mH), mDo q2 (ls, st, I, S) = eGo True (ls, mR S.2.2.2.1 :: st, mNewN I S, mNewH S K c))
    (e3 : ∀ (v : Int) (st : List mV) (I : mN) (S : mH), mDo q3 (ls, mR v :: st, I, S) = eGo True (ls, mR v :: mR v :: st, I, S))
    (e4 : ∀ (v : Int) (st : List mV) (I : mN) (S : mH), mDo q4 (ls, mR v :: st, I, S) = eCall (S.2.1 v = K ∧ mCs st ≤ 8) y [mR v] (ls, st, I, S))
    (e5 : ∀ (v : Int) (st : List mV) (I : mN) (S : mH), mDo q5 (ls, mR v :: mR n :: st, I, S) = eGo (S.2.1 n = Kn ∧ (1 : Nat) = 1) (ls, st, I, mUp S.1 n f v, S.2))
    (h : ∀ Q' : mQ, (∀ (S' : mH) (I' : mN), S'.2.1 n = Kn → mWp (mRun D) m nx X Q is (ls, [], I', (mUp S'.1 n f S.2.2.2.1, S'.2)) → Q' (.inl none) I' S') → mRun D y [mR S.2.2.2.1] (mNewN I S) (mNewH S K c) Q') : mWp (mRun D) m nx X Q (q1 :: q2 :: q3 :: q4 :: q5 :: is) (ls, [], I, S) := by
  show mAct (mRun D) m q1.1 X Q _ (mDo q1 (ls, [], I, S))
  rw [e1]
  refine ⟨trivial, ?_⟩
  show mAct (mRun D) m q2.1 X Q _ (mDo q2 (ls, [mR n], I, S))
  rw [e2]
  refine ⟨trivial, ?_⟩
  show mAct (mRun D) m q3.1 X Q _ (mDo q3 (ls, mR S.2.2.2.1 :: [mR n], mNewN I S, mNewH S K c))
  rw [e3]
  refine ⟨trivial, ?_⟩
  show mAct (mRun D) m q4.1 X Q _ (mDo q4 (ls, mR S.2.2.2.1 :: mR S.2.2.2.1 :: [mR n], mNewN I S, mNewH S K c))
  rw [e4]
  refine ⟨⟨uk_eq rfl, by show (1 + 1 : Nat) ≤ 8; decide⟩, h _ (fun S' I' hk hw => ?_)⟩
  show mAct (mRun D) m q5.1 X Q _ (mDo q5 (ls, mR S.2.2.2.1 :: mR n :: [], I', S'))
  rw [e5]
  exact ⟨⟨hk, rfl⟩, hw⟩
theorem k_no2 {D y m nx : Nat} {X : Nat → mC → Prop} {Q : mQ} {q1 q2 q3 q4 q5 q6 q7 : mJ} {is : List mJ} {ls : mM} {I : mN} {S : mH} (n f g K c Kn : Int)
    (e1 : ∀ (st : List mV) (I : mN) (S : mH), mDo q1 (ls, st, I, S) = eGo True (ls, mR n :: st, I, S)) (e2 : ∀ (st : List mV) (I : mN) (S : mH), mDo q2 (ls, st, I, S) = eGo True (ls, mR S.2.2.2.1 :: st, mNewN I S, mNewH S K c))
    (e3 : ∀ (v : Int) (st : List mV) (I : mN) (S : mH), mDo q3 (ls, mR v :: st, I, S) = eGo True (ls, mR v :: mR v :: st, I, S))
    (e4 : ∀ (st : List mV) (I : mN) (S : mH), mDo q4 (ls, st, I, S) = eGo True (ls, mR n :: st, I, S))
    (e5 : ∀ (st : List mV) (I : mN) (S : mH), mDo q5 (ls, mR n :: st, I, S) = eGo (S.2.1 n = Kn) (ls, mR (S.1 n g) :: st, I, S))
    (e6 : ∀ (v w : Int) (st : List mV) (I : mN) (S : mH), mDo q6 (ls, mR w :: mR v :: st, I, S) = eCall (S.2.1 v = K ∧ mCs st ≤ 8) y [mR v, mR w] (ls, st, I, S))
    (e7 : ∀ (v : Int) (st : List mV) (I : mN) (S : mH), mDo q7 (ls, mR v :: mR n :: st, I, S) = eGo (S.2.1 n = Kn ∧ (1 : Nat) = 1) (ls, st, I, mUp S.1 n f v, S.2))
    (hK : S.2.1 n = Kn) (hn : n < S.2.2.2.1)
    (h : ∀ Q' : mQ, (∀ (S' : mH) (I' : mN), S'.2.1 n = Kn → mWp (mRun D) m nx X Q is (ls, [], I', (mUp S'.1 n f S.2.2.2.1, S'.2)) → Q' (.inl none) I' S') → mRun D y [mR S.2.2.2.1, mR (S.1 n g)] (mNewN I S) (mNewH S K c) Q') : mWp (mRun D) m nx X Q (q1 :: q2 :: q3 :: q4 :: q5 :: q6 :: q7 :: is) (ls, [], I, S) := by
  have hg : (mNewH S K c).1 n g = S.1 n g := congrFun (ua_ne (show n ≠ S.2.2.2.1 by omega)) g
  show mAct (mRun D) m q1.1 X Q _ (mDo q1 (ls, [], I, S))
  rw [e1]
  refine ⟨trivial, ?_⟩
  show mAct (mRun D) m q2.1 X Q _ (mDo q2 (ls, [mR n], I, S))
  rw [e2]
  refine ⟨trivial, ?_⟩
  show mAct (mRun D) m q3.1 X Q _ (mDo q3 (ls, mR S.2.2.2.1 :: [mR n], mNewN I S, mNewH S K c))
  rw [e3]
  refine ⟨trivial, ?_⟩
  show mAct (mRun D) m q4.1 X Q _ (mDo q4 (ls, mR S.2.2.2.1 :: mR S.2.2.2.1 :: [mR n], mNewN I S, mNewH S K c))
  rw [e4]
  refine ⟨trivial, ?_⟩
  show mAct (mRun D) m q5.1 X Q _ (mDo q5 (ls, mR n :: mR S.2.2.2.1 :: mR S.2.2.2.1 :: [mR n], mNewN I S, mNewH S K c))
  rw [e5, hg]
  refine ⟨(uk_ne (by omega)).trans hK, ?_⟩
  show mAct (mRun D) m q6.1 X Q _ (mDo q6 (ls, mR (S.1 n g) :: mR S.2.2.2.1 :: mR S.2.2.2.1 :: [mR n], mNewN I S, mNewH S K c))
  rw [e6]
  refine ⟨⟨uk_eq rfl, by show (1 + 1 : Nat) ≤ 8; decide⟩, h _ (fun S' I' hk hw => ?_)⟩
  show mAct (mRun D) m q7.1 X Q _ (mDo q7 (ls, mR S.2.2.2.1 :: mR n :: [], I', S'))
  rw [e7]
  exact ⟨⟨hk, rfl⟩, hw⟩
theorem k_ns {D y m nx : Nat} {X : Nat → mC → Prop} {Q : mQ} {q1 q2 q3 q4 : mJ} {is : List mJ} {ls : mM} {I : mN} {S : mH} (ls' : Int → mM) (K c : Int)
    (e1 : ∀ (st : List mV) (I : mN) (S : mH), mDo q1 (ls, st, I, S) = eGo True (ls, mR S.2.2.2.1 :: st, mNewN I S, mNewH S K c))
    (e2 : ∀ (v : Int) (st : List mV) (I : mN) (S : mH), mDo q2 (ls, mR v :: st, I, S) = eGo True (ls, mR v :: mR v :: st, I, S))
    (e3 : ∀ (v : Int) (st : List mV) (I : mN) (S : mH), mDo q3 (ls, mR v :: st, I, S) = eCall (S.2.1 v = K ∧ mCs st ≤ 8) y [mR v] (ls, st, I, S))
    (e4 : ∀ (v : Int) (st : List mV) (I : mN) (S : mH), mDo q4 (ls, mR v :: st, I, S) = eGo True (ls' v, st, I, S))
    (h : ∀ Q' : mQ, (∀ (S' : mH) (I' : mN), mWp (mRun D) m nx X Q is (ls' S.2.2.2.1, [], I', S') → Q' (.inl none) I' S') → mRun D y [mR S.2.2.2.1] (mNewN I S) (mNewH S K c) Q') : mWp (mRun D) m nx X Q (q1 :: q2 :: q3 :: q4 :: is) (ls, [], I, S) := by
  show mAct (mRun D) m q1.1 X Q _ (mDo q1 (ls, [], I, S))
  rw [e1]
  refine ⟨trivial, ?_⟩
  show mAct (mRun D) m q2.1 X Q _ (mDo q2 (ls, mR S.2.2.2.1 :: [], mNewN I S, mNewH S K c))
  rw [e2]
  refine ⟨trivial, ?_⟩
  show mAct (mRun D) m q3.1 X Q _ (mDo q3 (ls, mR S.2.2.2.1 :: mR S.2.2.2.1 :: [], mNewN I S, mNewH S K c))
  rw [e3]
  refine ⟨⟨uk_eq rfl, by show (1 : Nat) ≤ 8; decide⟩, h _ (fun S' I' hw => ?_)⟩
  show mAct (mRun D) m q4.1 X Q _ (mDo q4 (ls, mR S.2.2.2.1 :: [], I', S'))
  rw [e4]
  exact ⟨trivial, hw⟩
theorem k_no3 {D y m nx : Nat} {X : Nat → mC → Prop} {Q : mQ} {q1 q2 q3 q4 q5 q6 : mJ} {is : List mJ} {ls : mM} {I : mN} {S : mH} (n s f K c Kn : Int)
    (e1 : ∀ (st : List mV) (I : mN) (S : mH), mDo q1 (ls, st, I, S) = eGo True (ls, mR n :: st, I, S)) (e2 : ∀ (st : List mV) (I : mN) (S : mH), mDo q2 (ls, st, I, S) = eGo True (ls, mR S.2.2.2.1 :: st, mNewN I S, mNewH S K c))
    (e3 : ∀ (v : Int) (st : List mV) (I : mN) (S : mH), mDo q3 (ls, mR v :: st, I, S) = eGo True (ls, mR v :: mR v :: st, I, S))
    (e4 : ∀ (st : List mV) (I : mN) (S : mH), mDo q4 (ls, st, I, S) = eGo True (ls, mR s :: st, I, S))
    (e6 : ∀ (v w : Int) (st : List mV) (I : mN) (S : mH), mDo q5 (ls, mR w :: mR v :: st, I, S) = eCall (S.2.1 v = K ∧ mCs st ≤ 8) y [mR v, mR w] (ls, st, I, S))
    (e7 : ∀ (v : Int) (st : List mV) (I : mN) (S : mH), mDo q6 (ls, mR v :: mR n :: st, I, S) = eGo (S.2.1 n = Kn ∧ (1 : Nat) = 1) (ls, st, I, mUp S.1 n f v, S.2))
    (h : ∀ Q' : mQ, (∀ (S' : mH) (I' : mN), S'.2.1 n = Kn → mWp (mRun D) m nx X Q is (ls, [], I', (mUp S'.1 n f S.2.2.2.1, S'.2)) → Q' (.inl none) I' S') → mRun D y [mR S.2.2.2.1, mR s] (mNewN I S) (mNewH S K c) Q') : mWp (mRun D) m nx X Q (q1 :: q2 :: q3 :: q4 :: q5 :: q6 :: is) (ls, [], I, S) := by
  show mAct (mRun D) m q1.1 X Q _ (mDo q1 (ls, [], I, S))
  rw [e1]
  refine ⟨trivial, ?_⟩
  show mAct (mRun D) m q2.1 X Q _ (mDo q2 (ls, [mR n], I, S))
  rw [e2]
  refine ⟨trivial, ?_⟩
  show mAct (mRun D) m q3.1 X Q _ (mDo q3 (ls, mR S.2.2.2.1 :: [mR n], mNewN I S, mNewH S K c))
  rw [e3]
  refine ⟨trivial, ?_⟩
  show mAct (mRun D) m q4.1 X Q _ (mDo q4 (ls, mR S.2.2.2.1 :: mR S.2.2.2.1 :: [mR n], mNewN I S, mNewH S K c))
  rw [e4]
  refine ⟨trivial, ?_⟩
  show mAct (mRun D) m q5.1 X Q _ (mDo q5 (ls, mR s :: mR S.2.2.2.1 :: mR S.2.2.2.1 :: [mR n], mNewN I S, mNewH S K c))
  rw [e6]
  refine ⟨⟨uk_eq rfl, by show (1 + 1 : Nat) ≤ 8; decide⟩, h _ (fun S' I' hk hw => ?_)⟩
  show mAct (mRun D) m q6.1 X Q _ (mDo q6 (ls, mR S.2.2.2.1 :: mR n :: [], I', S'))
  rw [e7]
  exact ⟨⟨hk, rfl⟩, hw⟩
def kNa (x f q N k : Int) (S : mH) (I : mN) (T : mH) (J : mN) : Prop := (T.2.1 x = S.2.1 x ∧ T.1 x f = q ∧ ∀ g : Int, g ≠ f → T.1 x g = S.1 x g) ∧ hA S T (x + 1) q ∧ (∀ a : Int, a < x → T.1 a = S.1 a ∧ T.2.1 a = S.2.1 a ∧ T.2.2.1 a = S.2.2.1 a) ∧ (T.2.2.2.1 = q + 1 ∧ T.2.2.2.2 = S.2.2.2.2 + N) ∧ (∀ a : Int, a < q → J a = I a) ∧ (T.2.1 q = k ∧ T.2.2.1 q = N) ∧ J q = (fun _ => 0)
/-- what the making of the office's objects gives -/
def kRN (n : Int) (S : mH) (I : mN) (T7 : mH) (I7 : mN) : Prop := ∃ (SA S1 T1 S2 T2 S3 T3 SG S4 T4 S5 T5 T6 : mH) (J0 I1 I2 I3 IG I4 I5 I6 : mN),
  ((SA.2.1 n = 11 ∧ SA.1 n 0 = n + 1 ∧ yA SA (n + 1) 61 3) ∧ (∀ t : Int, 0 ≤ t → t < 3 → SA.1 (n + 1) t = n + (2 + 744 * t) ∧ yBr SA (n + (2 + 744 * t))) ∧ SA.2.2.2.2 = S.2.2.2.2 + 33980 ∧ ∀ a : Int, a < n → SA.1 a = S.1 a ∧ SA.2.1 a = S.2.1 a ∧ SA.2.2.1 a = S.2.2.1 a) ∧
  (J0 n = zU (fun _ => 0) 1 1 ∧ (∀ a : Int, n < a → a < n + 2234 → J0 a = (fun _ => 0)) ∧ ∀ a : Int, a < n → J0 a = I a) ∧
  (kNx n 4 (n + 2234) 106 1616 SA J0 S1 T1 I1 ∧ I1 (n + 2234) = (fun _ => 0) ∧ yB S1 (n + 2234)) ∧
  (kNx n 6 (n + 2340) 1 3 T1 I1 S2 T2 I2 ∧ I2 (n + 2340) = (fun _ => 0) ∧ S2.2.1 (n + 2340) = 3) ∧
  (kNx n 5 (n + 2341) 15 768 T2 I2 S3 T3 I3 ∧ I3 (n + 2341) = (fun _ => 0) ∧ yNe S3 (n + 2341) (n + 2340) ∧ hA S3 T3 (n + 2340) (n + 2341)) ∧
  kSi (n + 2356) 133 T3 I3 SG IG ∧
  (kNx n 7 (n + 2359) 6 3675 SG IG S4 T4 I4 ∧ I4 (n + 2359) = zU (fun _ => 0) 2 (-1) ∧ yRd S4 (n + 2359) ∧ hA S4 T4 (n + 1) (n + 2365)) ∧
  (kNx n 8 (n + 2365) 2 6403 T4 I4 S5 T5 I5 ∧ I5 (n + 2365) = (fun _ => 0) ∧ yWr S5 (n + 2365) ∧ hA S5 T5 (n + 1) (n + 2367)) ∧
  kNa n 9 (n + 2367) 48 51 T5 I5 T6 I6 ∧ kNa n 10 (n + 2368) 48 51 T6 I6 T7 I7 ∧ T7.2.2.2.1 = n + 2369
/-- the office's objects stand -/
def kRF (n : Int) (S : mH) (I : mN) (T7 : mH) (I7 : mN) : Prop := (yX T7 n (fun _ j => j) ∧ T7.2.2.2.1 = n + 2369 ∧ T7.2.2.2.2 ≤ S.2.2.2.2 + 100000) ∧ (∀ a : Int, a < n → T7.1 a = S.1 a ∧ T7.2.1 a = S.2.1 a ∧ T7.2.2.1 a = S.2.2.1 a) ∧ (∀ a : Int, n < a → a < n + 2369 → (a < n + 2357 ∨ n + 2359 < a) → I7 a = (fun _ => 0)) ∧ (I7 (n + 2359) = zU (fun _ => 0) 2 (-1) ∧ zLts (I7 (n + 2357)) (I7 (n + 2358))) ∧ I7 n = zU (fun _ => 0) 1 1 ∧ ∀ a : Int, a < n → I7 a = I a
section KS2
variable {S : mH} {I : mN} {Q : mQ} {n : Int} (D : Nat)
theorem kNf_h {x f q N k : Int} {S T : mH} {I J : mN} (h : kNew S I T J x f N k) (hq : S.2.2.2.1 = q) (hx : x < q) : kNa x f q N k S I T J := by
  subst hq
  obtain ⟨⟨s1, s2⟩, ⟨s3, s4⟩, s5, s6, s7, s8, s9⟩ := h
  exact ⟨⟨(s6 x (by omega)).1, s3, s4⟩, fun a a0 a1 => ⟨s5 a (by omega) (by omega), s6 a (by omega)⟩, fun a ha => ⟨s5 a (by omega) (by omega), s6 a (by omega)⟩, ⟨s1, s2⟩, fun a ha => s9 a (by omega), s7, s8⟩
set_option maxHeartbeats 40000000 in
theorem k_RSa (hn : S.2.2.2.1 = n) (n0 : 0 ≤ n) (kk : ∀ (T7 : mH) (I7 : mN), kRN n S I T7 I7 → mWp (mRun (D + 49)) 114 0 (fun pc c => mAt (mRun (D + 49)) 114 pc c Q) Q (bk_RS_init_38.drop 44) ([some (mR n), some (mR (n + 2356))], [], I7, T7)) : mRun (D + 50) 114 [mR n] (mNewN I S) (mNewH S 11 11) Q := by
  have hK : (mNewH S 11 11).2.1 n = 11 := uk_eq hn.symm
  have t0 : kS [(0, 1, 61, 3)] 11 n 0 (mNewH S 11 11) (mNewN I S) (mNewH S 11 11) (mNewN I S) := kS_0 hK (by show S.2.2.2.1 + 1 = n + 1; omega)
  have i0 : (mNewN I S) n = (fun _ => 0) := ua_eq hn.symm
  have c0 : (mNewH S 11 11).2.2.2.2 = S.2.2.2.2 + 11 := rfl
  generalize hS0 : mNewH S 11 11 = S0 at hK t0 c0 ⊢
  generalize hI0 : mNewN I S = I0 at t0 i0 ⊢
  simp (disch := first | omega | exact Nat.le_of_ble_eq_true rfl) only [e_RS_init, a_RS_init_0]
  unfold bk_RS_init_0
  refine k_ob n (fun _ _ _ => rfl) (fun _ _ => rfl) n0 ?_
  refine k_na n 0 3 61 11 (fun _ _ _ => rfl) (fun _ _ _ => rfl) (fun _ _ _ => rfl) (fun _ _ _ _ => rfl) t0.1 (by have := t0.2.1; omega) (by decide) (fun S1 I1 h1 => ?_)
  have t1 := kS_s t0 h1 rfl (by decide)
  have i1 : I1 n = (fun _ => 0) := (h1.2.2.2.2.2.2 n (by have := t0.2.1; omega)).trans i0
  have c1 : S1.2.2.2.2 = S.2.2.2.2 + 14 := by have := h1.1.2; omega
  rw [← hS0, ← hI0] at t1
  have hc := kC_S (w := 2) hn t1 c1 (by decide)
  have q1 := (t1.2.2.1 (0, 1, 61, 3) (List.mem_of_getElem? (i := 0) rfl)).2
  simp (disch := first | omega | exact Nat.le_of_ble_eq_true rfl) only [w_iconst, w_bipush, w_sipush, w_ldc_s, w_ldcw_s, w_ldc_i, w_ldcw_i, w_lconst, w_fconst, w_dconst, w_iload, w_iload_n, w_aload, w_aload_n, w_dload, w_istore, w_istore_n, w_astore_r, w_astore_s, w_astore_n_r, w_astore_n_s, w_dstore, w_iinc, w_iadd, w_isub, w_imul, w_iand, w_iushr, v_idiv, v_irem, w_ineg, w_i2l, w_i2c, w_i2f, w_i2d, v_f2d, w_lcmp, w_dcmp, v_fdiv, v_ddiv, w_dup_i, w_dup_r, w_dup2, w_dup_x2, w_pop_i, w_pop_r, w_goto, w_switch, w_ret_i, v_ret_z, v_ret_c, w_ret_a, w_ret_s, w_ret_f, w_ret_d, w_ret_v, v_iaload, v_baload, v_caload, v_laload, v_aaload, v_iastore, v_bastore, v_castore, v_lastore, v_aastore, v_alen, v_newa, v_anewa, w_new, w_throw, w_dead, v_getf_i, v_getf_z, v_getf_r, v_putf_i, v_putf_z, v_putf_r, w_call0, w_call1, w_callv1, w_calli1, w_callt1, w_call2, w_callv2, w_calli2, w_callt2, w_call3, w_callv3, w_calli3, w_call4, w_callv4, w_calli4, w_call5, w_callv5, w_calli5, w_call6, w_callv6, w_calli6, w_call7, w_callv7, w_calli7, w_call8, w_callv8, w_calli8, c_if0_eq_t, c_if0_eq_f, c_if2_eq_t, c_if2_eq_f, c_if0_ne_t, c_if0_ne_f, c_if2_ne_t, c_if2_ne_f, c_if0_lt_t, c_if0_lt_f, c_if2_lt_t, c_if2_lt_f, c_if0_ge_t, c_if0_ge_f, c_if2_ge_t, c_if2_ge_f, c_if0_gt_t, c_if0_gt_f, c_if2_gt_t, c_if2_gt_f, c_if0_le_t, c_if0_le_f, c_if2_le_t, c_if2_le_f, w_nil, uI_s, uA_r, uA_s, uD_d, mPut_0, mCl_own, mCv_go, mCl_min, mCl_cpy, mCv_obj, mAct_len, mAct_chrc, mAft_v, mAft_n, mAft_x, mGet_0, mSet_0, mGet_1, mSet_1, mGet_2, mSet_2, mGet_3, mSet_3, mGet_4, mSet_4, mGet_5, mSet_5, mGet_6, mSet_6, mGet_7, mSet_7, mGet_8, mSet_8, mGet_9, mSet_9, mGet_10, mSet_10, mGet_11, mSet_11, mGet_12, mSet_12, mGet_13, mSet_13]
  refine l_RS (D + 46) n0 (S0 := S) (I0 := I) (fun SA IA bA => ?_) 3 0 _ _ rfl (Int.le_refl 0) ⟨⟨t1.1, q1.1, q1.2⟩, fun t t0 t1 => by omega, ⟨by have := hc.2.2.1; omega, by have := hc.2.2.2; omega⟩, hc.1, i1, fun a a0 a1 => hc.2.1 a a0 (by omega)⟩
  clear hc t1 i1 q1
  obtain ⟨⟨A1, A2, A3, A4⟩, A5, ⟨A6, A7⟩, A8, A9, A10⟩ := bA
  have hT0 : SA.2.2.2.1 = n + 2234 := by omega
  have j0 : (mUp IA n 1 1) n = zU (fun _ => 0) 1 1 := by rw [up_zU, A9]
  have z0 : ∀ a : Int, n < a → a < n + 2234 → (mUp IA n 1 1) a = (fun _ => 0) := fun a a0 a1 => by rw [up_fa (by omega)]; exact A10 a a0 (by omega)
  have b0 : ∀ a : Int, a < n → (mUp IA n 1 1) a = I a := fun a ha => by rw [up_fa (by omega)]; exact (A8 a ha).1
  rw [a_RS_init_38]
  unfold bk_RS_init_38
  refine k_pi n 1 1 11 (fun _ _ _ => rfl) (fun _ _ _ => rfl) (fun _ _ _ => rfl) A1 ?_
  generalize mUp IA n 1 1 = J0 at j0 z0 b0 ⊢
  refine k_no n 4 1 9 11 (fun _ _ _ => rfl) (fun _ _ _ => rfl) (fun _ _ _ _ => rfl) (fun _ _ _ _ => rfl) (fun _ _ _ _ => rfl) (fun Q' hQ => ?_)
  rw [hT0]
  rw [hT0] at hQ
  refine k_Ba (S := SA) (I := J0) (D + 47) hT0 (by omega) (fun S1 I1 hh => ?_)
  obtain ⟨c1, e1, P1⟩ := hh
  refine hQ S1 I1 ((c1.1 n (by omega)).2.2.1.trans A1) ?_
  clear hQ
  have N1 := kN_x (f := 4) c1 (show n < n + 2234 by omega)
  generalize ((mUp S1.1 n 4 (n + 2234), S1.2) : mH) = T1 at N1 ⊢
  have hT1 : T1.2.2.2.1 = n + 2340 := by have := N1.2.2.2.1.1; omega
  have TM1 : T1.2.1 n = 11 := N1.1.1.trans A1
  refine k_no n 6 3 3 11 (fun _ _ _ => rfl) (fun _ _ _ => rfl) (fun _ _ _ _ => rfl) (fun _ _ _ _ => rfl) (fun _ _ _ _ => rfl) (fun Q' hQ => ?_)
  rw [hT1]
  rw [hT1] at hQ
  refine k_Ev (S := T1) (I := I1) (D + 48) hT1 (by omega) (fun S2 I2 hh => ?_)
  obtain ⟨c2, e2, P2⟩ := hh
  refine hQ S2 I2 ((c2.1 n (by omega)).2.2.1.trans TM1) ?_
  clear hQ
  have N2 := kN_x (f := 6) c2 (show n < n + 2340 by omega)
  generalize ((mUp S2.1 n 6 (n + 2340), S2.2) : mH) = T2 at N2 ⊢
  have hT2 : T2.2.2.2.1 = n + 2341 := by have := N2.2.2.2.1.1; omega
  have TM2 : T2.2.1 n = 11 := N2.1.1.trans TM1
  refine k_no2 n 5 6 4 17 11 (fun _ _ _ => rfl) (fun _ _ _ => rfl) (fun _ _ _ _ => rfl) (fun _ _ _ => rfl) (fun _ _ _ => rfl) (fun _ _ _ _ _ => rfl) (fun _ _ _ _ => rfl) TM2 (by omega) (fun Q' hQ => ?_)
  rw [N2.1.2.1, hT2]
  rw [hT2] at hQ
  have PE : T2.2.1 (n + 2340) = 3 := (N2.2.2.2.2.2.1 _ (by omega) (by omega)).2.1.trans P2
  refine k_Ne (e := n + 2340) (S := T2) (I := I2) (D + 48) hT2 (by omega) PE (by omega) (fun S3 I3 hh => ?_)
  obtain ⟨c3, e3, P3⟩ := hh
  refine hQ S3 I3 ((c3.1 n (by omega)).2.2.1.trans TM2) ?_
  clear hQ
  have N3 := kN_x (f := 5) c3 (show n < n + 2341 by omega)
  have H3 : hA S3 (mUp S3.1 n 5 (n + 2341), S3.2) (n + 2340) (n + 2341) := fun a a0 a1 => ⟨up_fa (by omega), rfl, rfl⟩
  generalize ((mUp S3.1 n 5 (n + 2341), S3.2) : mH) = T3 at N3 H3 ⊢
  have hT3 : T3.2.2.2.1 = n + 2356 := by have := N3.2.2.2.1.1; omega
  have TM3 : T3.2.1 n = 11 := N3.1.1.trans TM2
  refine k_ns (fun v => [some (mR n), some (mR v)]) 9 2 (fun _ _ _ => rfl) (fun _ _ _ _ => rfl) (fun _ _ _ _ => rfl) (fun _ _ _ _ => rfl) (fun Q' hQ => ?_)
  rw [hT3]
  rw [hT3] at hQ
  refine k_Si (S := T3) (I := I3) (D + 47) hT3 (by omega) (fun SG IG hG => ?_)
  refine hQ SG IG ?_
  clear hQ
  have hTG : SG.2.2.2.1 = n + 2359 := by have := hG.2.1.1; omega
  have TMG : SG.2.1 n = 11 := ((hG.1 n (by omega)).2.2.1).trans TM3
  have hS0' : yGn SG (n + 2359 - 3) := by rw [show n + 2359 - 3 = n + 2356 by omega]; exact hG.2.2.2.1
  refine k_no3 n (n + 2356) 7 7 12 11 (fun _ _ _ => rfl) (fun _ _ _ => rfl) (fun _ _ _ _ => rfl) (fun _ _ _ => rfl) (fun _ _ _ _ _ => rfl) (fun _ _ _ _ => rfl) (fun Q' hQ => ?_)
  rw [hTG]
  rw [hTG] at hQ
  rw [show n + 2356 = n + 2359 - 3 by omega]
  refine k_Rd (S := SG) (I := IG) (D + 48) hTG (by omega) hS0' (fun S4 I4 hh => ?_)
  obtain ⟨c4, e4, P4⟩ := hh
  refine hQ S4 I4 ((c4.1 n (by omega)).2.2.1.trans TMG) ?_
  clear hQ
  have N4 := kN_x (f := 7) c4 (show n < n + 2359 by omega)
  have H4 : hA S4 (mUp S4.1 n 7 (n + 2359), S4.2) (n + 1) (n + 2365) := fun a a0 a1 => ⟨up_fa (by omega), rfl, rfl⟩
  generalize ((mUp S4.1 n 7 (n + 2359), S4.2) : mH) = T4 at N4 H4 ⊢
  have hT4 : T4.2.2.2.1 = n + 2365 := by have := N4.2.2.2.1.1; omega
  have TM4 : T4.2.1 n = 11 := N4.1.1.trans TMG
  have hS4 : yGn T4 (n + 2365 - 9) := by
    rw [show n + 2365 - 9 = n + 2356 by omega]
    have h9 := (yr_G P4)
    rw [show n + 2359 - 3 = n + 2356 by omega] at h9
    exact yGn_h h9 (hA_w H4 (by omega) (by omega))
  refine k_no3 n (n + 2356) 8 10 3 11 (fun _ _ _ => rfl) (fun _ _ _ => rfl) (fun _ _ _ _ => rfl) (fun _ _ _ => rfl) (fun _ _ _ _ _ => rfl) (fun _ _ _ _ => rfl) (fun Q' hQ => ?_)
  rw [hT4]
  rw [hT4] at hQ
  rw [show n + 2356 = n + 2365 - 9 by omega]
  refine k_Wr (S := T4) (I := I4) (D + 48) hT4 (by omega) hS4 (fun S5 I5 hh => ?_)
  obtain ⟨c5, e5, P5⟩ := hh
  refine hQ S5 I5 ((c5.1 n (by omega)).2.2.1.trans TM4) ?_
  clear hQ
  have N5 := kN_x (f := 8) c5 (show n < n + 2365 by omega)
  have H5 : hA S5 (mUp S5.1 n 8 (n + 2365), S5.2) (n + 1) (n + 2367) := fun a a0 a1 => ⟨up_fa (by omega), rfl, rfl⟩
  generalize ((mUp S5.1 n 8 (n + 2365), S5.2) : mH) = T5 at N5 H5 ⊢
  have hT5 : T5.2.2.2.1 = n + 2367 := by have := N5.2.2.2.1.1; omega
  have TM5 : T5.2.1 n = 11 := N5.1.1.trans TM4
  refine k_na n 9 48 51 11 (fun _ _ _ => rfl) (fun _ _ _ => rfl) (fun _ _ _ => rfl) (fun _ _ _ _ => rfl) TM5 (by omega) (by decide) (fun T6 I6 hh => ?_)
  have N6 := kNf_h hh hT5 (by omega)
  clear hh
  have hT6 : T6.2.2.2.1 = n + 2368 := by have := N6.2.2.2.1.1; omega
  have TM6 : T6.2.1 n = 11 := N6.1.1.trans TM5
  refine k_na n 10 48 51 11 (fun _ _ _ => rfl) (fun _ _ _ => rfl) (fun _ _ _ => rfl) (fun _ _ _ _ => rfl) TM6 (by omega) (by decide) (fun T7 I7 hh => ?_)
  have N7 := kNf_h hh hT6 (by omega)
  clear hh
  have hT7 : T7.2.2.2.1 = n + 2369 := by have := N7.2.2.2.1.1; omega
  have TM7 : T7.2.1 n = 11 := N7.1.1.trans TM6
  exact kk T7 I7 ⟨SA, S1, T1, S2, T2, S3, T3, SG, S4, T4, S5, T5, T6, J0, I1, I2, I3, IG, I4, I5, I6, ⟨⟨A1, A2, A3, A4⟩, A5, by omega, fun a ha => (A8 a ha).2⟩, ⟨j0, z0, b0⟩, ⟨N1, e1, P1⟩, ⟨N2, e2, P2⟩, ⟨N3, e3, P3, H3⟩, hG, ⟨N4, e4, P4, H4⟩, ⟨N5, e5, P5, H5⟩, N6, N7, hT7⟩
set_option maxHeartbeats 40000000 in
theorem k_RSb {T7 : mH} {I7 : mN} (h : kRN n S I T7 I7) : kRF n S I T7 I7 := by
  obtain ⟨SA, S1, T1, S2, T2, S3, T3, SG, S4, T4, S5, T5, T6, J0, I1, I2, I3, IG, I4, I5, I6, ⟨⟨A1, A2, A3, A4⟩, A5, A7, A8⟩, ⟨j0, z0, b0⟩, ⟨N1, e1, P1⟩, ⟨N2, e2, P2⟩, ⟨N3, e3, P3, H3⟩, hG, ⟨N4, e4, P4, H4⟩, ⟨N5, e5, P5, H5⟩, N6, N7, hT7⟩ := h
  have G2 : SG.2.1 n = T3.2.1 n := (hG.1 n (by omega)).2.2.1
  have G3 : ∀ g : Int, SG.1 n g = T3.1 n g := fun g => congrFun (hG.1 n (by omega)).2.1 g
  have TM7 : T7.2.1 n = 11 := N7.1.1.trans (N6.1.1.trans (N5.1.1.trans ((N4.1.1.trans G2).trans (N3.1.1.trans (N2.1.1.trans (N1.1.1.trans A1))))))
  have u7 : hA T7 T7 (n + 1) (n + 2369) := fun _ _ _ => ⟨rfl, rfl, rfl⟩
  have u6 : hA T6 T7 (n + 1) (n + 2368) := hA_t2 N7.2.1 u7 (Int.le_refl _) (by omega)
  have u5 : hA T5 T7 (n + 1) (n + 2367) := hA_t2 N6.2.1 u6 (Int.le_refl _) (by omega)
  have u4 : hA T4 T7 (n + 1) (n + 2365) := hA_t2 N5.2.1 u5 (Int.le_refl _) (by omega)
  have uG : hA SG T7 (n + 1) (n + 2359) := hA_t2 N4.2.1 u4 (Int.le_refl _) (by omega)
  have u3 : hA T3 T7 (n + 1) (n + 2356) := hA_t2 (fun a a0 a1 => (hG.1 a a1).2) uG (Int.le_refl _) (by omega)
  have u2 : hA T2 T7 (n + 1) (n + 2341) := hA_t2 N3.2.1 u3 (Int.le_refl _) (by omega)
  have u1 : hA T1 T7 (n + 1) (n + 2340) := hA_t2 N2.2.1 u2 (Int.le_refl _) (by omega)
  have u0 : hA SA T7 (n + 1) (n + 2234) := hA_t2 N1.2.1 u1 (Int.le_refl _) (by omega)
  have F4 : T7.1 n 4 = n + 2234 := (N7.1.2.2 4 (by decide)).trans ((N6.1.2.2 4 (by decide)).trans ((N5.1.2.2 4 (by decide)).trans (((N4.1.2.2 4 (by decide)).trans (G3 4)).trans ((N3.1.2.2 4 (by decide)).trans ((N2.1.2.2 4 (by decide)).trans (N1.1.2.1))))))
  have F6 : T7.1 n 6 = n + 2340 := (N7.1.2.2 6 (by decide)).trans ((N6.1.2.2 6 (by decide)).trans ((N5.1.2.2 6 (by decide)).trans (((N4.1.2.2 6 (by decide)).trans (G3 6)).trans ((N3.1.2.2 6 (by decide)).trans (N2.1.2.1)))))
  have F5 : T7.1 n 5 = n + 2341 := (N7.1.2.2 5 (by decide)).trans ((N6.1.2.2 5 (by decide)).trans ((N5.1.2.2 5 (by decide)).trans (((N4.1.2.2 5 (by decide)).trans (G3 5)).trans (N3.1.2.1))))
  have F7 : T7.1 n 7 = n + 2359 := (N7.1.2.2 7 (by decide)).trans ((N6.1.2.2 7 (by decide)).trans ((N5.1.2.2 7 (by decide)).trans (N4.1.2.1)))
  have F8 : T7.1 n 8 = n + 2365 := (N7.1.2.2 8 (by decide)).trans ((N6.1.2.2 8 (by decide)).trans (N5.1.2.1))
  have F9 : T7.1 n 9 = n + 2367 := (N7.1.2.2 9 (by decide)).trans (N6.1.2.1)
  have F10 : T7.1 n 10 = n + 2368 := N7.1.2.1
  have F0 : T7.1 n 0 = n + 1 := (N7.1.2.2 0 (by decide)).trans ((N6.1.2.2 0 (by decide)).trans ((N5.1.2.2 0 (by decide)).trans (((N4.1.2.2 0 (by decide)).trans (G3 0)).trans ((N3.1.2.2 0 (by decide)).trans ((N2.1.2.2 0 (by decide)).trans ((N1.1.2.2 0 (by decide)).trans (A2)))))))
  have lo : ∀ a : Int, a < n → T7.1 a = S.1 a ∧ T7.2.1 a = S.2.1 a ∧ T7.2.2.1 a = S.2.2.1 a := fun a ha => by
    obtain ⟨x1, x2, x3⟩ := A8 a ha
    obtain ⟨y1, y2, y3⟩ := N1.2.2.1 a ha
    have x1 := y1.trans x1
    have x2 := y2.trans x2
    have x3 := y3.trans x3
    clear y1 y2 y3
    obtain ⟨y1, y2, y3⟩ := N2.2.2.1 a ha
    have x1 := y1.trans x1
    have x2 := y2.trans x2
    have x3 := y3.trans x3
    clear y1 y2 y3
    obtain ⟨y1, y2, y3⟩ := N3.2.2.1 a ha
    have x1 := y1.trans x1
    have x2 := y2.trans x2
    have x3 := y3.trans x3
    clear y1 y2 y3
    obtain ⟨y1, y2, y3⟩ := (hG.1 a (by omega)).2
    have x1 := y1.trans x1
    have x2 := y2.trans x2
    have x3 := y3.trans x3
    clear y1 y2 y3
    obtain ⟨y1, y2, y3⟩ := N4.2.2.1 a ha
    have x1 := y1.trans x1
    have x2 := y2.trans x2
    have x3 := y3.trans x3
    clear y1 y2 y3
    obtain ⟨y1, y2, y3⟩ := N5.2.2.1 a ha
    have x1 := y1.trans x1
    have x2 := y2.trans x2
    have x3 := y3.trans x3
    clear y1 y2 y3
    obtain ⟨y1, y2, y3⟩ := N6.2.2.1 a ha
    have x1 := y1.trans x1
    have x2 := y2.trans x2
    have x3 := y3.trans x3
    clear y1 y2 y3
    obtain ⟨y1, y2, y3⟩ := N7.2.2.1 a ha
    have x1 := y1.trans x1
    have x2 := y2.trans x2
    have x3 := y3.trans x3
    clear y1 y2 y3
    exact ⟨x1, x2, x3⟩
  have v7 : ∀ a : Int, a < n + 2369 → I7 a = I7 a := fun _ _ => rfl
  have v6 : ∀ a : Int, a < n + 2368 → I7 a = I6 a := fun a ha => (v7 a (by omega)).trans (N7.2.2.2.2.1 a ha)
  have v5 : ∀ a : Int, a < n + 2367 → I7 a = I5 a := fun a ha => (v6 a (by omega)).trans (N6.2.2.2.2.1 a ha)
  have v4 : ∀ a : Int, a < n + 2365 → I7 a = I4 a := fun a ha => (v5 a (by omega)).trans (N5.2.2.2.2.1 a ha)
  have vG : ∀ a : Int, a < n + 2359 → I7 a = IG a := fun a ha => (v4 a (by omega)).trans (N4.2.2.2.2.1 a ha)
  have v3 : ∀ a : Int, a < n + 2356 → I7 a = I3 a := fun a ha => (vG a (by omega)).trans (hG.1 a ha).1
  have v2 : ∀ a : Int, a < n + 2341 → I7 a = I2 a := fun a ha => (v3 a (by omega)).trans (N3.2.2.2.2.1 a ha)
  have v1 : ∀ a : Int, a < n + 2340 → I7 a = I1 a := fun a ha => (v2 a (by omega)).trans (N2.2.2.2.2.1 a ha)
  have v0 : ∀ a : Int, a < n + 2234 → I7 a = J0 a := fun a ha => (v1 a (by omega)).trans (N1.2.2.2.2.1 a ha)
  have g1 : I7 (n + 2234) = (fun _ => 0) := (v1 _ (by omega)).trans e1
  have g2 : I7 (n + 2340) = (fun _ => 0) := (v2 _ (by omega)).trans e2
  have g3 : I7 (n + 2341) = (fun _ => 0) := (v3 _ (by omega)).trans e3
  have gG : I7 (n + 2356) = (fun _ => 0) := (vG _ (by omega)).trans hG.2.2.1
  have gZg : zLts (I7 (n + 2357)) (I7 (n + 2358)) := by
    rw [vG _ (by omega), vG (n + 2358) (by omega), show n + 2357 = n + 2356 + 1 by omega, show n + 2358 = n + 2356 + 2 by omega]
    exact hG.2.2.2.2
  have g4 : I7 (n + 2359) = zU (fun _ => 0) 2 (-1) := (v4 _ (by omega)).trans e4
  have g5 : I7 (n + 2365) = (fun _ => 0) := (v5 _ (by omega)).trans e5
  have zz : ∀ a : Int, n < a → a < n + 2369 → (a < n + 2357 ∨ n + 2359 < a) → I7 a = (fun _ => 0) := fun a a0 a1 a2 => by
    by_cases h0 : a < n + 2234
    · rw [v0 a h0]; exact z0 a a0 h0
    by_cases h1 : a < n + 2340
    · by_cases e : a = n + 2234
      · rw [e]; exact g1
      · rw [v1 a (by omega)]; exact N1.2.2.2.2.2.2 a (by omega) (by omega)
    by_cases h2 : a < n + 2341
    · rw [show a = n + 2340 by omega]; exact g2
    by_cases h3 : a < n + 2356
    · by_cases e : a = n + 2341
      · rw [e]; exact g3
      · rw [v3 a (by omega)]; exact N3.2.2.2.2.2.2 a (by omega) (by omega)
    by_cases hg : a = n + 2356
    · rw [hg]; exact gG
    by_cases h4 : a < n + 2365
    · rw [v4 a (by omega)]; exact N4.2.2.2.2.2.2 a (by omega) (by omega)
    by_cases h5 : a < n + 2367
    · by_cases e : a = n + 2365
      · rw [e]; exact g5
      · rw [v5 a (by omega)]; exact N5.2.2.2.2.2.2 a (by omega) (by omega)
    by_cases h6 : a < n + 2368
    · rw [v6 a (by omega), show a = n + 2367 by omega]; exact N6.2.2.2.2.2.2
    · rw [show a = n + 2368 by omega]; exact N7.2.2.2.2.2.2
  have gn : I7 n = zU (fun _ => 0) 1 1 := (v0 n (by omega)).trans j0
  have gl : ∀ a : Int, a < n → I7 a = I a := fun a ha => (v0 a (by omega)).trans (b0 a ha)
  have hR : yRd T7 (n + 2359) := yRd_h P4 (hA_t2 N4.2.2.2.2.2.1 u4 (by omega) (by omega)) (hA_w (hA_t2 H4 u4 (by omega) (by omega)) (by omega) (by omega))
  have hX : yX T7 n (fun _ j => j) := by
    refine ⟨TM7, ⟨F0, F4, F5, F6, F7, F8, F9, F10⟩, ?_, fun k k0 k1 => ?_, ?_, ?_, ?_, hR, ?_, ?_, ?_⟩
    · obtain ⟨-, w2, w3⟩ := u0 (n + 1) (by omega) (by omega)
      exact ⟨w2.trans A3, w3.trans A4⟩
    · obtain ⟨w1, -⟩ := u0 (n + 1) (by omega) (by omega)
      obtain ⟨B0, B1⟩ := A5 k k0 k1
      obtain ⟨⟨C1, C2, C3⟩, C4⟩ := yBr_h B1 (hA_w u0 (by omega) (by omega))
      refine ⟨⟨by rw [w1]; exact B0, C1, C2, C3⟩, fun j j0 j1 => ⟨⟨?_, j0, j1, ?_⟩, fun j' _ _ e => e⟩⟩
      · rw [(C4 j j0 j1).1]; show _ = n + (4 + 744 * k) + 106 * j; omega
      · have := (C4 j j0 j1).2
        rw [show n + (2 + 744 * k) + 2 + 106 * j = n + (4 + 744 * k) + 106 * j by omega] at this
        exact this
    · exact yB_h P1 (hA_t2 N1.2.2.2.2.2.1 u1 (by omega) (by omega))
    · exact (u2 _ (by omega) (by omega)).2.1.trans ((N2.2.2.2.2.2.1 _ (by omega) (by omega)).2.1.trans P2)
    · exact yNe_h P3 (hA_t2 N3.2.2.2.2.2.1 u3 (by omega) (by omega)) (fun a a0 a1 => hA_t2 H3 u3 (by omega) (by omega) a a0 (by omega))
    · exact yWr_h P5 (hA_t2 N5.2.2.2.2.2.1 u5 (by omega) (by omega)) (hA_w (hA_t2 H5 u5 (by omega) (by omega)) (by omega) (by omega))
    · exact ⟨(u6 _ (by omega) (by omega)).2.1.trans N6.2.2.2.2.2.1.1, (u6 _ (by omega) (by omega)).2.2.trans N6.2.2.2.2.2.1.2⟩
    · exact N7.2.2.2.2.2.1
  have sl : T7.2.2.2.2 ≤ S.2.2.2.2 + 100000 := by
    have y1 := N1.2.2.2.1.2
    have y2 := N2.2.2.2.1.2
    have y3 := N3.2.2.2.1.2
    have yg := hG.2.1.2
    have y4 := N4.2.2.2.1.2
    have y5 := N5.2.2.2.1.2
    have y6 := N6.2.2.2.1.2
    have y7 := N7.2.2.2.1.2
    clear N1 N2 N3 N4 N5 N6 N7
    omega
  exact ⟨⟨hX, hT7, sl⟩, lo, zz, ⟨g4, gZg⟩, gn, gl⟩
set_option maxHeartbeats 40000000 in
theorem k_RSc {T7 : mH} {I7 : mN} (n0 : 0 ≤ n) (hF : kRF n S I T7 I7) (kk : ∀ (S' : mH) (I' : mN), (∀ a : Int, a < n → I' a = I a ∧ S'.1 a = S.1 a ∧ S'.2.1 a = S.2.1 a ∧ S'.2.2.1 a = S.2.2.1 a) → S'.2.2.2.1 = n + 2369 → S'.2.2.2.2 ≤ S.2.2.2.2 + 100000 → xR S' I' n gSt → Q (.inl none) I' S') : mWp (mRun (D + 49)) 114 0 (fun pc c => mAt (mRun (D + 49)) 114 pc c Q) Q (bk_RS_init_38.drop 44) ([some (mR n), some (mR (n + 2356))], [], I7, T7) := by
  obtain ⟨⟨hX, hT7, sl⟩, lo, zz, ⟨g4, gZg⟩, gn, gl⟩ := hF
  have TM7 := hX.1
  have F0 := hX.2.1.1
  have F7 := hX.2.1.2.2.2.2.1
  have hR := yx_r hX
  unfold bk_RS_init_38
  simp only [List.drop]
  have hk7 : T7.2.1 (n + 2359) = 7 := hR.1
  have w0 : rTx I7 (n + 2359) (fun _ => 0, 0) := ⟨by rw [g4]; rfl, zz _ (by omega) (by omega) (by omega)⟩
  simp (disch := first | omega | exact Nat.le_of_ble_eq_true rfl | (simp (disch := omega) only [TM7, hk7] <;> omega)) only [w_iconst, w_bipush, w_sipush, w_ldc_s, w_ldcw_s, w_ldc_i, w_ldcw_i, w_lconst, w_fconst, w_dconst, w_iload, w_iload_n, w_aload, w_aload_n, w_dload, w_istore, w_istore_n, w_astore_r, w_astore_s, w_astore_n_r, w_astore_n_s, w_dstore, w_iinc, w_iadd, w_isub, w_imul, w_iand, w_iushr, v_idiv, v_irem, w_ineg, w_i2l, w_i2c, w_i2f, w_i2d, v_f2d, w_lcmp, w_dcmp, v_fdiv, v_ddiv, w_dup_i, w_dup_r, w_dup2, w_dup_x2, w_pop_i, w_pop_r, w_goto, w_switch, w_ret_i, v_ret_z, v_ret_c, w_ret_a, w_ret_s, w_ret_f, w_ret_d, w_ret_v, v_iaload, v_baload, v_caload, v_laload, v_aaload, v_iastore, v_bastore, v_castore, v_lastore, v_aastore, v_alen, v_anewa, w_new, w_throw, w_dead, v_getf_i, v_getf_z, v_getf_r, v_putf_i, v_putf_z, v_putf_r, w_call0, w_call1, w_callv1, w_calli1, w_callt1, w_call2, w_callv2, w_calli2, w_callt2, w_call3, w_callv3, w_calli3, w_call4, w_callv4, w_calli4, w_call5, w_callv5, w_calli5, w_call6, w_callv6, w_calli6, w_call7, w_callv7, w_calli7, w_call8, w_callv8, w_calli8, c_if0_eq_t, c_if0_eq_f, c_if2_eq_t, c_if2_eq_f, c_if0_ne_t, c_if0_ne_f, c_if2_ne_t, c_if2_ne_f, c_if0_lt_t, c_if0_lt_f, c_if2_lt_t, c_if2_lt_f, c_if0_ge_t, c_if0_ge_f, c_if2_ge_t, c_if2_ge_f, c_if0_gt_t, c_if0_gt_f, c_if2_gt_t, c_if2_gt_f, c_if0_le_t, c_if0_le_f, c_if2_le_t, c_if2_le_f, w_nil, uI_s, uA_r, uA_s, uD_d, mPut_0, mCl_own, mCv_go, mCl_min, mCl_cpy, mCv_obj, mAct_len, mAct_chrc, mAft_v, mAft_n, mAft_x, mGet_0, mSet_0, mGet_1, mSet_1, mGet_2, mSet_2, mGet_3, mSet_3, mGet_4, mSet_4, mGet_5, mSet_5, mGet_6, mSet_6, mGet_7, mSet_7, mGet_8, mSet_8, mGet_9, mSet_9, mGet_10, mSet_10, mGet_11, mSet_11, mGet_12, mSet_12, mGet_13, mSet_13, TM7, F7, hk7]
  refine p_addT (D + 47) (k := 28) (by decide) hR w0 (by decide +kernel) (by decide +kernel) (fun K1 w1 f1 => ?_)
  simp (disch := first | omega | exact Nat.le_of_ble_eq_true rfl | (simp (disch := omega) only [TM7, hk7] <;> omega)) only [w_iconst, w_bipush, w_sipush, w_ldc_s, w_ldcw_s, w_ldc_i, w_ldcw_i, w_lconst, w_fconst, w_dconst, w_iload, w_iload_n, w_aload, w_aload_n, w_dload, w_istore, w_istore_n, w_astore_r, w_astore_s, w_astore_n_r, w_astore_n_s, w_dstore, w_iinc, w_iadd, w_isub, w_imul, w_iand, w_iushr, v_idiv, v_irem, w_ineg, w_i2l, w_i2c, w_i2f, w_i2d, v_f2d, w_lcmp, w_dcmp, v_fdiv, v_ddiv, w_dup_i, w_dup_r, w_dup2, w_dup_x2, w_pop_i, w_pop_r, w_goto, w_switch, w_ret_i, v_ret_z, v_ret_c, w_ret_a, w_ret_s, w_ret_f, w_ret_d, w_ret_v, v_iaload, v_baload, v_caload, v_laload, v_aaload, v_iastore, v_bastore, v_castore, v_lastore, v_aastore, v_alen, v_anewa, w_new, w_throw, w_dead, v_getf_i, v_getf_z, v_getf_r, v_putf_i, v_putf_z, v_putf_r, w_call0, w_call1, w_callv1, w_calli1, w_callt1, w_call2, w_callv2, w_calli2, w_callt2, w_call3, w_callv3, w_calli3, w_call4, w_callv4, w_calli4, w_call5, w_callv5, w_calli5, w_call6, w_callv6, w_calli6, w_call7, w_callv7, w_calli7, w_call8, w_callv8, w_calli8, c_if0_eq_t, c_if0_eq_f, c_if2_eq_t, c_if2_eq_f, c_if0_ne_t, c_if0_ne_f, c_if2_ne_t, c_if2_ne_f, c_if0_lt_t, c_if0_lt_f, c_if2_lt_t, c_if2_lt_f, c_if0_ge_t, c_if0_ge_f, c_if2_ge_t, c_if2_ge_f, c_if0_gt_t, c_if0_gt_f, c_if2_gt_t, c_if2_gt_f, c_if0_le_t, c_if0_le_f, c_if2_le_t, c_if2_le_f, w_nil, uI_s, uA_r, uA_s, uD_d, mPut_0, mCl_own, mCv_go, mCl_min, mCl_cpy, mCv_obj, mAct_len, mAct_chrc, mAft_v, mAft_n, mAft_x, mGet_0, mSet_0, mGet_1, mSet_1, mGet_2, mSet_2, mGet_3, mSet_3, mGet_4, mSet_4, mGet_5, mSet_5, mGet_6, mSet_6, mGet_7, mSet_7, mGet_8, mSet_8, mGet_9, mSet_9, mGet_10, mSet_10, mGet_11, mSet_11, mGet_12, mSet_12, mGet_13, mSet_13, TM7, F7, hk7]
  refine p_addT (D + 47) (k := 29) (by decide) hR w1 (by decide +kernel) (by decide +kernel) (fun K2 w2 f2 => ?_)
  have f2 := rTf_t f1 f2
  simp (disch := first | omega | exact Nat.le_of_ble_eq_true rfl | (simp (disch := omega) only [TM7, hk7] <;> omega)) only [w_iconst, w_bipush, w_sipush, w_ldc_s, w_ldcw_s, w_ldc_i, w_ldcw_i, w_lconst, w_fconst, w_dconst, w_iload, w_iload_n, w_aload, w_aload_n, w_dload, w_istore, w_istore_n, w_astore_r, w_astore_s, w_astore_n_r, w_astore_n_s, w_dstore, w_iinc, w_iadd, w_isub, w_imul, w_iand, w_iushr, v_idiv, v_irem, w_ineg, w_i2l, w_i2c, w_i2f, w_i2d, v_f2d, w_lcmp, w_dcmp, v_fdiv, v_ddiv, w_dup_i, w_dup_r, w_dup2, w_dup_x2, w_pop_i, w_pop_r, w_goto, w_switch, w_ret_i, v_ret_z, v_ret_c, w_ret_a, w_ret_s, w_ret_f, w_ret_d, w_ret_v, v_iaload, v_baload, v_caload, v_laload, v_aaload, v_iastore, v_bastore, v_castore, v_lastore, v_aastore, v_alen, v_anewa, w_new, w_throw, w_dead, v_getf_i, v_getf_z, v_getf_r, v_putf_i, v_putf_z, v_putf_r, w_call0, w_call1, w_callv1, w_calli1, w_callt1, w_call2, w_callv2, w_calli2, w_callt2, w_call3, w_callv3, w_calli3, w_call4, w_callv4, w_calli4, w_call5, w_callv5, w_calli5, w_call6, w_callv6, w_calli6, w_call7, w_callv7, w_calli7, w_call8, w_callv8, w_calli8, c_if0_eq_t, c_if0_eq_f, c_if2_eq_t, c_if2_eq_f, c_if0_ne_t, c_if0_ne_f, c_if2_ne_t, c_if2_ne_f, c_if0_lt_t, c_if0_lt_f, c_if2_lt_t, c_if2_lt_f, c_if0_ge_t, c_if0_ge_f, c_if2_ge_t, c_if2_ge_f, c_if0_gt_t, c_if0_gt_f, c_if2_gt_t, c_if2_gt_f, c_if0_le_t, c_if0_le_f, c_if2_le_t, c_if2_le_f, w_nil, uI_s, uA_r, uA_s, uD_d, mPut_0, mCl_own, mCv_go, mCl_min, mCl_cpy, mCv_obj, mAct_len, mAct_chrc, mAft_v, mAft_n, mAft_x, mGet_0, mSet_0, mGet_1, mSet_1, mGet_2, mSet_2, mGet_3, mSet_3, mGet_4, mSet_4, mGet_5, mSet_5, mGet_6, mSet_6, mGet_7, mSet_7, mGet_8, mSet_8, mGet_9, mSet_9, mGet_10, mSet_10, mGet_11, mSet_11, mGet_12, mSet_12, mGet_13, mSet_13, TM7, F7, hk7]
  refine p_addT (D + 47) (k := 30) (by decide) hR w2 (by decide +kernel) (by decide +kernel) (fun K3 w3 f3 => ?_)
  have f3 := rTf_t f2 f3
  simp (disch := first | omega | exact Nat.le_of_ble_eq_true rfl | (simp (disch := omega) only [TM7, hk7] <;> omega)) only [w_iconst, w_bipush, w_sipush, w_ldc_s, w_ldcw_s, w_ldc_i, w_ldcw_i, w_lconst, w_fconst, w_dconst, w_iload, w_iload_n, w_aload, w_aload_n, w_dload, w_istore, w_istore_n, w_astore_r, w_astore_s, w_astore_n_r, w_astore_n_s, w_dstore, w_iinc, w_iadd, w_isub, w_imul, w_iand, w_iushr, v_idiv, v_irem, w_ineg, w_i2l, w_i2c, w_i2f, w_i2d, v_f2d, w_lcmp, w_dcmp, v_fdiv, v_ddiv, w_dup_i, w_dup_r, w_dup2, w_dup_x2, w_pop_i, w_pop_r, w_goto, w_switch, w_ret_i, v_ret_z, v_ret_c, w_ret_a, w_ret_s, w_ret_f, w_ret_d, w_ret_v, v_iaload, v_baload, v_caload, v_laload, v_aaload, v_iastore, v_bastore, v_castore, v_lastore, v_aastore, v_alen, v_anewa, w_new, w_throw, w_dead, v_getf_i, v_getf_z, v_getf_r, v_putf_i, v_putf_z, v_putf_r, w_call0, w_call1, w_callv1, w_calli1, w_callt1, w_call2, w_callv2, w_calli2, w_callt2, w_call3, w_callv3, w_calli3, w_call4, w_callv4, w_calli4, w_call5, w_callv5, w_calli5, w_call6, w_callv6, w_calli6, w_call7, w_callv7, w_calli7, w_call8, w_callv8, w_calli8, c_if0_eq_t, c_if0_eq_f, c_if2_eq_t, c_if2_eq_f, c_if0_ne_t, c_if0_ne_f, c_if2_ne_t, c_if2_ne_f, c_if0_lt_t, c_if0_lt_f, c_if2_lt_t, c_if2_lt_f, c_if0_ge_t, c_if0_ge_f, c_if2_ge_t, c_if2_ge_f, c_if0_gt_t, c_if0_gt_f, c_if2_gt_t, c_if2_gt_f, c_if0_le_t, c_if0_le_f, c_if2_le_t, c_if2_le_f, w_nil, uI_s, uA_r, uA_s, uD_d, mPut_0, mCl_own, mCv_go, mCl_min, mCl_cpy, mCv_obj, mAct_len, mAct_chrc, mAft_v, mAft_n, mAft_x, mGet_0, mSet_0, mGet_1, mSet_1, mGet_2, mSet_2, mGet_3, mSet_3, mGet_4, mSet_4, mGet_5, mSet_5, mGet_6, mSet_6, mGet_7, mSet_7, mGet_8, mSet_8, mGet_9, mSet_9, mGet_10, mSet_10, mGet_11, mSet_11, mGet_12, mSet_12, mGet_13, mSet_13, TM7, F7, hk7]
  refine p_addT (D + 47) (k := 31) (by decide) hR w3 (by decide +kernel) (by decide +kernel) (fun K4 w4 f4 => ?_)
  have f4 := rTf_t f3 f4
  simp (disch := first | omega | exact Nat.le_of_ble_eq_true rfl | (simp (disch := omega) only [TM7, hk7] <;> omega)) only [w_iconst, w_bipush, w_sipush, w_ldc_s, w_ldcw_s, w_ldc_i, w_ldcw_i, w_lconst, w_fconst, w_dconst, w_iload, w_iload_n, w_aload, w_aload_n, w_dload, w_istore, w_istore_n, w_astore_r, w_astore_s, w_astore_n_r, w_astore_n_s, w_dstore, w_iinc, w_iadd, w_isub, w_imul, w_iand, w_iushr, v_idiv, v_irem, w_ineg, w_i2l, w_i2c, w_i2f, w_i2d, v_f2d, w_lcmp, w_dcmp, v_fdiv, v_ddiv, w_dup_i, w_dup_r, w_dup2, w_dup_x2, w_pop_i, w_pop_r, w_goto, w_switch, w_ret_i, v_ret_z, v_ret_c, w_ret_a, w_ret_s, w_ret_f, w_ret_d, w_ret_v, v_iaload, v_baload, v_caload, v_laload, v_aaload, v_iastore, v_bastore, v_castore, v_lastore, v_aastore, v_alen, v_anewa, w_new, w_throw, w_dead, v_getf_i, v_getf_z, v_getf_r, v_putf_i, v_putf_z, v_putf_r, w_call0, w_call1, w_callv1, w_calli1, w_callt1, w_call2, w_callv2, w_calli2, w_callt2, w_call3, w_callv3, w_calli3, w_call4, w_callv4, w_calli4, w_call5, w_callv5, w_calli5, w_call6, w_callv6, w_calli6, w_call7, w_callv7, w_calli7, w_call8, w_callv8, w_calli8, c_if0_eq_t, c_if0_eq_f, c_if2_eq_t, c_if2_eq_f, c_if0_ne_t, c_if0_ne_f, c_if2_ne_t, c_if2_ne_f, c_if0_lt_t, c_if0_lt_f, c_if2_lt_t, c_if2_lt_f, c_if0_ge_t, c_if0_ge_f, c_if2_ge_t, c_if2_ge_f, c_if0_gt_t, c_if0_gt_f, c_if2_gt_t, c_if2_gt_f, c_if0_le_t, c_if0_le_f, c_if2_le_t, c_if2_le_f, w_nil, uI_s, uA_r, uA_s, uD_d, mPut_0, mCl_own, mCv_go, mCl_min, mCl_cpy, mCv_obj, mAct_len, mAct_chrc, mAft_v, mAft_n, mAft_x, mGet_0, mSet_0, mGet_1, mSet_1, mGet_2, mSet_2, mGet_3, mSet_3, mGet_4, mSet_4, mGet_5, mSet_5, mGet_6, mSet_6, mGet_7, mSet_7, mGet_8, mSet_8, mGet_9, mSet_9, mGet_10, mSet_10, mGet_11, mSet_11, mGet_12, mSet_12, mGet_13, mSet_13, TM7, F7, hk7]
  refine p_addT (D + 47) (k := 32) (by decide) hR w4 (by decide +kernel) (by decide +kernel) (fun K5 w5 f5 => ?_)
  have f5 := rTf_t f4 f5
  simp (disch := first | omega | exact Nat.le_of_ble_eq_true rfl | (simp (disch := omega) only [TM7, hk7] <;> omega)) only [w_iconst, w_bipush, w_sipush, w_ldc_s, w_ldcw_s, w_ldc_i, w_ldcw_i, w_lconst, w_fconst, w_dconst, w_iload, w_iload_n, w_aload, w_aload_n, w_dload, w_istore, w_istore_n, w_astore_r, w_astore_s, w_astore_n_r, w_astore_n_s, w_dstore, w_iinc, w_iadd, w_isub, w_imul, w_iand, w_iushr, v_idiv, v_irem, w_ineg, w_i2l, w_i2c, w_i2f, w_i2d, v_f2d, w_lcmp, w_dcmp, v_fdiv, v_ddiv, w_dup_i, w_dup_r, w_dup2, w_dup_x2, w_pop_i, w_pop_r, w_goto, w_switch, w_ret_i, v_ret_z, v_ret_c, w_ret_a, w_ret_s, w_ret_f, w_ret_d, w_ret_v, v_iaload, v_baload, v_caload, v_laload, v_aaload, v_iastore, v_bastore, v_castore, v_lastore, v_aastore, v_alen, v_anewa, w_new, w_throw, w_dead, v_getf_i, v_getf_z, v_getf_r, v_putf_i, v_putf_z, v_putf_r, w_call0, w_call1, w_callv1, w_calli1, w_callt1, w_call2, w_callv2, w_calli2, w_callt2, w_call3, w_callv3, w_calli3, w_call4, w_callv4, w_calli4, w_call5, w_callv5, w_calli5, w_call6, w_callv6, w_calli6, w_call7, w_callv7, w_calli7, w_call8, w_callv8, w_calli8, c_if0_eq_t, c_if0_eq_f, c_if2_eq_t, c_if2_eq_f, c_if0_ne_t, c_if0_ne_f, c_if2_ne_t, c_if2_ne_f, c_if0_lt_t, c_if0_lt_f, c_if2_lt_t, c_if2_lt_f, c_if0_ge_t, c_if0_ge_f, c_if2_ge_t, c_if2_ge_f, c_if0_gt_t, c_if0_gt_f, c_if2_gt_t, c_if2_gt_f, c_if0_le_t, c_if0_le_f, c_if2_le_t, c_if2_le_f, w_nil, uI_s, uA_r, uA_s, uD_d, mPut_0, mCl_own, mCv_go, mCl_min, mCl_cpy, mCv_obj, mAct_len, mAct_chrc, mAft_v, mAft_n, mAft_x, mGet_0, mSet_0, mGet_1, mSet_1, mGet_2, mSet_2, mGet_3, mSet_3, mGet_4, mSet_4, mGet_5, mSet_5, mGet_6, mSet_6, mGet_7, mSet_7, mGet_8, mSet_8, mGet_9, mSet_9, mGet_10, mSet_10, mGet_11, mSet_11, mGet_12, mSet_12, mGet_13, mSet_13, TM7, F7, hk7]
  refine p_addT (D + 47) (k := 33) (by decide) hR w5 (by decide +kernel) (by decide +kernel) (fun K6 w6 f6 => ?_)
  have f6 := rTf_t f5 f6
  simp (disch := first | omega | exact Nat.le_of_ble_eq_true rfl | (simp (disch := omega) only [TM7, hk7] <;> omega)) only [w_iconst, w_bipush, w_sipush, w_ldc_s, w_ldcw_s, w_ldc_i, w_ldcw_i, w_lconst, w_fconst, w_dconst, w_iload, w_iload_n, w_aload, w_aload_n, w_dload, w_istore, w_istore_n, w_astore_r, w_astore_s, w_astore_n_r, w_astore_n_s, w_dstore, w_iinc, w_iadd, w_isub, w_imul, w_iand, w_iushr, v_idiv, v_irem, w_ineg, w_i2l, w_i2c, w_i2f, w_i2d, v_f2d, w_lcmp, w_dcmp, v_fdiv, v_ddiv, w_dup_i, w_dup_r, w_dup2, w_dup_x2, w_pop_i, w_pop_r, w_goto, w_switch, w_ret_i, v_ret_z, v_ret_c, w_ret_a, w_ret_s, w_ret_f, w_ret_d, w_ret_v, v_iaload, v_baload, v_caload, v_laload, v_aaload, v_iastore, v_bastore, v_castore, v_lastore, v_aastore, v_alen, v_anewa, w_new, w_throw, w_dead, v_getf_i, v_getf_z, v_getf_r, v_putf_i, v_putf_z, v_putf_r, w_call0, w_call1, w_callv1, w_calli1, w_callt1, w_call2, w_callv2, w_calli2, w_callt2, w_call3, w_callv3, w_calli3, w_call4, w_callv4, w_calli4, w_call5, w_callv5, w_calli5, w_call6, w_callv6, w_calli6, w_call7, w_callv7, w_calli7, w_call8, w_callv8, w_calli8, c_if0_eq_t, c_if0_eq_f, c_if2_eq_t, c_if2_eq_f, c_if0_ne_t, c_if0_ne_f, c_if2_ne_t, c_if2_ne_f, c_if0_lt_t, c_if0_lt_f, c_if2_lt_t, c_if2_lt_f, c_if0_ge_t, c_if0_ge_f, c_if2_ge_t, c_if2_ge_f, c_if0_gt_t, c_if0_gt_f, c_if2_gt_t, c_if2_gt_f, c_if0_le_t, c_if0_le_f, c_if2_le_t, c_if2_le_f, w_nil, uI_s, uA_r, uA_s, uD_d, mPut_0, mCl_own, mCv_go, mCl_min, mCl_cpy, mCv_obj, mAct_len, mAct_chrc, mAft_v, mAft_n, mAft_x, mGet_0, mSet_0, mGet_1, mSet_1, mGet_2, mSet_2, mGet_3, mSet_3, mGet_4, mSet_4, mGet_5, mSet_5, mGet_6, mSet_6, mGet_7, mSet_7, mGet_8, mSet_8, mGet_9, mSet_9, mGet_10, mSet_10, mGet_11, mSet_11, mGet_12, mSet_12, mGet_13, mSet_13, TM7, F7, hk7]
  refine p_addT (D + 47) (k := 34) (by decide) hR w6 (by decide +kernel) (by decide +kernel) (fun K7 w7 f7 => ?_)
  have f7 := rTf_t f6 f7
  have hB0 : yB T7 (n + (4 + 744 * 0) + 106 * 0) := yx_B hX (k := 0) (j := 0) (by decide) (by decide) (by decide) (by decide)
  have s0 : T7.1 (n + 1) 0 = n + (2 + 744 * 0) := (hX.2.2.2.1 0 (by decide) (by decide)).1.1
  have s1 : T7.2.1 (n + (2 + 744 * 0)) = 2 := (hX.2.2.2.1 0 (by decide) (by decide)).1.2.1
  have s2 : T7.2.1 (n + 1) = 61 := hX.2.2.1.1
  have s3 : T7.2.2.1 (n + 1) = 3 := hX.2.2.1.2
  have o7 : ∀ a : Int, a ≠ n + 2359 → a ≠ n + 2359 + 1 → K7 a = I7 a := f7.1
  have g22 : ∀ Q : mQ, mRun (D + 49) 22 [mR (n + (2 + 744 * 0))] K7 T7 Q = Q (.inl (some (mR (n + (4 + 744 * 0) + 106 * 0)))) K7 T7 := fun Q => r_Brnow (D + 48) hX (k := 0) (u := 0) (by decide) (by decide) (by rw [o7 _ (by omega) (by omega), zz _ (by omega) (by omega) (by omega)]) (by decide) (by decide)
  have txt : zTxR K7 (n + 2359) (mTxt 36) 361 := ⟨by decide, fun i i0 i1 => by
    rw [w7.2]; exact wFst_e.2 i i0 i1⟩
  have hN7 : K7 (n + 2359) 1 = 361 := w7.1.trans wFst_e.1
  have hok : yOk K7 (n + (4 + 744 * 0) + 106 * 0) := yOk_0 (fun a a0 a1 => by rw [o7 _ (by omega) (by omega)]; exact zz _ (by omega) (by omega) (by omega))
  have hbd : rBd K7 (n + 2359) := fun j j0 j1 => by rw [o7 _ (by omega) (by omega), zz _ (by omega) (by omega) (by omega)]; exact zB2
  simp (disch := first | omega | exact Nat.le_of_ble_eq_true rfl | (simp (disch := omega) only [TM7, hk7, s1, s2, s3] <;> omega)) only [w_iconst, w_bipush, w_sipush, w_ldc_s, w_ldcw_s, w_ldc_i, w_ldcw_i, w_lconst, w_fconst, w_dconst, w_iload, w_iload_n, w_aload, w_aload_n, w_dload, w_istore, w_istore_n, w_astore_r, w_astore_s, w_astore_n_r, w_astore_n_s, w_dstore, w_iinc, w_iadd, w_isub, w_imul, w_iand, w_iushr, v_idiv, v_irem, w_ineg, w_i2l, w_i2c, w_i2f, w_i2d, v_f2d, w_lcmp, w_dcmp, v_fdiv, v_ddiv, w_dup_i, w_dup_r, w_dup2, w_dup_x2, w_pop_i, w_pop_r, w_goto, w_switch, w_ret_i, v_ret_z, v_ret_c, w_ret_a, w_ret_s, w_ret_f, w_ret_d, w_ret_v, v_iaload, v_baload, v_caload, v_laload, v_aaload, v_iastore, v_bastore, v_castore, v_lastore, v_aastore, v_alen, v_anewa, w_new, w_throw, w_dead, v_getf_i, v_getf_z, v_getf_r, v_putf_i, v_putf_z, v_putf_r, w_call0, w_call1, w_callv1, w_calli1, w_callt1, w_call2, w_callv2, w_calli2, w_callt2, w_call3, w_callv3, w_calli3, w_call4, w_callv4, w_calli4, w_call5, w_callv5, w_calli5, w_call6, w_callv6, w_calli6, w_call7, w_callv7, w_calli7, w_call8, w_callv8, w_calli8, c_if0_eq_t, c_if0_eq_f, c_if2_eq_t, c_if2_eq_f, c_if0_ne_t, c_if0_ne_f, c_if2_ne_t, c_if2_ne_f, c_if0_lt_t, c_if0_lt_f, c_if2_lt_t, c_if2_lt_f, c_if0_ge_t, c_if0_ge_f, c_if2_ge_t, c_if2_ge_f, c_if0_gt_t, c_if0_gt_f, c_if2_gt_t, c_if2_gt_f, c_if0_le_t, c_if0_le_f, c_if2_le_t, c_if2_le_f, w_nil, uI_s, uA_r, uA_s, uD_d, mPut_0, mCl_own, mCv_go, mCl_min, mCl_cpy, mCv_obj, mAct_len, mAct_chrc, mAft_v, mAft_n, mAft_x, mGet_0, mSet_0, mGet_1, mSet_1, mGet_2, mSet_2, mGet_3, mSet_3, mGet_4, mSet_4, mGet_5, mSet_5, mGet_6, mSet_6, mGet_7, mSet_7, mGet_8, mSet_8, mGet_9, mSet_9, mGet_10, mSet_10, mGet_11, mSet_11, mGet_12, mSet_12, mGet_13, mSet_13, TM7, F7, F0, hk7, s0, s1, s2, s3, g22]
  have hG : zSi K7 (n + 2359) := by
    unfold zSi
    rw [o7 _ (by omega) (by omega), o7 (n + 2359 - 3 + 2) (by omega) (by omega), show n + 2359 - 3 + 1 = n + 2357 by omega, show n + 2359 - 3 + 2 = n + 2358 by omega]
    exact gZg
  refine p_takeBas D (by omega) hB0 (by decide) (by decide) hR hG hN7 txt hok hbd (fun I9 f9 hb9 i9 hyes _ _ => ?_)
  obtain ⟨y1, y2, y3, -, -⟩ := hyes tTop
  simp (disch := first | omega | exact Nat.le_of_ble_eq_true rfl) only [w_iconst, w_bipush, w_sipush, w_ldc_s, w_ldcw_s, w_ldc_i, w_ldcw_i, w_lconst, w_fconst, w_dconst, w_iload, w_iload_n, w_aload, w_aload_n, w_dload, w_istore, w_istore_n, w_astore_r, w_astore_s, w_astore_n_r, w_astore_n_s, w_dstore, w_iinc, w_iadd, w_isub, w_imul, w_iand, w_iushr, v_idiv, v_irem, w_ineg, w_i2l, w_i2c, w_i2f, w_i2d, v_f2d, w_lcmp, w_dcmp, v_fdiv, v_ddiv, w_dup_i, w_dup_r, w_dup2, w_dup_x2, w_pop_i, w_pop_r, w_goto, w_switch, w_ret_i, v_ret_z, v_ret_c, w_ret_a, w_ret_s, w_ret_f, w_ret_d, w_ret_v, v_iaload, v_baload, v_caload, v_laload, v_aaload, v_iastore, v_bastore, v_castore, v_lastore, v_aastore, v_alen, v_anewa, w_new, w_throw, w_dead, v_getf_i, v_getf_z, v_getf_r, v_putf_i, v_putf_z, v_putf_r, w_call0, w_call1, w_callv1, w_calli1, w_callt1, w_call2, w_callv2, w_calli2, w_callt2, w_call3, w_callv3, w_calli3, w_call4, w_callv4, w_calli4, w_call5, w_callv5, w_calli5, w_call6, w_callv6, w_calli6, w_call7, w_callv7, w_calli7, w_call8, w_callv8, w_calli8, c_if0_eq_t, c_if0_eq_f, c_if2_eq_t, c_if2_eq_f, c_if0_ne_t, c_if0_ne_f, c_if2_ne_t, c_if2_ne_f, c_if0_lt_t, c_if0_lt_f, c_if2_lt_t, c_if2_lt_f, c_if0_ge_t, c_if0_ge_f, c_if2_ge_t, c_if2_ge_f, c_if0_gt_t, c_if0_gt_f, c_if2_gt_t, c_if2_gt_f, c_if0_le_t, c_if0_le_f, c_if2_le_t, c_if2_le_f, w_nil, uI_s, uA_r, uA_s, uD_d, mPut_0, mCl_own, mCv_go, mCl_min, mCl_cpy, mCv_obj, mAct_len, mAct_chrc, mAft_v, mAft_n, mAft_x, mGet_0, mSet_0, mGet_1, mSet_1, mGet_2, mSet_2, mGet_3, mSet_3, mGet_4, mSet_4, mGet_5, mSet_5, mGet_6, mSet_6, mGet_7, mSet_7, mGet_8, mSet_8, mGet_9, mSet_9, mGet_10, mSet_10, mGet_11, mSet_11, mGet_12, mSet_12, mGet_13, mSet_13]
  have o9 : ∀ a : Int, a ≠ n + 2359 → a ≠ n + 2360 → a ≠ n + 2361 → a ≠ n + 2362 → a ≠ n + 2363 → a ≠ n + 2364 → (a < n + 4 ∨ n + 110 ≤ a) → I9 a = I7 a := fun a a0 a1 a2 a3 a4 a5 a6 => (f9 a a0 (by omega) (by omega) (by omega) (by omega) (by omega)).trans (o7 a a0 (by omega))
  have z9 : ∀ a : Int, n < a → a < n + 2369 → (a < n + 2357 ∨ n + 2365 ≤ a) → (a < n + 4 ∨ n + 110 ≤ a) → I9 a = (fun _ => 0) := fun a a0 a1 a2 a3 => (o9 a (by omega) (by omega) (by omega) (by omega) (by omega) (by omega) a3).trans (zz a a0 a1 (by omega))
  have n9 : I9 n = zU (fun _ => 0) 1 1 := (o9 n (by omega) (by omega) (by omega) (by omega) (by omega) (by omega) (by omega)).trans gn
  obtain ⟨v0, v1, v2, v3, v4, v5⟩ := gSt_v
  refine kk T7 I9 (fun a ha => ⟨(o9 a (by omega) (by omega) (by omega) (by omega) (by omega) (by omega) (by omega)).trans (gl a ha), lo a ha⟩) hT7 ?_ ⟨fun _ j => j, ⟨hX, ?_, fun k k0 k1 => ?_, fun k j k0 k1 j0 j1 => ?_, fun k j k0 k1 j0 j1 => ?_, ?_, ?_, fun v _ _ => ?_, ⟨?_, ?_, fun i i0 i1 => ?_⟩, ⟨fun j j0 j1 => ?_, ?_⟩, ?_, fun i i0 i1 => ?_⟩, ?_⟩
  · exact sl
  · rw [n9, v0, v1]; exact ⟨rfl, rfl⟩
  · rw [z9 _ (by omega) (by omega) (by omega) (by omega), (gSt_b k k0).1, (gSt_b k k0).2]; exact ⟨rfl, rfl⟩
  · by_cases e : k = 0 ∧ j = 0
    · obtain ⟨rfl, rfl⟩ := e
      exact y3
    · exact yOk_0 (fun a a0 a1 => z9 a (by omega) (by omega) (by omega) (by omega))
  · rw [v0] at k1
    rw [(gSt_b k k0).2] at j1
    obtain rfl : k = 0 := by omega
    obtain rfl : j = 0 := by omega
    rw [gSt_0]
    exact y2
  · exact yOk_0 (fun a a0 a1 => z9 a (by omega) (by omega) (by omega) (by omega))
  · unfold nOldQ
    rw [z9 (n + 2341) (by omega) (by omega) (by omega) (by omega), z9 (n + 2341 + 10) (by omega) (by omega) (by omega) (by omega), z9 (n + 2341 + 11) (by omega) (by omega) (by omega) (by omega)]
    exact ⟨by decide, fun i i0 i1 => by have i1 : i < 0 := i1; omega, fun v _ _ h => absurd rfl h⟩
  · rw [z9 _ (by omega) (by omega) (by omega) (by omega)]; rfl
  · rw [i9, v2]
  · rw [y1, v3]
  · rw [v2] at i1; omega
  · have := hb9 j j0 j1
    rw [show n + 2364 = n + 2359 + 5 by omega]; exact this
  · rw [o9 (n + 2357) (by omega) (by omega) (by omega) (by omega) (by omega) (by omega) (by omega), o9 (n + 2358) (by omega) (by omega) (by omega) (by omega) (by omega) (by omega) (by omega)]; exact gZg
  · rw [z9 _ (by omega) (by omega) (by omega) (by omega), v4]
  · rw [v4] at i1; omega
  · rw [n9]
    unfold gCh
    rw [if_pos v5]
    rfl
theorem k_RS (hn : S.2.2.2.1 = n) (n0 : 0 ≤ n) (kk : ∀ (S' : mH) (I' : mN), (∀ a : Int, a < n → I' a = I a ∧ S'.1 a = S.1 a ∧ S'.2.1 a = S.2.1 a ∧ S'.2.2.1 a = S.2.2.1 a) → S'.2.2.2.1 = n + 2369 → S'.2.2.2.2 ≤ S.2.2.2.2 + 100000 → xR S' I' n gSt → Q (.inl none) I' S') : mRun (D + 50) 114 [mR n] (mNewN I S) (mNewH S 11 11) Q := by
  refine k_RSa D hn n0 (fun T7 I7 h => ?_)
  exact k_RSc D n0 (k_RSb h) kk
end KS2
