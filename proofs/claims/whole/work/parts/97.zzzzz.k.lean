/-! Constructors: what a new cell and a new object add to the heap. -/
def kNew (S : mH) (I : mN) (S' : mH) (I' : mN) (n f N k : Int) : Prop := (S'.2.2.2.1 = S.2.2.2.1 + 1 ∧ S'.2.2.2.2 = S.2.2.2.2 + N) ∧ (S'.1 n f = S.2.2.2.1 ∧ ∀ g : Int, g ≠ f → S'.1 n g = S.1 n g) ∧ (∀ a : Int, a ≠ n → a ≠ S.2.2.2.1 → S'.1 a = S.1 a) ∧ (∀ a : Int, a ≠ S.2.2.2.1 → S'.2.1 a = S.2.1 a ∧ S'.2.2.1 a = S.2.2.1 a) ∧ (S'.2.1 S.2.2.2.1 = k ∧ S'.2.2.1 S.2.2.2.1 = N) ∧ I' S.2.2.2.1 = (fun _ => 0) ∧ ∀ a : Int, a ≠ S.2.2.2.1 → I' a = I a
theorem k_na {call : mK} {m nx : Nat} {X : Nat → mC → Prop} {Q : mQ} {q1 q2 q3 q4 : mJ} {is : List mJ} {ls : mM} {I : mN} {S : mH} (n f N k K : Int)
    (e1 : ∀ (st : List mV) (I : mN) (S : mH), mDo q1 (ls, st, I, S) = eGo True (ls, mR n :: st, I, S)) (e2 : ∀ (st : List mV) (I : mN) (S : mH), mDo q2 (ls, st, I, S) = eGo True (ls, mI N :: st, I, S))
    (e3 : ∀ (st : List mV) (I : mN) (S : mH), mDo q3 (ls, mI N :: st, I, S) = eGo (0 ≤ N ∧ N ≤ 100000) (ls, mR S.2.2.2.1 :: st, mNewN I S, mNewH S k N))
    (e4 : ∀ (v : Int) (st : List mV) (I : mN) (S : mH), mDo q4 (ls, mR v :: mR n :: st, I, S) = eGo (S.2.1 n = K ∧ (1 : Nat) = 1) (ls, st, I, mUp S.1 n f v, S.2))
    (hK : S.2.1 n = K) (hn : n < S.2.2.2.1) (hN : 0 ≤ N ∧ N ≤ 100000) (h : ∀ (S' : mH) (I' : mN), kNew S I S' I' n f N k → mWp call m nx X Q is (ls, [], I', S')) : mWp call m nx X Q (q1 :: q2 :: q3 :: q4 :: is) (ls, [], I, S) := by
  show mAct call m q1.1 X Q _ (mDo q1 (ls, [], I, S))
  rw [e1]
  refine ⟨trivial, ?_⟩
  show mAct call m q2.1 X Q _ (mDo q2 (ls, [mR n], I, S))
  rw [e2]
  refine ⟨trivial, ?_⟩
  show mAct call m q3.1 X Q _ (mDo q3 (ls, mI N :: [mR n], I, S))
  rw [e3]
  refine ⟨hN, ?_⟩
  show mAct call m q4.1 X Q _ (mDo q4 (ls, mR S.2.2.2.1 :: mR n :: [], mNewN I S, mNewH S k N))
  rw [e4]
  refine ⟨⟨(uk_ne (by omega)).trans hK, rfl⟩, h _ _ ⟨⟨rfl, rfl⟩, ⟨up_eq rfl rfl, fun g hg => (up_nk hg).trans ?_⟩, fun a a0 a1 => (up_fa a0).trans (ua_ne a1), fun a ha => ⟨uk_ne ha, uk_ne ha⟩, ⟨uk_eq rfl, uk_eq rfl⟩, ua_eq rfl, fun a ha => ua_ne ha⟩⟩
  rw [show (mNewH S k N).1 n = S.1 n from ua_ne (by omega)]
theorem k_ob {call : mK} {m nx : Nat} {X : Nat → mC → Prop} {Q : mQ} {q1 q2 : mJ} {is : List mJ} {ls : mM} {I : mN} {S : mH} (n : Int)
    (e1 : ∀ (st : List mV) (I : mN) (S : mH), mDo q1 (ls, st, I, S) = eGo True (ls, mR n :: st, I, S)) (e2 : ∀ (I : mN) (S : mH), mDo q2 (ls, [mR n], I, S) = eGo (mCs ([] : List mV) ≤ 8 ∧ 0 ≤ n) (ls, [], I, S)) (hn : 0 ≤ n) (h : mWp call m nx X Q is (ls, [], I, S)) : mWp call m nx X Q (q1 :: q2 :: is) (ls, [], I, S) := by
  show mAct call m q1.1 X Q _ (mDo q1 (ls, [], I, S))
  rw [e1]
  refine ⟨trivial, ?_⟩
  show mAct call m q2.1 X Q _ (mDo q2 (ls, [mR n], I, S))
  rw [e2]
  exact ⟨⟨by decide, hn⟩, h⟩
theorem k_pi {call : mK} {m nx : Nat} {X : Nat → mC → Prop} {Q : mQ} {q1 q2 q3 : mJ} {is : List mJ} {ls : mM} {I : mN} {S : mH} (n f v K : Int)
    (e1 : ∀ (st : List mV) (I : mN) (S : mH), mDo q1 (ls, st, I, S) = eGo True (ls, mR n :: st, I, S)) (e2 : ∀ (st : List mV) (I : mN) (S : mH), mDo q2 (ls, st, I, S) = eGo True (ls, mI v :: st, I, S))
    (e3 : ∀ (st : List mV) (I : mN) (S : mH), mDo q3 (ls, mI v :: mR n :: st, I, S) = eGo (S.2.1 n = K ∧ ((0 : Nat) = 0 ∨ ((0 : Nat) = 2 ∧ 0 ≤ v ∧ v ≤ 1))) (ls, st, mUp I n f v, S))
    (hK : S.2.1 n = K) (h : mWp call m nx X Q is (ls, [], mUp I n f v, S)) : mWp call m nx X Q (q1 :: q2 :: q3 :: is) (ls, [], I, S) := by
  show mAct call m q1.1 X Q _ (mDo q1 (ls, [], I, S))
  rw [e1]
  refine ⟨trivial, ?_⟩
  show mAct call m q2.1 X Q _ (mDo q2 (ls, [mR n], I, S))
  rw [e2]
  refine ⟨trivial, ?_⟩
  show mAct call m q3.1 X Q _ (mDo q3 (ls, mI v :: mR n :: [], I, S))
  rw [e3]
  exact ⟨⟨hK, Or.inl rfl⟩, h⟩
/-- an object with its rows, as far as they are made -/
def kS (T : List (Int × Int × Int × Int)) (K n : Int) (j : Nat) (S0 : mH) (I0 : mN) (S : mH) (I : mN) : Prop := S.2.1 n = K ∧ S.2.2.2.1 = n + 1 + (j : Int) ∧ (∀ q ∈ T.take j, (1 ≤ q.2.1 ∧ q.2.1 ≤ (j : Int)) ∧ S.1 n q.1 = n + q.2.1 ∧ yA S (n + q.2.1) q.2.2.1 q.2.2.2) ∧ (∀ a : Int, a < n → I a = I0 a ∧ S.1 a = S0.1 a ∧ S.2.1 a = S0.2.1 a ∧ S.2.2.1 a = S0.2.2.1 a) ∧ ∀ a : Int, n < a → a < n + 1 + (j : Int) → I a = (fun _ => 0)
section KS
variable {T : List (Int × Int × Int × Int)} {K n : Int} {j : Nat} {S0 S S' : mH} {I0 I I' : mN}
theorem kS_0 (hk : S.2.1 n = K) (hn : S.2.2.2.1 = n + 1) : kS T K n 0 S I S I := ⟨hk, by omega, fun q hq => (by rw [List.take_zero] at hq; cases hq), fun _ _ => ⟨rfl, rfl, rfl, rfl⟩, fun a a0 a1 => by omega⟩
theorem kS_s {f N k : Int} (h : kS T K n j S0 I0 S I) (hs : kNew S I S' I' n f N k) (hT : T[j]? = some (f, (j : Int) + 1, k, N)) (hd : ∀ q ∈ T.take j, q.1 ≠ f) : kS T K n (j + 1) S0 I0 S' I' := by
  obtain ⟨h1, h2, h3, h4, h5⟩ := h
  obtain ⟨⟨s1, -⟩, ⟨s3, s4⟩, s5, s6, ⟨s7, s8⟩, s9, s10⟩ := hs
  refine ⟨(s6 n (by omega)).1.trans h1, by omega, fun q hq => ?_, fun a ha => ?_, fun a a0 a1 => ?_⟩
  · rw [List.take_add_one, hT] at hq
    rcases List.mem_append.mp hq with hq | hq
    · obtain ⟨b, c, d, e⟩ := h3 q hq
      refine ⟨⟨b.1, by omega⟩, (s4 q.1 (hd q hq)).trans c, (s6 _ (by omega)).1.trans d, (s6 _ (by omega)).2.trans e⟩
    · have hq : q = (f, (j : Int) + 1, k, N) := List.mem_singleton.mp hq
      subst hq
      have e9 : n + ((j : Int) + 1) = S.2.2.2.1 := by omega
      dsimp only
      refine ⟨⟨by omega, by omega⟩, by rw [s3, e9], ?_, ?_⟩
      · rw [e9]; exact s7
      · rw [e9]; exact s8
  · obtain ⟨b, c, d, e⟩ := h4 a ha
    exact ⟨(s10 a (by omega)).trans b, (s5 a (by omega) (by omega)).trans c, (s6 a (by omega)).1.trans d, (s6 a (by omega)).2.trans e⟩
  · by_cases e : a = S.2.2.2.1
    · rw [e]; exact s9
    · rw [s10 a e]; exact h5 a a0 (by omega)
theorem kS_i {f v : Int} (h : kS T K n j S0 I0 S I) : kS T K n j S0 I0 S (mUp I n f v) := by
  obtain ⟨h1, h2, h3, h4, h5⟩ := h
  exact ⟨h1, h2, h3, fun a ha => by rw [up_fa (by omega)]; exact h4 a ha, fun a a0 a1 => by rw [up_fa (by omega)]; exact h5 a a0 a1⟩
end KS
/-- a new object with all that belongs to it: w cells, c places -/
def kCo (q w c : Int) (S : mH) (I : mN) (S' : mH) (I' : mN) : Prop := (∀ a : Int, a < q → I' a = I a ∧ S'.1 a = S.1 a ∧ S'.2.1 a = S.2.1 a ∧ S'.2.2.1 a = S.2.2.1 a) ∧ (∀ a : Int, q < a → a < q + w → I' a = (fun _ => 0)) ∧ S'.2.2.2.1 = q + w ∧ S'.2.2.2.2 = S.2.2.2.2 + c
theorem kC_S {T : List (Int × Int × Int × Int)} {K n c s w : Int} {j : Nat} {S S' : mH} {I I' : mN} (hn : S.2.2.2.1 = n) (h : kS T K n j (mNewH S K c) (mNewN I S) S' I') (hs : S'.2.2.2.2 = S.2.2.2.2 + s) (hw : (j : Int) + 1 = w) : kCo n w s S I S' I' := by
  obtain ⟨h1, h2, h3, h4, h5⟩ := h
  refine ⟨fun a ha => ?_, fun a a0 a1 => h5 a a0 (by omega), by omega, hs⟩
  obtain ⟨b, d, e, f⟩ := h4 a ha
  exact ⟨b.trans (ua_ne (by omega)), d.trans (ua_ne (by omega)), e.trans (uk_ne (by omega)), f.trans (uk_ne (by omega))⟩
/-! Rows of places, reaches, rights. -/
section KO
variable {S : mH} {I : mN} {Q : mQ} {n : Int} (D : Nat)
theorem k_Pl (hn : S.2.2.2.1 = n) (n0 : 0 ≤ n) (kk : ∀ (S' : mH) (I' : mN), kCo n 4 45 S I S' I' ∧ I' n = (fun _ => 0) ∧ yPl S' n → Q (.inl none) I' S') : mRun (D + 1) 58 [mR n] (mNewN I S) (mNewH S 5 4) Q := by
  have hK : (mNewH S 5 4).2.1 n = 5 := uk_eq hn.symm
  have t0 : kS [(1, 1, 50, 9), (2, 2, 50, 8), (3, 3, 50, 24)] 5 n 0 (mNewH S 5 4) (mNewN I S) (mNewH S 5 4) (mNewN I S) := kS_0 hK (by show S.2.2.2.1 + 1 = n + 1; omega)
  have i0 : (mNewN I S) n = (fun _ => 0) := ua_eq hn.symm
  have c0 : (mNewH S 5 4).2.2.2.2 = S.2.2.2.2 + 4 := rfl
  generalize hS0 : mNewH S 5 4 = S0 at hK t0 c0 ⊢
  generalize hI0 : mNewN I S = I0 at t0 i0 ⊢
  simp (disch := first | omega | exact Nat.le_of_ble_eq_true rfl) only [e_Pl_init, a_Pl_init_0]
  unfold bk_Pl_init_0
  refine k_ob n (fun _ _ _ => rfl) (fun _ _ => rfl) n0 ?_
  refine k_na n 1 9 50 5 (fun _ _ _ => rfl) (fun _ _ _ => rfl) (fun _ _ _ => rfl) (fun _ _ _ _ => rfl) t0.1 (by have := t0.2.1; omega) (by decide) (fun S1 I1 h1 => ?_)
  have t1 := kS_s t0 h1 rfl (by decide)
  have i1 : I1 n = (fun _ => 0) := (h1.2.2.2.2.2.2 n (by have := t0.2.1; omega)).trans i0
  have c1 : S1.2.2.2.2 = S.2.2.2.2 + 13 := by have := h1.1.2; omega
  refine k_na n 2 8 50 5 (fun _ _ _ => rfl) (fun _ _ _ => rfl) (fun _ _ _ => rfl) (fun _ _ _ _ => rfl) t1.1 (by have := t1.2.1; omega) (by decide) (fun S2 I2 h2 => ?_)
  have t2 := kS_s t1 h2 rfl (by decide)
  have i2 : I2 n = (fun _ => 0) := (h2.2.2.2.2.2.2 n (by have := t1.2.1; omega)).trans i1
  have c2 : S2.2.2.2.2 = S.2.2.2.2 + 21 := by have := h2.1.2; omega
  refine k_na n 3 24 50 5 (fun _ _ _ => rfl) (fun _ _ _ => rfl) (fun _ _ _ => rfl) (fun _ _ _ _ => rfl) t2.1 (by have := t2.2.1; omega) (by decide) (fun S3 I3 h3 => ?_)
  have t3 := kS_s t2 h3 rfl (by decide)
  have i3 : I3 n = (fun _ => 0) := (h3.2.2.2.2.2.2 n (by have := t2.2.1; omega)).trans i2
  have c3 : S3.2.2.2.2 = S.2.2.2.2 + 45 := by have := h3.1.2; omega
  rw [← hS0, ← hI0] at t3
  have hc := kC_S (w := 4) hn t3 c3 (by decide)
  refine ⟨trivial, kk _ _ ⟨hc, i3, ?_⟩⟩
  have q := t3.2.2.1
  have q1 := (q (1, 1, 50, 9) (List.mem_of_getElem? (i := 0) rfl)).2
  have q2 := (q (2, 2, 50, 8) (List.mem_of_getElem? (i := 1) rfl)).2
  have q3 := (q (3, 3, 50, 24) (List.mem_of_getElem? (i := 2) rfl)).2
  exact ⟨t3.1, ⟨q1.1, q2.1, q3.1⟩, q1.2, q2.2, q3.2⟩
theorem k_Re (hn : S.2.2.2.1 = n) (n0 : 0 ≤ n) (kk : ∀ (S' : mH) (I' : mN), kCo n 3 21 S I S' I' ∧ I' n = (fun _ => 0) ∧ yRe S' n → Q (.inl none) I' S') : mRun (D + 1) 61 [mR n] (mNewN I S) (mNewH S 6 5) Q := by
  have hK : (mNewH S 6 5).2.1 n = 6 := uk_eq hn.symm
  have t0 : kS [(3, 1, 50, 8), (4, 2, 50, 8)] 6 n 0 (mNewH S 6 5) (mNewN I S) (mNewH S 6 5) (mNewN I S) := kS_0 hK (by show S.2.2.2.1 + 1 = n + 1; omega)
  have i0 : (mNewN I S) n = (fun _ => 0) := ua_eq hn.symm
  have c0 : (mNewH S 6 5).2.2.2.2 = S.2.2.2.2 + 5 := rfl
  generalize hS0 : mNewH S 6 5 = S0 at hK t0 c0 ⊢
  generalize hI0 : mNewN I S = I0 at t0 i0 ⊢
  simp (disch := first | omega | exact Nat.le_of_ble_eq_true rfl) only [e_Re_init, a_Re_init_0]
  unfold bk_Re_init_0
  refine k_ob n (fun _ _ _ => rfl) (fun _ _ => rfl) n0 ?_
  refine k_na n 3 8 50 6 (fun _ _ _ => rfl) (fun _ _ _ => rfl) (fun _ _ _ => rfl) (fun _ _ _ _ => rfl) t0.1 (by have := t0.2.1; omega) (by decide) (fun S1 I1 h1 => ?_)
  have t1 := kS_s t0 h1 rfl (by decide)
  have i1 : I1 n = (fun _ => 0) := (h1.2.2.2.2.2.2 n (by have := t0.2.1; omega)).trans i0
  have c1 : S1.2.2.2.2 = S.2.2.2.2 + 13 := by have := h1.1.2; omega
  refine k_na n 4 8 50 6 (fun _ _ _ => rfl) (fun _ _ _ => rfl) (fun _ _ _ => rfl) (fun _ _ _ _ => rfl) t1.1 (by have := t1.2.1; omega) (by decide) (fun S2 I2 h2 => ?_)
  have t2 := kS_s t1 h2 rfl (by decide)
  have i2 : I2 n = (fun _ => 0) := (h2.2.2.2.2.2.2 n (by have := t1.2.1; omega)).trans i1
  have c2 : S2.2.2.2.2 = S.2.2.2.2 + 21 := by have := h2.1.2; omega
  rw [← hS0, ← hI0] at t2
  have hc := kC_S (w := 3) hn t2 c2 (by decide)
  refine ⟨trivial, kk _ _ ⟨hc, i2, ?_⟩⟩
  have q := t2.2.2.1
  have q1 := (q (3, 1, 50, 8) (List.mem_of_getElem? (i := 0) rfl)).2
  have q2 := (q (4, 2, 50, 8) (List.mem_of_getElem? (i := 1) rfl)).2
  exact ⟨t2.1, ⟨q1.1, q2.1⟩, q1.2, q2.2⟩
theorem k_Ri (hn : S.2.2.2.1 = n) (n0 : 0 ≤ n) (kk : ∀ (S' : mH) (I' : mN), kCo n 5 112 S I S' I' ∧ I' n = (fun _ => 0) ∧ yRi S' n → Q (.inl none) I' S') : mRun (D + 1) 94 [mR n] (mNewN I S) (mNewH S 8 12) Q := by
  have hK : (mNewH S 8 12).2.1 n = 8 := uk_eq hn.symm
  have t0 : kS [(7, 1, 50, 8), (8, 2, 50, 8), (9, 3, 50, 24), (10, 4, 50, 60)] 8 n 0 (mNewH S 8 12) (mNewN I S) (mNewH S 8 12) (mNewN I S) := kS_0 hK (by show S.2.2.2.1 + 1 = n + 1; omega)
  have i0 : (mNewN I S) n = (fun _ => 0) := ua_eq hn.symm
  have c0 : (mNewH S 8 12).2.2.2.2 = S.2.2.2.2 + 12 := rfl
  generalize hS0 : mNewH S 8 12 = S0 at hK t0 c0 ⊢
  generalize hI0 : mNewN I S = I0 at t0 i0 ⊢
  simp (disch := first | omega | exact Nat.le_of_ble_eq_true rfl) only [e_Ri_init, a_Ri_init_0]
  unfold bk_Ri_init_0
  refine k_ob n (fun _ _ _ => rfl) (fun _ _ => rfl) n0 ?_
  refine k_na n 7 8 50 8 (fun _ _ _ => rfl) (fun _ _ _ => rfl) (fun _ _ _ => rfl) (fun _ _ _ _ => rfl) t0.1 (by have := t0.2.1; omega) (by decide) (fun S1 I1 h1 => ?_)
  have t1 := kS_s t0 h1 rfl (by decide)
  have i1 : I1 n = (fun _ => 0) := (h1.2.2.2.2.2.2 n (by have := t0.2.1; omega)).trans i0
  have c1 : S1.2.2.2.2 = S.2.2.2.2 + 20 := by have := h1.1.2; omega
  refine k_na n 8 8 50 8 (fun _ _ _ => rfl) (fun _ _ _ => rfl) (fun _ _ _ => rfl) (fun _ _ _ _ => rfl) t1.1 (by have := t1.2.1; omega) (by decide) (fun S2 I2 h2 => ?_)
  have t2 := kS_s t1 h2 rfl (by decide)
  have i2 : I2 n = (fun _ => 0) := (h2.2.2.2.2.2.2 n (by have := t1.2.1; omega)).trans i1
  have c2 : S2.2.2.2.2 = S.2.2.2.2 + 28 := by have := h2.1.2; omega
  refine k_na n 9 24 50 8 (fun _ _ _ => rfl) (fun _ _ _ => rfl) (fun _ _ _ => rfl) (fun _ _ _ _ => rfl) t2.1 (by have := t2.2.1; omega) (by decide) (fun S3 I3 h3 => ?_)
  have t3 := kS_s t2 h3 rfl (by decide)
  have i3 : I3 n = (fun _ => 0) := (h3.2.2.2.2.2.2 n (by have := t2.2.1; omega)).trans i2
  have c3 : S3.2.2.2.2 = S.2.2.2.2 + 52 := by have := h3.1.2; omega
  refine k_na n 10 60 50 8 (fun _ _ _ => rfl) (fun _ _ _ => rfl) (fun _ _ _ => rfl) (fun _ _ _ _ => rfl) t3.1 (by have := t3.2.1; omega) (by decide) (fun S4 I4 h4 => ?_)
  have t4 := kS_s t3 h4 rfl (by decide)
  have i4 : I4 n = (fun _ => 0) := (h4.2.2.2.2.2.2 n (by have := t3.2.1; omega)).trans i3
  have c4 : S4.2.2.2.2 = S.2.2.2.2 + 112 := by have := h4.1.2; omega
  rw [← hS0, ← hI0] at t4
  have hc := kC_S (w := 5) hn t4 c4 (by decide)
  refine ⟨trivial, kk _ _ ⟨hc, i4, ?_⟩⟩
  have q := t4.2.2.1
  have q1 := (q (7, 1, 50, 8) (List.mem_of_getElem? (i := 0) rfl)).2
  have q2 := (q (8, 2, 50, 8) (List.mem_of_getElem? (i := 1) rfl)).2
  have q3 := (q (9, 3, 50, 24) (List.mem_of_getElem? (i := 2) rfl)).2
  have q4 := (q (10, 4, 50, 60) (List.mem_of_getElem? (i := 3) rfl)).2
  exact ⟨t4.1, ⟨q1.1, q2.1, q3.1, q4.1⟩, q1.2, q2.2, q3.2, q4.2⟩
theorem yNt_0 : ∀ q ∈ yNt, q.1 ≠ 0 := by decide
theorem k_Ne {e : Int} (hn : S.2.2.2.1 = n) (n0 : 0 ≤ n) (he : S.2.1 e = 3) (hen : e < n) (kk : ∀ (S' : mH) (I' : mN), kCo n 15 768 S I S' I' ∧ I' n = (fun _ => 0) ∧ yNe S' n e → Q (.inl none) I' S') : mRun (D + 1) 36 [mR n, mR e] (mNewN I S) (mNewH S 4 17) Q := by
  have hK : (mNewH S 4 17).2.1 n = 4 := uk_eq hn.symm
  have t0 : kS yNt 4 n 0 (mNewH S 4 17) (mNewN I S) (mNewH S 4 17) (mNewN I S) := kS_0 hK (by show S.2.2.2.1 + 1 = n + 1; omega)
  have i0 : (mNewN I S) n = (fun _ => 0) := ua_eq hn.symm
  have c0 : (mNewH S 4 17).2.2.2.2 = S.2.2.2.2 + 17 := rfl
  generalize hS0 : mNewH S 4 17 = S0 at hK t0 c0 ⊢
  generalize hI0 : mNewN I S = I0 at t0 i0 ⊢
  simp (disch := first | omega | exact Nat.le_of_ble_eq_true rfl) only [e_Ne_init, a_Ne_init_0]
  unfold bk_Ne_init_0
  refine k_ob n (fun _ _ _ => rfl) (fun _ _ => rfl) n0 ?_
  refine k_na n 2 15 50 4 (fun _ _ _ => rfl) (fun _ _ _ => rfl) (fun _ _ _ => rfl) (fun _ _ _ _ => rfl) t0.1 (by have := t0.2.1; omega) (by decide) (fun S1 I1 h1 => ?_)
  have t1 := kS_s t0 h1 rfl (by decide)
  have i1 : I1 n = (fun _ => 0) := (h1.2.2.2.2.2.2 n (by have := t0.2.1; omega)).trans i0
  have c1 : S1.2.2.2.2 = S.2.2.2.2 + 32 := by have := h1.1.2; omega
  refine k_na n 3 15 50 4 (fun _ _ _ => rfl) (fun _ _ _ => rfl) (fun _ _ _ => rfl) (fun _ _ _ _ => rfl) t1.1 (by have := t1.2.1; omega) (by decide) (fun S2 I2 h2 => ?_)
  have t2 := kS_s t1 h2 rfl (by decide)
  have i2 : I2 n = (fun _ => 0) := (h2.2.2.2.2.2.2 n (by have := t1.2.1; omega)).trans i1
  have c2 : S2.2.2.2.2 = S.2.2.2.2 + 47 := by have := h2.1.2; omega
  refine k_na n 4 15 50 4 (fun _ _ _ => rfl) (fun _ _ _ => rfl) (fun _ _ _ => rfl) (fun _ _ _ _ => rfl) t2.1 (by have := t2.2.1; omega) (by decide) (fun S3 I3 h3 => ?_)
  have t3 := kS_s t2 h3 rfl (by decide)
  have i3 : I3 n = (fun _ => 0) := (h3.2.2.2.2.2.2 n (by have := t2.2.1; omega)).trans i2
  have c3 : S3.2.2.2.2 = S.2.2.2.2 + 62 := by have := h3.1.2; omega
  refine k_na n 5 120 50 4 (fun _ _ _ => rfl) (fun _ _ _ => rfl) (fun _ _ _ => rfl) (fun _ _ _ _ => rfl) t3.1 (by have := t3.2.1; omega) (by decide) (fun S4 I4 h4 => ?_)
  have t4 := kS_s t3 h4 rfl (by decide)
  have i4 : I4 n = (fun _ => 0) := (h4.2.2.2.2.2.2 n (by have := t3.2.1; omega)).trans i3
  have c4 : S4.2.2.2.2 = S.2.2.2.2 + 182 := by have := h4.1.2; omega
  refine k_na n 6 120 50 4 (fun _ _ _ => rfl) (fun _ _ _ => rfl) (fun _ _ _ => rfl) (fun _ _ _ _ => rfl) t4.1 (by have := t4.2.1; omega) (by decide) (fun S5 I5 h5 => ?_)
  have t5 := kS_s t4 h5 rfl (by decide)
  have i5 : I5 n = (fun _ => 0) := (h5.2.2.2.2.2.2 n (by have := t4.2.1; omega)).trans i4
  have c5 : S5.2.2.2.2 = S.2.2.2.2 + 302 := by have := h5.1.2; omega
  refine k_na n 7 120 51 4 (fun _ _ _ => rfl) (fun _ _ _ => rfl) (fun _ _ _ => rfl) (fun _ _ _ _ => rfl) t5.1 (by have := t5.2.1; omega) (by decide) (fun S6 I6 h6 => ?_)
  have t6 := kS_s t5 h6 rfl (by decide)
  have i6 : I6 n = (fun _ => 0) := (h6.2.2.2.2.2.2 n (by have := t5.2.1; omega)).trans i5
  have c6 : S6.2.2.2.2 = S.2.2.2.2 + 422 := by have := h6.1.2; omega
  refine k_na n 8 48 50 4 (fun _ _ _ => rfl) (fun _ _ _ => rfl) (fun _ _ _ => rfl) (fun _ _ _ _ => rfl) t6.1 (by have := t6.2.1; omega) (by decide) (fun S7 I7 h7 => ?_)
  have t7 := kS_s t6 h7 rfl (by decide)
  have i7 : I7 n = (fun _ => 0) := (h7.2.2.2.2.2.2 n (by have := t6.2.1; omega)).trans i6
  have c7 : S7.2.2.2.2 = S.2.2.2.2 + 470 := by have := h7.1.2; omega
  refine k_na n 9 48 50 4 (fun _ _ _ => rfl) (fun _ _ _ => rfl) (fun _ _ _ => rfl) (fun _ _ _ _ => rfl) t7.1 (by have := t7.2.1; omega) (by decide) (fun S8 I8 h8 => ?_)
  have t8 := kS_s t7 h8 rfl (by decide)
  have i8 : I8 n = (fun _ => 0) := (h8.2.2.2.2.2.2 n (by have := t7.2.1; omega)).trans i7
  have c8 : S8.2.2.2.2 = S.2.2.2.2 + 518 := by have := h8.1.2; omega
  refine k_na n 10 48 51 4 (fun _ _ _ => rfl) (fun _ _ _ => rfl) (fun _ _ _ => rfl) (fun _ _ _ _ => rfl) t8.1 (by have := t8.2.1; omega) (by decide) (fun S9 I9 h9 => ?_)
  have t9 := kS_s t8 h9 rfl (by decide)
  have i9 : I9 n = (fun _ => 0) := (h9.2.2.2.2.2.2 n (by have := t8.2.1; omega)).trans i8
  have c9 : S9.2.2.2.2 = S.2.2.2.2 + 566 := by have := h9.1.2; omega
  refine k_na n 11 48 51 4 (fun _ _ _ => rfl) (fun _ _ _ => rfl) (fun _ _ _ => rfl) (fun _ _ _ _ => rfl) t9.1 (by have := t9.2.1; omega) (by decide) (fun S10 I10 h10 => ?_)
  have t10 := kS_s t9 h10 rfl (by decide)
  have i10 : I10 n = (fun _ => 0) := (h10.2.2.2.2.2.2 n (by have := t9.2.1; omega)).trans i9
  have c10 : S10.2.2.2.2 = S.2.2.2.2 + 614 := by have := h10.1.2; omega
  refine k_na n 12 48 50 4 (fun _ _ _ => rfl) (fun _ _ _ => rfl) (fun _ _ _ => rfl) (fun _ _ _ _ => rfl) t10.1 (by have := t10.2.1; omega) (by decide) (fun S11 I11 h11 => ?_)
  have t11 := kS_s t10 h11 rfl (by decide)
  have i11 : I11 n = (fun _ => 0) := (h11.2.2.2.2.2.2 n (by have := t10.2.1; omega)).trans i10
  have c11 : S11.2.2.2.2 = S.2.2.2.2 + 662 := by have := h11.1.2; omega
  refine k_na n 14 48 50 4 (fun _ _ _ => rfl) (fun _ _ _ => rfl) (fun _ _ _ => rfl) (fun _ _ _ _ => rfl) t11.1 (by have := t11.2.1; omega) (by decide) (fun S12 I12 h12 => ?_)
  have t12 := kS_s t11 h12 rfl (by decide)
  have i12 : I12 n = (fun _ => 0) := (h12.2.2.2.2.2.2 n (by have := t11.2.1; omega)).trans i11
  have c12 : S12.2.2.2.2 = S.2.2.2.2 + 710 := by have := h12.1.2; omega
  refine k_na n 15 48 50 4 (fun _ _ _ => rfl) (fun _ _ _ => rfl) (fun _ _ _ => rfl) (fun _ _ _ _ => rfl) t12.1 (by have := t12.2.1; omega) (by decide) (fun S13 I13 h13 => ?_)
  have t13 := kS_s t12 h13 rfl (by decide)
  have i13 : I13 n = (fun _ => 0) := (h13.2.2.2.2.2.2 n (by have := t12.2.1; omega)).trans i12
  have c13 : S13.2.2.2.2 = S.2.2.2.2 + 758 := by have := h13.1.2; omega
  refine k_na n 16 10 50 4 (fun _ _ _ => rfl) (fun _ _ _ => rfl) (fun _ _ _ => rfl) (fun _ _ _ _ => rfl) t13.1 (by have := t13.2.1; omega) (by decide) (fun S14 I14 h14 => ?_)
  have t14 := kS_s t13 h14 rfl (by decide)
  have i14 : I14 n = (fun _ => 0) := (h14.2.2.2.2.2.2 n (by have := t13.2.1; omega)).trans i13
  have c14 : S14.2.2.2.2 = S.2.2.2.2 + 768 := by have := h14.1.2; omega
  rw [← hS0, ← hI0] at t14
  have hc := kC_S (w := 15) hn t14 c14 (by decide)
  have he9 : S14.2.1 e = 3 := (hc.1 e hen).2.2.1.trans he
  have hK9 := t14.1
  simp (disch := first | omega | exact Nat.le_of_ble_eq_true rfl | (simp (disch := omega) only [hK9] <;> omega)) only [w_iconst, w_bipush, w_sipush, w_ldc_s, w_ldcw_s, w_ldc_i, w_ldcw_i, w_lconst, w_fconst, w_dconst, w_iload, w_iload_n, w_aload, w_aload_n, w_dload, w_istore, w_istore_n, w_astore_r, w_astore_s, w_astore_n_r, w_astore_n_s, w_dstore, w_iinc, w_iadd, w_isub, w_imul, w_iand, w_iushr, v_idiv, v_irem, w_ineg, w_i2l, w_i2c, w_i2f, w_i2d, v_f2d, w_lcmp, w_dcmp, v_fdiv, v_ddiv, w_dup_i, w_dup_r, w_dup2, w_dup_x2, w_pop_i, w_pop_r, w_goto, w_switch, w_ret_i, v_ret_z, v_ret_c, w_ret_a, w_ret_s, w_ret_f, w_ret_d, w_ret_v, v_iaload, v_baload, v_caload, v_laload, v_aaload, v_iastore, v_bastore, v_castore, v_lastore, v_aastore, v_alen, v_newa, v_anewa, w_new, w_throw, w_dead, v_getf_i, v_getf_z, v_getf_r, v_putf_i, v_putf_z, v_putf_r, w_call0, w_call1, w_callv1, w_calli1, w_callt1, w_call2, w_callv2, w_calli2, w_callt2, w_call3, w_callv3, w_calli3, w_call4, w_callv4, w_calli4, w_call5, w_callv5, w_calli5, w_call6, w_callv6, w_calli6, w_call7, w_callv7, w_calli7, w_call8, w_callv8, w_calli8, c_if0_eq_t, c_if0_eq_f, c_if2_eq_t, c_if2_eq_f, c_if0_ne_t, c_if0_ne_f, c_if2_ne_t, c_if2_ne_f, c_if0_lt_t, c_if0_lt_f, c_if2_lt_t, c_if2_lt_f, c_if0_ge_t, c_if0_ge_f, c_if2_ge_t, c_if2_ge_f, c_if0_gt_t, c_if0_gt_f, c_if2_gt_t, c_if2_gt_f, c_if0_le_t, c_if0_le_f, c_if2_le_t, c_if2_le_f, w_nil, uI_s, uA_r, uA_s, uD_d, mPut_0, mCl_own, mCv_go, mCl_min, mCl_cpy, mCv_obj, mAct_len, mAct_chrc, mAft_v, mAft_n, mAft_x, mGet_0, mSet_0, mGet_1, mSet_1, mGet_2, mSet_2, mGet_3, mSet_3, mGet_4, mSet_4, mGet_5, mSet_5, mGet_6, mSet_6, mGet_7, mSet_7, mGet_8, mSet_8, mGet_9, mSet_9, mGet_10, mSet_10, mGet_11, mSet_11, mGet_12, mSet_12, mGet_13, mSet_13, hK9]
  refine kk _ _ ⟨⟨fun a ha => ⟨(hc.1 a ha).1, (up_fa (by omega)).trans (hc.1 a ha).2.1, (hc.1 a ha).2.2⟩, hc.2.1, hc.2.2.1, hc.2.2.2⟩, i14, hK9, up_eq rfl rfl, he9, fun q hq => ?_⟩
  obtain ⟨-, q1, q2⟩ := t14.2.2.1 q hq
  have qn : q.1 ≠ 0 := yNt_0 q hq
  exact ⟨(up_nk qn).trans q1, q2⟩
theorem yRt_11 : ∀ q ∈ yRt, q.1 ≠ 11 := by decide
theorem k_Rd (hn : S.2.2.2.1 = n) (n0 : 0 ≤ n) (hG : yGn S (n - 3)) (kk : ∀ (S' : mH) (I' : mN), kCo n 6 3675 S I S' I' ∧ I' n = zU (fun _ => 0) 2 (-1) ∧ yRd S' n → Q (.inl none) I' S') : mRun (D + 1) 64 [mR n, mR (n - 3)] (mNewN I S) (mNewH S 7 12) Q := by
  have hK : (mNewH S 7 12).2.1 n = 7 := uk_eq hn.symm
  have t0 : kS yRt 7 n 0 (mNewH S 7 12) (mNewN I S) (mNewH S 7 12) (mNewN I S) := kS_0 hK (by show S.2.2.2.1 + 1 = n + 1; omega)
  have i0 : (mNewN I S) n = (fun _ => 0) := ua_eq hn.symm
  have c0 : (mNewH S 7 12).2.2.2.2 = S.2.2.2.2 + 12 := rfl
  generalize hS0 : mNewH S 7 12 = S0 at hK t0 c0 ⊢
  generalize hI0 : mNewN I S = I0 at t0 i0 ⊢
  simp (disch := first | omega | exact Nat.le_of_ble_eq_true rfl) only [e_Rd_init, a_Rd_init_0]
  unfold bk_Rd_init_0
  refine k_ob n (fun _ _ _ => rfl) (fun _ _ => rfl) n0 ?_
  refine k_na n 0 900 52 7 (fun _ _ _ => rfl) (fun _ _ _ => rfl) (fun _ _ _ => rfl) (fun _ _ _ _ => rfl) t0.1 (by have := t0.2.1; omega) (by decide) (fun S1 I1 h1 => ?_)
  have t1 := kS_s t0 h1 rfl (by decide)
  have i1 : I1 n = (fun _ => 0) := (h1.2.2.2.2.2.2 n (by have := t0.2.1; omega)).trans i0
  have c1 : S1.2.2.2.2 = S.2.2.2.2 + 912 := by have := h1.1.2; omega
  refine k_pi n 2 (-1) 7 (fun _ _ _ => rfl) (fun _ _ _ => rfl) (fun _ _ _ => rfl) t1.1 ?_
  have t1_2 := kS_i (f := 2) (v := (-1)) t1
  have i1_2 : (mUp I1 n 2 (-1)) n = zU (fun _ => 0) 2 (-1) := by rw [up_zU, i1]
  generalize mUp I1 n 2 (-1) = J2 at t1_2 i1_2 ⊢
  refine k_na n 3 901 50 7 (fun _ _ _ => rfl) (fun _ _ _ => rfl) (fun _ _ _ => rfl) (fun _ _ _ _ => rfl) t1_2.1 (by have := t1_2.2.1; omega) (by decide) (fun S2 I2 h2 => ?_)
  have t2 := kS_s t1_2 h2 rfl (by decide)
  have i2 : I2 n = zU (fun _ => 0) 2 (-1) := (h2.2.2.2.2.2.2 n (by have := t1_2.2.1; omega)).trans i1_2
  have c2 : S2.2.2.2.2 = S.2.2.2.2 + 1813 := by have := h2.1.2; omega
  refine k_na n 4 901 50 7 (fun _ _ _ => rfl) (fun _ _ _ => rfl) (fun _ _ _ => rfl) (fun _ _ _ _ => rfl) t2.1 (by have := t2.2.1; omega) (by decide) (fun S3 I3 h3 => ?_)
  have t3 := kS_s t2 h3 rfl (by decide)
  have i3 : I3 n = zU (fun _ => 0) 2 (-1) := (h3.2.2.2.2.2.2 n (by have := t2.2.1; omega)).trans i2
  have c3 : S3.2.2.2.2 = S.2.2.2.2 + 2714 := by have := h3.1.2; omega
  refine k_na n 5 901 50 7 (fun _ _ _ => rfl) (fun _ _ _ => rfl) (fun _ _ _ => rfl) (fun _ _ _ _ => rfl) t3.1 (by have := t3.2.1; omega) (by decide) (fun S4 I4 h4 => ?_)
  have t4 := kS_s t3 h4 rfl (by decide)
  have i4 : I4 n = zU (fun _ => 0) 2 (-1) := (h4.2.2.2.2.2.2 n (by have := t3.2.1; omega)).trans i3
  have c4 : S4.2.2.2.2 = S.2.2.2.2 + 3615 := by have := h4.1.2; omega
  refine k_na n 9 60 50 7 (fun _ _ _ => rfl) (fun _ _ _ => rfl) (fun _ _ _ => rfl) (fun _ _ _ _ => rfl) t4.1 (by have := t4.2.1; omega) (by decide) (fun S5 I5 h5 => ?_)
  have t5 := kS_s t4 h5 rfl (by decide)
  have i5 : I5 n = zU (fun _ => 0) 2 (-1) := (h5.2.2.2.2.2.2 n (by have := t4.2.1; omega)).trans i4
  have c5 : S5.2.2.2.2 = S.2.2.2.2 + 3675 := by have := h5.1.2; omega
  rw [← hS0, ← hI0] at t5
  have hc := kC_S (w := 6) hn t5 c5 (by decide)
  have hK9 := t5.1
  simp (disch := first | omega | exact Nat.le_of_ble_eq_true rfl | (simp (disch := omega) only [hK9] <;> omega)) only [w_iconst, w_bipush, w_sipush, w_ldc_s, w_ldcw_s, w_ldc_i, w_ldcw_i, w_lconst, w_fconst, w_dconst, w_iload, w_iload_n, w_aload, w_aload_n, w_dload, w_istore, w_istore_n, w_astore_r, w_astore_s, w_astore_n_r, w_astore_n_s, w_dstore, w_iinc, w_iadd, w_isub, w_imul, w_iand, w_iushr, v_idiv, v_irem, w_ineg, w_i2l, w_i2c, w_i2f, w_i2d, v_f2d, w_lcmp, w_dcmp, v_fdiv, v_ddiv, w_dup_i, w_dup_r, w_dup2, w_dup_x2, w_pop_i, w_pop_r, w_goto, w_switch, w_ret_i, v_ret_z, v_ret_c, w_ret_a, w_ret_s, w_ret_f, w_ret_d, w_ret_v, v_iaload, v_baload, v_caload, v_laload, v_aaload, v_iastore, v_bastore, v_castore, v_lastore, v_aastore, v_alen, v_newa, v_anewa, w_new, w_throw, w_dead, v_getf_i, v_getf_z, v_getf_r, v_putf_i, v_putf_z, v_putf_r, w_call0, w_call1, w_callv1, w_calli1, w_callt1, w_call2, w_callv2, w_calli2, w_callt2, w_call3, w_callv3, w_calli3, w_call4, w_callv4, w_calli4, w_call5, w_callv5, w_calli5, w_call6, w_callv6, w_calli6, w_call7, w_callv7, w_calli7, w_call8, w_callv8, w_calli8, c_if0_eq_t, c_if0_eq_f, c_if2_eq_t, c_if2_eq_f, c_if0_ne_t, c_if0_ne_f, c_if2_ne_t, c_if2_ne_f, c_if0_lt_t, c_if0_lt_f, c_if2_lt_t, c_if2_lt_f, c_if0_ge_t, c_if0_ge_f, c_if2_ge_t, c_if2_ge_f, c_if0_gt_t, c_if0_gt_f, c_if2_gt_t, c_if2_gt_f, c_if0_le_t, c_if0_le_f, c_if2_le_t, c_if2_le_f, w_nil, uI_s, uA_r, uA_s, uD_d, mPut_0, mCl_own, mCv_go, mCl_min, mCl_cpy, mCv_obj, mAct_len, mAct_chrc, mAft_v, mAft_n, mAft_x, mGet_0, mSet_0, mGet_1, mSet_1, mGet_2, mSet_2, mGet_3, mSet_3, mGet_4, mSet_4, mGet_5, mSet_5, mGet_6, mSet_6, mGet_7, mSet_7, mGet_8, mSet_8, mGet_9, mSet_9, mGet_10, mSet_10, mGet_11, mSet_11, mGet_12, mSet_12, mGet_13, mSet_13, hK9]
  refine kk _ _ ⟨⟨fun a ha => ⟨(hc.1 a ha).1, (up_fa (by omega)).trans (hc.1 a ha).2.1, (hc.1 a ha).2.2⟩, hc.2.1, hc.2.2.1, hc.2.2.2⟩, i5, hK9, fun q hq => ?_, up_eq rfl rfl, yGn_h hG (fun a a0 a1 => ⟨(up_fa (by omega)).trans (hc.1 a (by omega)).2.1, (hc.1 a (by omega)).2.2⟩)⟩
  obtain ⟨-, q1, q2⟩ := t5.2.2.1 q hq
  exact ⟨(up_nk (yRt_11 q hq)).trans q1, q2⟩
theorem k_Wr (hn : S.2.2.2.1 = n) (n0 : 0 ≤ n) (hG : yGn S (n - 9)) (kk : ∀ (S' : mH) (I' : mN), kCo n 2 6403 S I S' I' ∧ I' n = (fun _ => 0) ∧ yWr S' n → Q (.inl none) I' S') : mRun (D + 1) 104 [mR n, mR (n - 9)] (mNewN I S) (mNewH S 10 3) Q := by
  have hK : (mNewH S 10 3).2.1 n = 10 := uk_eq hn.symm
  have t0 : kS [(0, 1, 52, 6400)] 10 n 0 (mNewH S 10 3) (mNewN I S) (mNewH S 10 3) (mNewN I S) := kS_0 hK (by show S.2.2.2.1 + 1 = n + 1; omega)
  have i0 : (mNewN I S) n = (fun _ => 0) := ua_eq hn.symm
  have c0 : (mNewH S 10 3).2.2.2.2 = S.2.2.2.2 + 3 := rfl
  generalize hS0 : mNewH S 10 3 = S0 at hK t0 c0 ⊢
  generalize hI0 : mNewN I S = I0 at t0 i0 ⊢
  simp (disch := first | omega | exact Nat.le_of_ble_eq_true rfl) only [e_Wr_init, a_Wr_init_0]
  unfold bk_Wr_init_0
  refine k_ob n (fun _ _ _ => rfl) (fun _ _ => rfl) n0 ?_
  refine k_na n 0 6400 52 10 (fun _ _ _ => rfl) (fun _ _ _ => rfl) (fun _ _ _ => rfl) (fun _ _ _ _ => rfl) t0.1 (by have := t0.2.1; omega) (by decide) (fun S1 I1 h1 => ?_)
  have t1 := kS_s t0 h1 rfl (by decide)
  have i1 : I1 n = (fun _ => 0) := (h1.2.2.2.2.2.2 n (by have := t0.2.1; omega)).trans i0
  have c1 : S1.2.2.2.2 = S.2.2.2.2 + 6403 := by have := h1.1.2; omega
  rw [← hS0, ← hI0] at t1
  have hc := kC_S (w := 2) hn t1 c1 (by decide)
  have q1 := (t1.2.2.1 (0, 1, 52, 6400) (List.mem_of_getElem? (i := 0) rfl)).2
  have hK9 := t1.1
  simp (disch := first | omega | exact Nat.le_of_ble_eq_true rfl | (simp (disch := omega) only [hK9] <;> omega)) only [w_iconst, w_bipush, w_sipush, w_ldc_s, w_ldcw_s, w_ldc_i, w_ldcw_i, w_lconst, w_fconst, w_dconst, w_iload, w_iload_n, w_aload, w_aload_n, w_dload, w_istore, w_istore_n, w_astore_r, w_astore_s, w_astore_n_r, w_astore_n_s, w_dstore, w_iinc, w_iadd, w_isub, w_imul, w_iand, w_iushr, v_idiv, v_irem, w_ineg, w_i2l, w_i2c, w_i2f, w_i2d, v_f2d, w_lcmp, w_dcmp, v_fdiv, v_ddiv, w_dup_i, w_dup_r, w_dup2, w_dup_x2, w_pop_i, w_pop_r, w_goto, w_switch, w_ret_i, v_ret_z, v_ret_c, w_ret_a, w_ret_s, w_ret_f, w_ret_d, w_ret_v, v_iaload, v_baload, v_caload, v_laload, v_aaload, v_iastore, v_bastore, v_castore, v_lastore, v_aastore, v_alen, v_newa, v_anewa, w_new, w_throw, w_dead, v_getf_i, v_getf_z, v_getf_r, v_putf_i, v_putf_z, v_putf_r, w_call0, w_call1, w_callv1, w_calli1, w_callt1, w_call2, w_callv2, w_calli2, w_callt2, w_call3, w_callv3, w_calli3, w_call4, w_callv4, w_calli4, w_call5, w_callv5, w_calli5, w_call6, w_callv6, w_calli6, w_call7, w_callv7, w_calli7, w_call8, w_callv8, w_calli8, c_if0_eq_t, c_if0_eq_f, c_if2_eq_t, c_if2_eq_f, c_if0_ne_t, c_if0_ne_f, c_if2_ne_t, c_if2_ne_f, c_if0_lt_t, c_if0_lt_f, c_if2_lt_t, c_if2_lt_f, c_if0_ge_t, c_if0_ge_f, c_if2_ge_t, c_if2_ge_f, c_if0_gt_t, c_if0_gt_f, c_if2_gt_t, c_if2_gt_f, c_if0_le_t, c_if0_le_f, c_if2_le_t, c_if2_le_f, w_nil, uI_s, uA_r, uA_s, uD_d, mPut_0, mCl_own, mCv_go, mCl_min, mCl_cpy, mCv_obj, mAct_len, mAct_chrc, mAft_v, mAft_n, mAft_x, mGet_0, mSet_0, mGet_1, mSet_1, mGet_2, mSet_2, mGet_3, mSet_3, mGet_4, mSet_4, mGet_5, mSet_5, mGet_6, mSet_6, mGet_7, mSet_7, mGet_8, mSet_8, mGet_9, mSet_9, mGet_10, mSet_10, mGet_11, mSet_11, mGet_12, mSet_12, mGet_13, mSet_13, hK9]
  exact kk _ _ ⟨⟨fun a ha => ⟨(hc.1 a ha).1, (up_fa (by omega)).trans (hc.1 a ha).2.1, (hc.1 a ha).2.2⟩, hc.2.1, hc.2.2.1, hc.2.2.2⟩, i1, hK9, (up_nk (by decide)).trans q1.1, q1.2, up_eq rfl rfl, yGn_h hG (fun a a0 a1 => ⟨(up_fa (by omega)).trans (hc.1 a (by omega)).2.1, (hc.1 a (by omega)).2.2⟩)⟩
theorem k_Ev (hn : S.2.2.2.1 = n) (n0 : 0 ≤ n) (kk : ∀ (S' : mH) (I' : mN), kCo n 1 3 S I S' I' ∧ I' n = (fun _ => 0) ∧ S'.2.1 n = 3 → Q (.inl none) I' S') : mRun (D + 1) 26 [mR n] (mNewN I S) (mNewH S 3 3) Q := by
  have hK : (mNewH S 3 3).2.1 n = 3 := uk_eq hn.symm
  simp (disch := first | omega | exact Nat.le_of_ble_eq_true rfl) only [e_Ev_init, a_Ev_init_0]
  unfold bk_Ev_init_0
  refine k_ob n (fun _ _ _ => rfl) (fun _ _ => rfl) n0 ?_
  refine ⟨trivial, kk _ _ ⟨⟨fun a ha => ⟨ua_ne (by omega), ua_ne (by omega), uk_ne (by omega), uk_ne (by omega)⟩, fun a a0 a1 => by omega, by show S.2.2.2.1 + 1 = n + 1; omega, rfl⟩, ua_eq hn.symm, hK⟩⟩
end KO
