/-! Branches whose conditions are known. -/
theorem c_if0_eq_t (call : mK) (m nx : Nat) (X : Nat → mC → Prop) (Q : mQ) (pc : Nat) (a : Nat) (n : Nat) (b : Int) (k : Int) (is : List mJ) (ls : mM) (st : List mV) (I : mN) (S : mH) (v : Int) (x : Int) (h : x = 0) : mWp call m nx X Q ((pc, .ifCond .eq v, a, b, k, n) :: is) (ls, .inl x :: st, I, S) = X a (ls, st, I, S) := by
  show ((mHold .eq x 0 → X a (ls, st, I, S)) ∧ (¬ mHold .eq x 0 → mWp call m nx X Q is (ls, st, I, S))) = _
  exact propext ⟨fun z => z.1 (by simp only [mHold]; omega), fun z => ⟨fun _ => z, fun g => absurd (show mHold .eq x 0 by simp only [mHold]; omega) g⟩⟩
theorem c_if0_eq_f (call : mK) (m nx : Nat) (X : Nat → mC → Prop) (Q : mQ) (pc : Nat) (a : Nat) (n : Nat) (b : Int) (k : Int) (is : List mJ) (ls : mM) (st : List mV) (I : mN) (S : mH) (v : Int) (x : Int) (h : x ≠ 0) : mWp call m nx X Q ((pc, .ifCond .eq v, a, b, k, n) :: is) (ls, .inl x :: st, I, S) = mWp call m nx X Q is (ls, st, I, S) := by
  show ((mHold .eq x 0 → X a (ls, st, I, S)) ∧ (¬ mHold .eq x 0 → mWp call m nx X Q is (ls, st, I, S))) = _
  exact propext ⟨fun z => z.2 (by simp only [mHold]; omega), fun z => ⟨fun g => absurd g (by simp only [mHold]; omega), fun _ => z⟩⟩
theorem c_if2_eq_t (call : mK) (m nx : Nat) (X : Nat → mC → Prop) (Q : mQ) (pc : Nat) (a : Nat) (n : Nat) (b : Int) (k : Int) (is : List mJ) (ls : mM) (st : List mV) (I : mN) (S : mH) (v : Int) (x y : Int) (h : x = y) : mWp call m nx X Q ((pc, .if_icmp .eq v, a, b, k, n) :: is) (ls, .inl y :: .inl x :: st, I, S) = X a (ls, st, I, S) := by
  show ((mHold .eq x y → X a (ls, st, I, S)) ∧ (¬ mHold .eq x y → mWp call m nx X Q is (ls, st, I, S))) = _
  exact propext ⟨fun z => z.1 (by simp only [mHold]; omega), fun z => ⟨fun _ => z, fun g => absurd (show mHold .eq x y by simp only [mHold]; omega) g⟩⟩
theorem c_if2_eq_f (call : mK) (m nx : Nat) (X : Nat → mC → Prop) (Q : mQ) (pc : Nat) (a : Nat) (n : Nat) (b : Int) (k : Int) (is : List mJ) (ls : mM) (st : List mV) (I : mN) (S : mH) (v : Int) (x y : Int) (h : x ≠ y) : mWp call m nx X Q ((pc, .if_icmp .eq v, a, b, k, n) :: is) (ls, .inl y :: .inl x :: st, I, S) = mWp call m nx X Q is (ls, st, I, S) := by
  show ((mHold .eq x y → X a (ls, st, I, S)) ∧ (¬ mHold .eq x y → mWp call m nx X Q is (ls, st, I, S))) = _
  exact propext ⟨fun z => z.2 (by simp only [mHold]; omega), fun z => ⟨fun g => absurd g (by simp only [mHold]; omega), fun _ => z⟩⟩
theorem c_if0_ne_t (call : mK) (m nx : Nat) (X : Nat → mC → Prop) (Q : mQ) (pc : Nat) (a : Nat) (n : Nat) (b : Int) (k : Int) (is : List mJ) (ls : mM) (st : List mV) (I : mN) (S : mH) (v : Int) (x : Int) (h : x ≠ 0) : mWp call m nx X Q ((pc, .ifCond .ne v, a, b, k, n) :: is) (ls, .inl x :: st, I, S) = X a (ls, st, I, S) := by
  show ((mHold .ne x 0 → X a (ls, st, I, S)) ∧ (¬ mHold .ne x 0 → mWp call m nx X Q is (ls, st, I, S))) = _
  exact propext ⟨fun z => z.1 (by simp only [mHold]; omega), fun z => ⟨fun _ => z, fun g => absurd (show mHold .ne x 0 by simp only [mHold]; omega) g⟩⟩
theorem c_if0_ne_f (call : mK) (m nx : Nat) (X : Nat → mC → Prop) (Q : mQ) (pc : Nat) (a : Nat) (n : Nat) (b : Int) (k : Int) (is : List mJ) (ls : mM) (st : List mV) (I : mN) (S : mH) (v : Int) (x : Int) (h : x = 0) : mWp call m nx X Q ((pc, .ifCond .ne v, a, b, k, n) :: is) (ls, .inl x :: st, I, S) = mWp call m nx X Q is (ls, st, I, S) := by
  show ((mHold .ne x 0 → X a (ls, st, I, S)) ∧ (¬ mHold .ne x 0 → mWp call m nx X Q is (ls, st, I, S))) = _
  exact propext ⟨fun z => z.2 (by simp only [mHold]; omega), fun z => ⟨fun g => absurd g (by simp only [mHold]; omega), fun _ => z⟩⟩
theorem c_if2_ne_t (call : mK) (m nx : Nat) (X : Nat → mC → Prop) (Q : mQ) (pc : Nat) (a : Nat) (n : Nat) (b : Int) (k : Int) (is : List mJ) (ls : mM) (st : List mV) (I : mN) (S : mH) (v : Int) (x y : Int) (h : x ≠ y) : mWp call m nx X Q ((pc, .if_icmp .ne v, a, b, k, n) :: is) (ls, .inl y :: .inl x :: st, I, S) = X a (ls, st, I, S) := by
  show ((mHold .ne x y → X a (ls, st, I, S)) ∧ (¬ mHold .ne x y → mWp call m nx X Q is (ls, st, I, S))) = _
  exact propext ⟨fun z => z.1 (by simp only [mHold]; omega), fun z => ⟨fun _ => z, fun g => absurd (show mHold .ne x y by simp only [mHold]; omega) g⟩⟩
theorem c_if2_ne_f (call : mK) (m nx : Nat) (X : Nat → mC → Prop) (Q : mQ) (pc : Nat) (a : Nat) (n : Nat) (b : Int) (k : Int) (is : List mJ) (ls : mM) (st : List mV) (I : mN) (S : mH) (v : Int) (x y : Int) (h : x = y) : mWp call m nx X Q ((pc, .if_icmp .ne v, a, b, k, n) :: is) (ls, .inl y :: .inl x :: st, I, S) = mWp call m nx X Q is (ls, st, I, S) := by
  show ((mHold .ne x y → X a (ls, st, I, S)) ∧ (¬ mHold .ne x y → mWp call m nx X Q is (ls, st, I, S))) = _
  exact propext ⟨fun z => z.2 (by simp only [mHold]; omega), fun z => ⟨fun g => absurd g (by simp only [mHold]; omega), fun _ => z⟩⟩
theorem c_if0_lt_t (call : mK) (m nx : Nat) (X : Nat → mC → Prop) (Q : mQ) (pc : Nat) (a : Nat) (n : Nat) (b : Int) (k : Int) (is : List mJ) (ls : mM) (st : List mV) (I : mN) (S : mH) (v : Int) (x : Int) (h : x < 0) : mWp call m nx X Q ((pc, .ifCond .lt v, a, b, k, n) :: is) (ls, .inl x :: st, I, S) = X a (ls, st, I, S) := by
  show ((mHold .lt x 0 → X a (ls, st, I, S)) ∧ (¬ mHold .lt x 0 → mWp call m nx X Q is (ls, st, I, S))) = _
  exact propext ⟨fun z => z.1 (by simp only [mHold]; omega), fun z => ⟨fun _ => z, fun g => absurd (show mHold .lt x 0 by simp only [mHold]; omega) g⟩⟩
theorem c_if0_lt_f (call : mK) (m nx : Nat) (X : Nat → mC → Prop) (Q : mQ) (pc : Nat) (a : Nat) (n : Nat) (b : Int) (k : Int) (is : List mJ) (ls : mM) (st : List mV) (I : mN) (S : mH) (v : Int) (x : Int) (h : 0 ≤ x) : mWp call m nx X Q ((pc, .ifCond .lt v, a, b, k, n) :: is) (ls, .inl x :: st, I, S) = mWp call m nx X Q is (ls, st, I, S) := by
  show ((mHold .lt x 0 → X a (ls, st, I, S)) ∧ (¬ mHold .lt x 0 → mWp call m nx X Q is (ls, st, I, S))) = _
  exact propext ⟨fun z => z.2 (by simp only [mHold]; omega), fun z => ⟨fun g => absurd g (by simp only [mHold]; omega), fun _ => z⟩⟩
theorem c_if2_lt_t (call : mK) (m nx : Nat) (X : Nat → mC → Prop) (Q : mQ) (pc : Nat) (a : Nat) (n : Nat) (b : Int) (k : Int) (is : List mJ) (ls : mM) (st : List mV) (I : mN) (S : mH) (v : Int) (x y : Int) (h : x < y) : mWp call m nx X Q ((pc, .if_icmp .lt v, a, b, k, n) :: is) (ls, .inl y :: .inl x :: st, I, S) = X a (ls, st, I, S) := by
  show ((mHold .lt x y → X a (ls, st, I, S)) ∧ (¬ mHold .lt x y → mWp call m nx X Q is (ls, st, I, S))) = _
  exact propext ⟨fun z => z.1 (by simp only [mHold]; omega), fun z => ⟨fun _ => z, fun g => absurd (show mHold .lt x y by simp only [mHold]; omega) g⟩⟩
theorem c_if2_lt_f (call : mK) (m nx : Nat) (X : Nat → mC → Prop) (Q : mQ) (pc : Nat) (a : Nat) (n : Nat) (b : Int) (k : Int) (is : List mJ) (ls : mM) (st : List mV) (I : mN) (S : mH) (v : Int) (x y : Int) (h : y ≤ x) : mWp call m nx X Q ((pc, .if_icmp .lt v, a, b, k, n) :: is) (ls, .inl y :: .inl x :: st, I, S) = mWp call m nx X Q is (ls, st, I, S) := by
  show ((mHold .lt x y → X a (ls, st, I, S)) ∧ (¬ mHold .lt x y → mWp call m nx X Q is (ls, st, I, S))) = _
  exact propext ⟨fun z => z.2 (by simp only [mHold]; omega), fun z => ⟨fun g => absurd g (by simp only [mHold]; omega), fun _ => z⟩⟩
theorem c_if0_ge_t (call : mK) (m nx : Nat) (X : Nat → mC → Prop) (Q : mQ) (pc : Nat) (a : Nat) (n : Nat) (b : Int) (k : Int) (is : List mJ) (ls : mM) (st : List mV) (I : mN) (S : mH) (v : Int) (x : Int) (h : 0 ≤ x) : mWp call m nx X Q ((pc, .ifCond .ge v, a, b, k, n) :: is) (ls, .inl x :: st, I, S) = X a (ls, st, I, S) := by
  show ((mHold .ge x 0 → X a (ls, st, I, S)) ∧ (¬ mHold .ge x 0 → mWp call m nx X Q is (ls, st, I, S))) = _
  exact propext ⟨fun z => z.1 (by simp only [mHold]; omega), fun z => ⟨fun _ => z, fun g => absurd (show mHold .ge x 0 by simp only [mHold]; omega) g⟩⟩
theorem c_if0_ge_f (call : mK) (m nx : Nat) (X : Nat → mC → Prop) (Q : mQ) (pc : Nat) (a : Nat) (n : Nat) (b : Int) (k : Int) (is : List mJ) (ls : mM) (st : List mV) (I : mN) (S : mH) (v : Int) (x : Int) (h : x < 0) : mWp call m nx X Q ((pc, .ifCond .ge v, a, b, k, n) :: is) (ls, .inl x :: st, I, S) = mWp call m nx X Q is (ls, st, I, S) := by
  show ((mHold .ge x 0 → X a (ls, st, I, S)) ∧ (¬ mHold .ge x 0 → mWp call m nx X Q is (ls, st, I, S))) = _
  exact propext ⟨fun z => z.2 (by simp only [mHold]; omega), fun z => ⟨fun g => absurd g (by simp only [mHold]; omega), fun _ => z⟩⟩
theorem c_if2_ge_t (call : mK) (m nx : Nat) (X : Nat → mC → Prop) (Q : mQ) (pc : Nat) (a : Nat) (n : Nat) (b : Int) (k : Int) (is : List mJ) (ls : mM) (st : List mV) (I : mN) (S : mH) (v : Int) (x y : Int) (h : y ≤ x) : mWp call m nx X Q ((pc, .if_icmp .ge v, a, b, k, n) :: is) (ls, .inl y :: .inl x :: st, I, S) = X a (ls, st, I, S) := by
  show ((mHold .ge x y → X a (ls, st, I, S)) ∧ (¬ mHold .ge x y → mWp call m nx X Q is (ls, st, I, S))) = _
  exact propext ⟨fun z => z.1 (by simp only [mHold]; omega), fun z => ⟨fun _ => z, fun g => absurd (show mHold .ge x y by simp only [mHold]; omega) g⟩⟩
theorem c_if2_ge_f (call : mK) (m nx : Nat) (X : Nat → mC → Prop) (Q : mQ) (pc : Nat) (a : Nat) (n : Nat) (b : Int) (k : Int) (is : List mJ) (ls : mM) (st : List mV) (I : mN) (S : mH) (v : Int) (x y : Int) (h : x < y) : mWp call m nx X Q ((pc, .if_icmp .ge v, a, b, k, n) :: is) (ls, .inl y :: .inl x :: st, I, S) = mWp call m nx X Q is (ls, st, I, S) := by
  show ((mHold .ge x y → X a (ls, st, I, S)) ∧ (¬ mHold .ge x y → mWp call m nx X Q is (ls, st, I, S))) = _
  exact propext ⟨fun z => z.2 (by simp only [mHold]; omega), fun z => ⟨fun g => absurd g (by simp only [mHold]; omega), fun _ => z⟩⟩
theorem c_if0_gt_t (call : mK) (m nx : Nat) (X : Nat → mC → Prop) (Q : mQ) (pc : Nat) (a : Nat) (n : Nat) (b : Int) (k : Int) (is : List mJ) (ls : mM) (st : List mV) (I : mN) (S : mH) (v : Int) (x : Int) (h : 0 < x) : mWp call m nx X Q ((pc, .ifCond .gt v, a, b, k, n) :: is) (ls, .inl x :: st, I, S) = X a (ls, st, I, S) := by
  show ((mHold .gt x 0 → X a (ls, st, I, S)) ∧ (¬ mHold .gt x 0 → mWp call m nx X Q is (ls, st, I, S))) = _
  exact propext ⟨fun z => z.1 (by simp only [mHold]; omega), fun z => ⟨fun _ => z, fun g => absurd (show mHold .gt x 0 by simp only [mHold]; omega) g⟩⟩
theorem c_if0_gt_f (call : mK) (m nx : Nat) (X : Nat → mC → Prop) (Q : mQ) (pc : Nat) (a : Nat) (n : Nat) (b : Int) (k : Int) (is : List mJ) (ls : mM) (st : List mV) (I : mN) (S : mH) (v : Int) (x : Int) (h : x ≤ 0) : mWp call m nx X Q ((pc, .ifCond .gt v, a, b, k, n) :: is) (ls, .inl x :: st, I, S) = mWp call m nx X Q is (ls, st, I, S) := by
  show ((mHold .gt x 0 → X a (ls, st, I, S)) ∧ (¬ mHold .gt x 0 → mWp call m nx X Q is (ls, st, I, S))) = _
  exact propext ⟨fun z => z.2 (by simp only [mHold]; omega), fun z => ⟨fun g => absurd g (by simp only [mHold]; omega), fun _ => z⟩⟩
theorem c_if2_gt_t (call : mK) (m nx : Nat) (X : Nat → mC → Prop) (Q : mQ) (pc : Nat) (a : Nat) (n : Nat) (b : Int) (k : Int) (is : List mJ) (ls : mM) (st : List mV) (I : mN) (S : mH) (v : Int) (x y : Int) (h : y < x) : mWp call m nx X Q ((pc, .if_icmp .gt v, a, b, k, n) :: is) (ls, .inl y :: .inl x :: st, I, S) = X a (ls, st, I, S) := by
  show ((mHold .gt x y → X a (ls, st, I, S)) ∧ (¬ mHold .gt x y → mWp call m nx X Q is (ls, st, I, S))) = _
  exact propext ⟨fun z => z.1 (by simp only [mHold]; omega), fun z => ⟨fun _ => z, fun g => absurd (show mHold .gt x y by simp only [mHold]; omega) g⟩⟩
theorem c_if2_gt_f (call : mK) (m nx : Nat) (X : Nat → mC → Prop) (Q : mQ) (pc : Nat) (a : Nat) (n : Nat) (b : Int) (k : Int) (is : List mJ) (ls : mM) (st : List mV) (I : mN) (S : mH) (v : Int) (x y : Int) (h : x ≤ y) : mWp call m nx X Q ((pc, .if_icmp .gt v, a, b, k, n) :: is) (ls, .inl y :: .inl x :: st, I, S) = mWp call m nx X Q is (ls, st, I, S) := by
  show ((mHold .gt x y → X a (ls, st, I, S)) ∧ (¬ mHold .gt x y → mWp call m nx X Q is (ls, st, I, S))) = _
  exact propext ⟨fun z => z.2 (by simp only [mHold]; omega), fun z => ⟨fun g => absurd g (by simp only [mHold]; omega), fun _ => z⟩⟩
theorem c_if0_le_t (call : mK) (m nx : Nat) (X : Nat → mC → Prop) (Q : mQ) (pc : Nat) (a : Nat) (n : Nat) (b : Int) (k : Int) (is : List mJ) (ls : mM) (st : List mV) (I : mN) (S : mH) (v : Int) (x : Int) (h : x ≤ 0) : mWp call m nx X Q ((pc, .ifCond .le v, a, b, k, n) :: is) (ls, .inl x :: st, I, S) = X a (ls, st, I, S) := by
  show ((mHold .le x 0 → X a (ls, st, I, S)) ∧ (¬ mHold .le x 0 → mWp call m nx X Q is (ls, st, I, S))) = _
  exact propext ⟨fun z => z.1 (by simp only [mHold]; omega), fun z => ⟨fun _ => z, fun g => absurd (show mHold .le x 0 by simp only [mHold]; omega) g⟩⟩
theorem c_if0_le_f (call : mK) (m nx : Nat) (X : Nat → mC → Prop) (Q : mQ) (pc : Nat) (a : Nat) (n : Nat) (b : Int) (k : Int) (is : List mJ) (ls : mM) (st : List mV) (I : mN) (S : mH) (v : Int) (x : Int) (h : 0 < x) : mWp call m nx X Q ((pc, .ifCond .le v, a, b, k, n) :: is) (ls, .inl x :: st, I, S) = mWp call m nx X Q is (ls, st, I, S) := by
  show ((mHold .le x 0 → X a (ls, st, I, S)) ∧ (¬ mHold .le x 0 → mWp call m nx X Q is (ls, st, I, S))) = _
  exact propext ⟨fun z => z.2 (by simp only [mHold]; omega), fun z => ⟨fun g => absurd g (by simp only [mHold]; omega), fun _ => z⟩⟩
theorem c_if2_le_t (call : mK) (m nx : Nat) (X : Nat → mC → Prop) (Q : mQ) (pc : Nat) (a : Nat) (n : Nat) (b : Int) (k : Int) (is : List mJ) (ls : mM) (st : List mV) (I : mN) (S : mH) (v : Int) (x y : Int) (h : x ≤ y) : mWp call m nx X Q ((pc, .if_icmp .le v, a, b, k, n) :: is) (ls, .inl y :: .inl x :: st, I, S) = X a (ls, st, I, S) := by
  show ((mHold .le x y → X a (ls, st, I, S)) ∧ (¬ mHold .le x y → mWp call m nx X Q is (ls, st, I, S))) = _
  exact propext ⟨fun z => z.1 (by simp only [mHold]; omega), fun z => ⟨fun _ => z, fun g => absurd (show mHold .le x y by simp only [mHold]; omega) g⟩⟩
theorem c_if2_le_f (call : mK) (m nx : Nat) (X : Nat → mC → Prop) (Q : mQ) (pc : Nat) (a : Nat) (n : Nat) (b : Int) (k : Int) (is : List mJ) (ls : mM) (st : List mV) (I : mN) (S : mH) (v : Int) (x y : Int) (h : y < x) : mWp call m nx X Q ((pc, .if_icmp .le v, a, b, k, n) :: is) (ls, .inl y :: .inl x :: st, I, S) = mWp call m nx X Q is (ls, st, I, S) := by
  show ((mHold .le x y → X a (ls, st, I, S)) ∧ (¬ mHold .le x y → mWp call m nx X Q is (ls, st, I, S))) = _
  exact propext ⟨fun z => z.2 (by simp only [mHold]; omega), fun z => ⟨fun g => absurd g (by simp only [mHold]; omega), fun _ => z⟩⟩
