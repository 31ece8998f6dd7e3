/-! The network's search back from a node: what holds while it goes. -/
abbrev zN (td : Int) (fr to tm rm su : Int → Int) : zNet := (fun a => decide (fr (a / 8) ≠ -1 ∧ td ≤ a % 8 ∧ a % 8 + tm (a / 8) < 8), fun a => fr (a / 8) * 8 + a % 8, fun a => to (a / 8) * 8 + a % 8 + tm (a / 8), rm, su)
def nWf (td : Int) (fr to tm : Int → Int) : Prop := (0 ≤ td ∧ td ≤ 8) ∧ ∀ c : Int, 0 ≤ c → c < 15 → ((fr c = -1 ∧ to c = -1) ∨ ((0 ≤ fr c ∧ fr c < 6) ∧ (0 ≤ to c ∧ to c < 6) ∧ (fr c = to c → 1 ≤ tm c))) ∧ 0 ≤ tm c ∧ tm c ≤ 2
/-- what the search reads and leaves alone -/
def nFix (I : mN) (n td : Int) (fr to tm rm f st sp dr : Int → Int) : Prop := I n 1 = td ∧ I (n + 1) = fr ∧ I (n + 2) = to ∧ I (n + 3) = tm ∧ I (n + 4) = rm ∧ I (n + 5) = f ∧ I (n + 6) = st ∧ I (n + 8) = sp ∧ I (n + 9) = dr
def nExt (I I' : mN) (n : Int) : Prop := (∀ a : Int, a ≠ n → a ≠ n + 10 → a ≠ n + 11 → a ≠ n + 12 → a ≠ n + 13 → I' a = I a) ∧ (∀ k : Int, k ≠ 13 → I' n k = I n k) ∧ (∀ v : Int, I (n + 10) v = 1 → I' (n + 10) v = 1) ∧ I n 13 ≤ I' n 13 ∧ ∀ i : Int, 0 ≤ i → i < I n 13 → I' (n + 11) i = I (n + 11) i
theorem nExt_r (I : mN) (n : Int) : nExt I I n := ⟨fun _ _ _ _ _ _ => rfl, fun _ _ => rfl, fun _ h => h, Int.le_refl _, fun _ _ _ => rfl⟩
theorem nExt_t {I I' I'' : mN} {n : Int} (h : nExt I I' n) (h' : nExt I' I'' n) : nExt I I'' n := ⟨fun a h1 h2 h3 h4 h5 => (h'.1 a h1 h2 h3 h4 h5).trans (h.1 a h1 h2 h3 h4 h5), fun k hk => (h'.2.1 k hk).trans (h.2.1 k hk), fun v hv => h'.2.2.1 v (h.2.2.1 v hv), Int.le_trans h.2.2.2.1 h'.2.2.2.1, fun i h0 h1 => (h'.2.2.2.2 i h0 (Int.lt_of_lt_of_le h1 h.2.2.2.1)).trans (h.2.2.2.2 i h0 h1)⟩
theorem nFix_e {I I' : mN} {n td : Int} {fr to tm rm f st sp dr : Int → Int} (h : nFix I n td fr to tm rm f st sp dr) (h' : nExt I I' n) : nFix I' n td fr to tm rm f st sp dr := by
  obtain ⟨h1, h2, h3, h4, h5, h6, h7, h8, h9⟩ := h
  have g := h'.1
  refine ⟨(h'.2.1 1 (by decide)).trans h1, (g _ ?_ ?_ ?_ ?_ ?_).trans h2, (g _ ?_ ?_ ?_ ?_ ?_).trans h3, (g _ ?_ ?_ ?_ ?_ ?_).trans h4, (g _ ?_ ?_ ?_ ?_ ?_).trans h5, (g _ ?_ ?_ ?_ ?_ ?_).trans h6, (g _ ?_ ?_ ?_ ?_ ?_).trans h7, (g _ ?_ ?_ ?_ ?_ ?_).trans h8, (g _ ?_ ?_ ?_ ?_ ?_).trans h9⟩ <;> omega
/-- the queue of the search from a node -/
def nQ (N : zNet) (f st dr : Int → Int) (I : mN) (n node : Int) : Prop :=
  (1 ≤ I n 13 ∧ I n 13 ≤ 48) ∧ I (n + 11) 0 = node ∧ sm 48 (I (n + 10)) = I n 13 ∧ (∀ v : Int, 0 ≤ v → v < 48 → I (n + 10) v = 0 ∨ I (n + 10) v = 1) ∧
  (∀ i : Int, 0 ≤ i → i < I n 13 → (0 ≤ I (n + 11) i ∧ I (n + 11) i < 48) ∧ I (n + 10) (I (n + 11) i) = 1) ∧
  (∀ v : Int, 0 ≤ v → v < 48 → I (n + 10) v = 1 → ∃ i : Int, 0 ≤ i ∧ i < I n 13 ∧ I (n + 11) i = v) ∧
  (∀ i j : Int, 0 ≤ i → i < j → j < I n 13 → I (n + 11) i ≠ I (n + 11) j) ∧
  ∀ i : Int, 1 ≤ i → i < I n 13 → dr (I (n + 11) i) = 0 ∧ ∃ j : Int, 0 ≤ j ∧ j < i ∧ I (n + 13) (I (n + 11) i) = I (n + 11) j ∧ zRes N f (I (n + 11) i) (I (n + 11) j) (I (n + 12) (I (n + 11) i)) ∧ st (I (n + 12) (I (n + 11) i)) = 0
theorem sm_room {f : Int → Int} {v : Int} (h0 : 0 ≤ v) (h1 : v < 48) (hv : f v = 0) (h : ∀ i : Int, 0 ≤ i → i < 48 → f i = 0 ∨ f i = 1) : sm 48 f < 48 := by
  have h2 := sm_upd (n := 48) (f := f) (g := fun i => if i = v then 1 else f i) h0 h1 (fun i _ _ hi => if_neg hi)
  try dsimp only at h2
  rw [if_pos rfl, hv] at h2
  have h3 : sm 48 (fun i => if i = v then 1 else f i) ≤ sm 48 (fun _ => 1) := by
    refine sm_le (fun i i0 i1 => ?_)
    try dsimp only
    split
    · exact Int.le_refl _
    · rcases h i i0 i1 with e | e <;> omega
  rw [sm_const] at h3
  omega
theorem p_reach (D : Nat) {N : zNet} {n e v a u : Int} {f st dr : Int → Int} {I : mN} {S : mH} {Q : mQ} {node i0 : Int} (hn : yNe S n e) (hdr : I (n + 9) = dr) (hQ : nQ N f st dr I n node) (v0 : 0 ≤ v) (v1 : v < 48) (hi0 : 0 ≤ i0) (hi1 : i0 < I n 13) (hu : I (n + 11) i0 = u) (hr : zRes N f v u a) (hs : st a = 0)
    (k : ∀ I' : mN, nQ N f st dr I' n node → nExt I I' n → (I' (n + 10) v = 1 ∨ dr v ≠ 0) → Q (.inl none) I' S) : mRun (D + 1) 55 [mR n, mI v, mI a, mI u] I S Q := by
  obtain ⟨⟨q1, q2⟩, q3, q4, q5, q6, q7, q8, q9⟩ := hQ
  by_cases h1 : I (n + 10) v = 0
  · by_cases h2 : dr v = 0
    · have hlt : I n 13 < 48 := by rw [← q4]; exact sm_room v0 v1 h1 q5
      rw [r_reach_go D Q hn v0 v1 h1 (by rw [hdr]; exact h2) (by omega) hlt]
      have hnew : ∀ i : Int, 0 ≤ i → i < I n 13 → I (n + 11) i ≠ v := fun i g0 g1 g2 => by
        have := (q6 i g0 g1).2
        rw [g2, h1] at this
        omega
      generalize hI' : mUp (mUp (mUp (mUp (mUp I (n + 10) v 1) (n + 12) v a) (n + 13) v u) (n + 11) (I n 13) v) n 13 (I n 13 + 1) = I'
      have e10 : I' (n + 10) = fun j => if j = v then 1 else I (n + 10) j := by
        rw [← hI']; funext j
        by_cases hj : j = v
        · rw [if_pos hj]; simp (disch := first | omega | exact Nat.le_of_ble_eq_true rfl) only [ua_eq, ua_ne, up_eq, up_fa, up_nk, tk_in, tk_out]
        · rw [if_neg hj]; simp (disch := first | omega | exact Nat.le_of_ble_eq_true rfl) only [ua_eq, ua_ne, up_eq, up_fa, up_nk, tk_in, tk_out]
      have e11 : I' (n + 11) = fun j => if j = I n 13 then v else I (n + 11) j := by
        rw [← hI']; funext j
        by_cases hj : j = I n 13
        · rw [if_pos hj]; simp (disch := first | omega | exact Nat.le_of_ble_eq_true rfl) only [ua_eq, ua_ne, up_eq, up_fa, up_nk, tk_in, tk_out]
        · rw [if_neg hj]; simp (disch := first | omega | exact Nat.le_of_ble_eq_true rfl) only [ua_eq, ua_ne, up_eq, up_fa, up_nk, tk_in, tk_out]
      have e12 : I' (n + 12) = fun j => if j = v then a else I (n + 12) j := by
        rw [← hI']; funext j
        by_cases hj : j = v
        · rw [if_pos hj]; simp (disch := first | omega | exact Nat.le_of_ble_eq_true rfl) only [ua_eq, ua_ne, up_eq, up_fa, up_nk, tk_in, tk_out]
        · rw [if_neg hj]; simp (disch := first | omega | exact Nat.le_of_ble_eq_true rfl) only [ua_eq, ua_ne, up_eq, up_fa, up_nk, tk_in, tk_out]
      have e13 : I' (n + 13) = fun j => if j = v then u else I (n + 13) j := by
        rw [← hI']; funext j
        by_cases hj : j = v
        · rw [if_pos hj]; simp (disch := first | omega | exact Nat.le_of_ble_eq_true rfl) only [ua_eq, ua_ne, up_eq, up_fa, up_nk, tk_in, tk_out]
        · rw [if_neg hj]; simp (disch := first | omega | exact Nat.le_of_ble_eq_true rfl) only [ua_eq, ua_ne, up_eq, up_fa, up_nk, tk_in, tk_out]
      have en : I' n 13 = I n 13 + 1 := by rw [← hI']; simp (disch := first | omega | exact Nat.le_of_ble_eq_true rfl) only [ua_eq, ua_ne, up_eq, up_fa, up_nk, tk_in, tk_out]
      have eo : ∀ b : Int, b ≠ n → b ≠ n + 10 → b ≠ n + 11 → b ≠ n + 12 → b ≠ n + 13 → I' b = I b := fun b g0 g1 g2 g3 g4 => by rw [← hI']; simp (disch := first | omega | exact Nat.le_of_ble_eq_true rfl) only [ua_eq, ua_ne, up_eq, up_fa, up_nk, tk_in, tk_out]
      have ek : ∀ k : Int, k ≠ 13 → I' n k = I n k := fun k hk => by rw [← hI']; simp (disch := first | omega | exact Nat.le_of_ble_eq_true rfl) only [ua_eq, ua_ne, up_eq, up_fa, up_nk, tk_in, tk_out]
      clear hI'
      have o11 : ∀ i : Int, i < I n 13 → I' (n + 11) i = I (n + 11) i := fun i hi => by rw [e11]; exact if_neg (by omega)
      have o12 : ∀ i : Int, 0 ≤ i → i < I n 13 → I' (n + 12) (I (n + 11) i) = I (n + 12) (I (n + 11) i) := fun i g0 g1 => by rw [e12]; exact if_neg (hnew i g0 g1)
      have o13 : ∀ i : Int, 0 ≤ i → i < I n 13 → I' (n + 13) (I (n + 11) i) = I (n + 13) (I (n + 11) i) := fun i g0 g1 => by rw [e13]; exact if_neg (hnew i g0 g1)
      have l11 : I' (n + 11) (I n 13) = v := by rw [e11]; exact if_pos rfl
      refine k I' ⟨by omega, by rw [o11 0 (by omega)]; exact q3, ?_, ?_, ?_, ?_, ?_, ?_⟩ ⟨eo, ek, fun w hw => ?_, by omega, fun i g0 g1 => o11 i g1⟩ (Or.inl (by rw [e10]; exact if_pos rfl))
      · rw [e10, sm_upd (f := I (n + 10)) (k := v) v0 v1 (fun i _ _ hi => if_neg hi)]
        try dsimp only
        rw [if_pos rfl, h1, q4, en]; omega
      · intro w w0 w1
        rw [e10]; try dsimp only
        split
        · exact Or.inr rfl
        · exact q5 w w0 w1
      · intro i g0 g1
        by_cases hi : i = I n 13
        · subst hi
          rw [l11]
          exact ⟨⟨v0, v1⟩, by rw [e10]; exact if_pos rfl⟩
        · rw [o11 i (by omega)]
          refine ⟨(q6 i g0 (by omega)).1, ?_⟩
          rw [e10]; try dsimp only
          rw [if_neg (hnew i g0 (by omega))]
          exact (q6 i g0 (by omega)).2
      · intro w w0 w1 hw
        by_cases hwv : w = v
        · exact ⟨I n 13, by omega, by omega, by rw [l11, hwv]⟩
        · rw [e10] at hw; try dsimp only at hw
          rw [if_neg hwv] at hw
          obtain ⟨i, g0, g1, g2⟩ := q7 w w0 w1 hw
          exact ⟨i, g0, by omega, by rw [o11 i g1]; exact g2⟩
      · intro i j g0 g1 g2
        by_cases hj : j = I n 13
        · subst hj
          rw [l11, o11 i g1]
          exact hnew i g0 g1
        · rw [o11 i (by omega), o11 j (by omega)]
          exact q8 i j g0 g1 (by omega)
      · intro i g0 g1
        by_cases hi : i = I n 13
        · subst hi
          rw [l11]
          have m12 : I' (n + 12) v = a := by rw [e12]; exact if_pos rfl
          have m13 : I' (n + 13) v = u := by rw [e13]; exact if_pos rfl
          refine ⟨h2, i0, hi0, hi1, ?_, ?_, ?_⟩
          · rw [m13, o11 i0 hi1, hu]
          · rw [m12, o11 i0 hi1, hu]; exact hr
          · rw [m12]; exact hs
        · rw [o11 i (by omega), o12 i (by omega) (by omega), o13 i (by omega) (by omega)]
          obtain ⟨k1, j, j0, j1, k2, k3, k4⟩ := q9 i g0 (by omega)
          exact ⟨k1, j, j0, j1, by rw [o11 j (by omega)]; exact k2, by rw [o11 j (by omega)]; exact k3, k4⟩
      · rw [e10]; try dsimp only
        split
        · rfl
        · exact hw
    · rw [r_reach_no D Q hn v0 v1 (Or.inr (by rw [hdr]; exact h2))]
      exact k I ⟨⟨q1, q2⟩, q3, q4, q5, q6, q7, q8, q9⟩ (nExt_r I n) (Or.inr h2)
  · rw [r_reach_no D Q hn v0 v1 (Or.inl h1)]
    exact k I ⟨⟨q1, q2⟩, q3, q4, q5, q6, q7, q8, q9⟩ (nExt_r I n) (Or.inl ((q5 v v0 v1).resolve_left h1))
