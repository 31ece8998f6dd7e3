/-! The small machine only ever makes cells. -/
def mLe (S S' : mH) : Prop := S.2.2.2.1 ≤ S'.2.2.2.1 ∧ S.2.2.2.2 ≤ S'.2.2.2.2
theorem mLe_r (S : mH) : mLe S S := ⟨Int.le_refl _, Int.le_refl _⟩
theorem mLe_t {S S' S'' : mH} (h : mLe S S') (h' : mLe S' S'') : mLe S S'' := ⟨Int.le_trans h.1 h'.1, Int.le_trans h.2 h'.2⟩
theorem mLe_n {S : mH} {k n : Int} (h : 0 ≤ n) : mLe S (mNewH S k n) := ⟨by show S.2.2.2.1 ≤ S.2.2.2.1 + 1; omega, by show S.2.2.2.2 ≤ S.2.2.2.2 + n; omega⟩
def mGr (c : mC) : mE → Prop
  | .inl (p, c') => p → mLe c.2.2.2 c'.2.2.2
  | .inr (.inl (_, _, c')) => mLe c.2.2.2 c'.2.2.2
  | .inr (.inr (.inl (_, c'))) => mLe c.2.2.2 c'.2.2.2
  | .inr (.inr (.inr (.inl (_, _, _, c')))) => mLe c.2.2.2 c'.2.2.2
  | .inr (.inr (.inr (.inr (.inl (p, _, _, S))))) => p → mLe c.2.2.2 S
  | .inr (.inr (.inr (.inr (.inr (_, _, _, _, c'))))) => mLe c.2.2.2 c'.2.2.2
theorem mGr_no (c c' : mC) : mGr c (eNo c') := fun h => h.elim
theorem mGr_lib (y : Nat) (as : List mV) (c : mC) (st : List mV) : mGr c (mLib y as (c.1, st, c.2.2)) := by
  unfold mLib
  split
  · exact fun _ => mLe_r _
  · exact fun _ => mLe_r _
  · exact fun _ => mLe_r _
  · exact fun _ => mLe_r _
  · exact fun _ => mLe_r _
  · exact mGr_no _ _
theorem mGr_recv (k : Int) (y : Nat) (as : List mV) (c : mC) (st : List mV) : mGr c (mRecv k y as (c.1, st, c.2.2)) := by
  unfold mRecv
  split
  · exact mLe_r _
  · exact mGr_no _ _
theorem mGr_bif {c : mC} {b : Bool} {x y : mE} (hx : mGr c x) (hy : mGr c y) : mGr c (bif b then x else y) := by
  cases b
  · exact hy
  · exact hx
theorem mGr_do (q : mJ) (c : mC) (h0 : 0 ≤ q.2.2.2.1 ∨ ∀ v, q.2.1 ≠ .new v) : mGr c (mDo q c) := by
  obtain ⟨pc, i, a, b, k, n⟩ := q
  unfold mDo
  split
  all_goals (try unfold mLdc)
  all_goals (try unfold mRetI)
  all_goals (try unfold mRetA)
  all_goals (try unfold mRetF)
  all_goals (try unfold mRetD)
  all_goals (try unfold mRetV)
  all_goals (try unfold mPutF)
  all_goals (try unfold mDup2)
  all_goals (try unfold mDupX2)
  all_goals (try unfold mIf0)
  all_goals (try unfold mIf2)
  all_goals (try unfold mLdA)
  all_goals (try unfold mStA)
  all_goals (try unfold mCallS)
  all_goals (try unfold mCallV)
  all_goals (try unfold tI)
  all_goals (try unfold tII)
  all_goals (try unfold tR)
  all_goals (try unfold tRI)
  all_goals (try unfold tRII)
  all_goals (try unfold tRIL)
  all_goals (try unfold tRIR)
  all_goals (try unfold tLL)
  all_goals (try unfold tF)
  all_goals (try unfold tFF)
  all_goals (try unfold tD)
  all_goals (try unfold tDD)
  all_goals (try unfold tA)
  all_goals (try unfold tX)
  all_goals (try unfold lI)
  all_goals (try unfold lA)
  all_goals (try unfold lD)
  all_goals (try unfold mNewO)
  all_goals (try unfold mGetF)
  all_goals (try (repeat' split))
  all_goals first
    | exact fun h => h.elim
    | exact fun _ => mLe_r _
    | exact mLe_r _
    | exact fun h => mLe_n h.1
    | exact mGr_bif (mGr_lib _ _ _ _) (mGr_recv _ _ _ _ _)
    | exact mGr_bif (mGr_lib _ _ _ _) (mLe_r _)
    | exact fun _ => mLe_n (h0.resolve_right (fun h9 => h9 _ ‹_›))
    | exact fun _ => mLe_n (by decide)
    | skip
