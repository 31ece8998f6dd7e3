/-! What of the machine's heap, locals and stack the small machine speaks of. ρ: class numbers, places of fields, the first own address, the script, the texts' addresses. -/
abbrev mRho : Type := (Nat → ClassId) × (Nat → Nat → Nat) × Nat × Nat × Nat × (Nat → Int32) × (Nat → Nat)
def mRef (v : Value) (a : Int) : Prop := (a = -1 ∧ v = .null) ∨ (0 ≤ a ∧ v = .ref a.toNat) ∨ (a = -2 ∧ ∃ q : Nat, v = .ref q)
def mVal (ρ : mRho) (v : Value) : mV → Prop
  | .inl x => mIn x ∧ v = .int (mO x)
  | .inr (.inl a) => mRef v a
  | .inr (.inr (.inl k)) => k < 37 ∧ v = .ref (ρ.2.2.2.2.2.2 k)
  | .inr (.inr (.inr (.inl x))) => mInL x ∧ v = .long (Int64.ofInt x)
  | .inr (.inr (.inr (.inr (.inl x)))) => v = .float x
  | .inr (.inr (.inr (.inr (.inr x)))) => v = .double x
def mStk (ρ : mRho) : List Value → List mV → Prop
  | [], [] => True
  | v :: l, w :: m => mVal ρ v w ∧ mStk ρ l m
  | _, _ => False
def mLoc (ρ : mRho) (y : Nat) (ls : Array Slot) (mls : mM) : Prop := mls.length = mMaxL y ∧ ∃ lv : List (Nat × Value), lv_has ls (mMaxL y) lv ∧ (∀ i w, mGet mls i = some w → ∃ x, (i, x) ∈ lv ∧ mVal ρ x w) ∧ (y ≠ 413 → ∀ q ∈ lv, q.2.category = 1)
def mFld (d : String) (v : Value) (x r : Int) : Prop := if d = "I" then mIn x ∧ v = .int (mO x) else if d = "Z" then (0 ≤ x ∧ x ≤ 1) ∧ v = .int (mO x) else mRef v r
def mCO (ρ : mRho) (H : Heap) (I : mN) (S : mH) (a : Int) : Prop := (0 ≤ a ∧ ρ.2.2.1 ≤ a.toNat) ∧ ∃ (c : Nat) (q : vw_C), mClz[c]? = some q ∧ S.2.1 a = (c : Int) + 1 ∧ ∃ V : Nat → Value, t_OB a.toNat (ρ.1 c) q.2.2 (ρ.2.1 c) H V ∧ ∀ k, k < q.2.2 → mFld (q.2.1 k).2.2.1 (V k) (I a k) (S.1 a k)
def mCA (ρ : mRho) (U : State) (H : Heap) (I : mN) (S : mH) (a : Int) : Prop := (0 ≤ a ∧ ρ.2.2.1 ≤ a.toNat) ∧ (0 ≤ S.2.2.1 a ∧ S.2.2.1 a ≤ 100000) ∧ ∃ (cA : ClassId) (V : Nat → Value), H[a.toNat]? = some (arrV cA (S.2.2.1 a).toNat V) ∧
  ((S.2.1 a = 50 ∧ ArrOfT U cA .int ∧ ∀ j : Nat, (j : Int) < S.2.2.1 a → mIn (I a j) ∧ V j = .int (mO (I a j))) ∨
   (S.2.1 a = 51 ∧ ArrOfT U cA .boolean ∧ ∀ j : Nat, (j : Int) < S.2.2.1 a → (0 ≤ I a j ∧ I a j ≤ 1) ∧ V j = .int (mO (I a j))) ∨
   (S.2.1 a = 52 ∧ ArrOfT U cA .char ∧ ∀ j : Nat, (j : Int) < S.2.2.1 a → (0 ≤ I a j ∧ I a j ≤ 65535) ∧ V j = .int (mO (I a j))) ∨
   (S.2.1 a = 53 ∧ ArrOfT U cA .long ∧ ∀ j : Nat, (j : Int) < S.2.2.1 a → mInL (I a j) ∧ V j = .long (Int64.ofInt (I a j))) ∨
   (∃ (c : Nat) (q : vw_C), mClz[c]? = some q ∧ S.2.1 a = (c : Int) + 60 ∧ ArrOfT U cA (.object q.1) ∧ va_RA U cA (.object q.1) ∧ ∀ j : Nat, (j : Int) < S.2.2.1 a → mRef (V j) (S.1 a j)))
def mCX (ρ : mRho) (U : State) (H : Heap) (I : mN) (S : mH) (a : Int) : Prop := S.2.1 a = 90 ∧ a = ρ.2.2.2.1 ∧ S.2.2.1 a = ρ.2.2.2.2.1 ∧ ρ.2.2.2.2.1 ≤ 3072 ∧ va_X ρ.2.2.2.1 ρ.2.2.2.2.1 ρ.2.2.2.2.2.1 U H ∧ ∀ j : Nat, j < ρ.2.2.2.2.1 → I a j = (ρ.2.2.2.2.2.1 j).toInt
def mCell (ρ : mRho) (U : State) (H : Heap) (I : mN) (S : mH) (a : Int) : Prop := S.2.1 a = 0 ∨ mCO ρ H I S a ∨ mCA ρ U H I S a ∨ mCX ρ U H I S a
def mHeap (ρ : mRho) (U : State) (I : mN) (S : mH) (H : Heap) : Prop := S.2.2.2.1 = (H.size : Int) ∧ ρ.2.2.1 ≤ H.size ∧ ρ.2.2.2.1 < ρ.2.2.1 ∧ ∀ a, mCell ρ U H I S a
def mOld (ρ : mRho) (H0 H : Heap) (locs : List Loc) : Prop := ρ.2.2.1 ≤ H0.size ∧ H0.size ≤ H.size ∧ (∀ q : Nat, q < ρ.2.2.1 → H[q]? = H0[q]?) ∧ ∀ z ∈ locs, ρ.2.2.1 ≤ z.base
def mCnt (S0 S : mH) (cells slots : Nat) : Prop := S.2.2.2.1 = S0.2.2.2.1 + cells ∧ S.2.2.2.2 = S0.2.2.2.2 + slots
/-- what the tables say that all methods use -/
def mTab (ρ : mRho) (U : State) : Prop := (∀ (c : Nat) (q : vw_C), mClz[c]? = some q → u_Kn U q.1 q.2.1 q.2.2 (ρ.1 c) (ρ.2.1 c)) ∧ (∀ e ∈ mWO, va_AO (mCname e.2) U) ∧ ∀ e ∈ mLN, va_Nw (.methodLinkNest (mCname e.2.1) e.2.2.1 (mNm e.2.2.2) "RiverSeniority") U
theorem mClz_name : ∀ (c : Nat) (q : vw_C), mClz[c]? = some q → q.1 = mCname c := by
  intro c q h
  have hc : c < 12 := (List.getElem?_eq_some_iff.mp h).1
  rcases (show c = 0 ∨ c = 1 ∨ c = 2 ∨ c = 3 ∨ c = 4 ∨ c = 5 ∨ c = 6 ∨ c = 7 ∨ c = 8 ∨ c = 9 ∨ c = 10 ∨ c = 11 by omega) with rfl | rfl | rfl | rfl | rfl | rfl | rfl | rfl | rfl | rfl | rfl | rfl <;> (cases h; rfl)
-- stacks
theorem mStk_c {ρ : mRho} {stk : List Value} {w : mV} {m : List mV} (h : mStk ρ stk (w :: m)) : ∃ v l, stk = v :: l ∧ mVal ρ v w ∧ mStk ρ l m := by
  cases stk with
  | nil => exact h.elim
  | cons v l => exact ⟨v, l, rfl, h⟩
theorem mStk_n {ρ : mRho} {stk : List Value} (h : mStk ρ stk []) : stk = [] := by
  cases stk with
  | nil => rfl
  | cons v l => exact h.elim
theorem mStk_len {ρ : mRho} : ∀ {stk : List Value} {m : List mV}, mStk ρ stk m → stk.length = m.length
  | [], [], _ => rfl
  | _ :: _, _ :: _, h => by simp [mStk_len h.2]
  | [], _ :: _, h => h.elim
  | _ :: _, [], h => h.elim
theorem mVal_c1 {ρ : mRho} {v : Value} {w : mV} (h : mVal ρ v w) (h1 : ∀ x, w ≠ mL x) (h2 : ∀ x, w ≠ mD x) : v.category = 1 := by
  rcases w with x | x | x | x | x | x
  · obtain ⟨-, rfl⟩ := h; rfl
  · rcases h with ⟨-, rfl⟩ | ⟨-, rfl⟩ | ⟨-, q, rfl⟩ <;> rfl
  · obtain ⟨-, rfl⟩ := h; rfl
  · exact absurd rfl (h1 x)
  · have h : v = .float x := h
    rw [h]; rfl
  · exact absurd rfl (h2 x)
theorem mCs_ok {ρ : mRho} : ∀ {stk : List Value} {m : List mV}, mStk ρ stk m → (stk.map fun v => v.category).sum = mCs m
  | [], [], _ => rfl
  | v :: l, w :: m, h => by
    have ih := mCs_ok h.2
    have hv := h.1
    rw [List.map_cons, List.sum_cons, ih]
    rcases w with x | x | x | x | x | x
    · obtain ⟨-, rfl⟩ := hv; show 1 + mCs m = mCs m + 1; omega
    · have e : v.category = 1 := by rcases hv with ⟨-, rfl⟩ | ⟨-, rfl⟩ | ⟨-, q, rfl⟩ <;> rfl
      rw [e]; show 1 + mCs m = mCs m + 1; omega
    · obtain ⟨-, rfl⟩ := hv; show 1 + mCs m = mCs m + 1; omega
    · obtain ⟨-, rfl⟩ := hv; show 2 + mCs m = mCs m + 2; omega
    · have hv : v = .float x := hv
      rw [hv]; show 1 + mCs m = mCs m + 1; omega
    · have hv : v = .double x := hv
      rw [hv]; show 2 + mCs m = mCs m + 2; omega
  | [], _ :: _, h => h.elim
  | _ :: _, [], h => h.elim
theorem mStk_app {ρ : mRho} : ∀ {a : List Value} {m : List mV} {a2 : List Value} {m2 : List mV}, mStk ρ a m → mStk ρ a2 m2 → mStk ρ (a ++ a2) (m ++ m2)
  | [], [], _, _, _, h2 => h2
  | _ :: _, _ :: _, _, _, h1, h2 => ⟨h1.1, mStk_app h1.2 h2⟩
  | [], _ :: _, _, _, h, _ => h.elim
  | _ :: _, [], _, _, h, _ => h.elim
theorem mStk_rev {ρ : mRho} : ∀ {a : List Value} {m : List mV}, mStk ρ a m → mStk ρ a.reverse m.reverse
  | [], [], _ => trivial
  | v :: l, w :: m, h => by
    rw [List.reverse_cons, List.reverse_cons]
    exact mStk_app (mStk_rev h.2) ⟨h.1, trivial⟩
  | [], _ :: _, h => h.elim
  | _ :: _, [], h => h.elim
theorem mStk_pop0 {ρ : mRho} : ∀ (n : Nat) (acc m as r : List mV) (stk : List Value), mPop n acc m = some (as, r) → mStk ρ stk m → ∃ (vp vr : List Value) (ws : List mV), stk = vp ++ vr ∧ vp.length = n ∧ as = ws.reverse ++ acc ∧ mStk ρ vp ws ∧ mStk ρ vr r
  | 0, acc, m, as, r, stk, h, h2 => by
    cases h
    exact ⟨[], stk, [], rfl, rfl, rfl, trivial, h2⟩
  | n + 1, acc, [], as, r, stk, h, h2 => by cases h
  | n + 1, acc, w :: m, as, r, stk, h, h2 => by
    obtain ⟨v, l, rfl, hv, hl⟩ := mStk_c h2
    obtain ⟨vp, vr, ws, a1, a2, a3, a4, a5⟩ := mStk_pop0 n (w :: acc) m as r l h hl
    refine ⟨v :: vp, vr, w :: ws, by rw [a1]; rfl, by simp [a2], ?_, ⟨hv, a4⟩, a5⟩
    rw [a3]
    simp
theorem mStk_pop {ρ : mRho} {n : Nat} {m as r : List mV} {stk : List Value} (h : mPop n [] m = some (as, r)) (h2 : mStk ρ stk m) : ∃ va vr : List Value, stk = va.reverse ++ vr ∧ va.length = n ∧ mStk ρ va as ∧ mStk ρ vr r := by
  obtain ⟨vp, vr, ws, a1, a2, a3, a4, a5⟩ := mStk_pop0 n [] m as r stk h h2
  refine ⟨vp.reverse, vr, by rw [List.reverse_reverse]; exact a1, by simp [a2], ?_, a5⟩
  rw [a3, List.append_nil]
  exact mStk_rev a4
theorem mRef_ge {v : Value} {a : Int} (h : mRef v a) (h0 : 0 ≤ a) : v = .ref a.toNat := by
  rcases h with ⟨h, -⟩ | ⟨-, h⟩ | ⟨h, -⟩
  · omega
  · exact h
  · omega
theorem mRef_of {a : Int} (h0 : 0 ≤ a) : mRef (.ref a.toNat) a := Or.inr (Or.inl ⟨h0, rfl⟩)
