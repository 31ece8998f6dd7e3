/-! the heap: what a kind says of a cell; cells that were written -/
theorem mClz_lt {c : Nat} {q : vw_C} (h : mClz[c]? = some q) : c < 12 := (List.getElem?_eq_some_iff.mp h).1
def mFt (d : String) : FieldType := (parseFieldDescriptor d).getD .int
theorem mClz_all : mClz.all (fun q => (List.range q.2.2).all (fun k => decide (parseFieldDescriptor (q.2.1 k).2.2.1 = some (mFt (q.2.1 k).2.2.1)) && (List.range q.2.2).all (fun j => decide (j = k) || decide ((q.2.1 j).2.1 ≠ (q.2.1 k).2.1)))) = true := by decide +kernel
theorem mClz_ty {c : Nat} {q : vw_C} (h : mClz[c]? = some q) : ∀ k, k < q.2.2 → parseFieldDescriptor (q.2.1 k).2.2.1 = some (mFt (q.2.1 k).2.2.1) := by
  intro k hk
  have h1 := List.all_eq_true.mp mClz_all q (List.mem_of_getElem? h)
  have h2 := List.all_eq_true.mp h1 k (List.mem_range.mpr hk)
  rw [Bool.and_eq_true] at h2
  exact of_decide_eq_true h2.1
theorem mClz_nm {c : Nat} {q : vw_C} (h : mClz[c]? = some q) : ∀ a, a < q.2.2 → ∀ b, b < q.2.2 → a ≠ b → (q.2.1 a).2.1 ≠ (q.2.1 b).2.1 := by
  intro a ha b hb hab
  have h1 := List.all_eq_true.mp mClz_all q (List.mem_of_getElem? h)
  have h2 := List.all_eq_true.mp h1 b (List.mem_range.mpr hb)
  rw [Bool.and_eq_true] at h2
  have h3 := List.all_eq_true.mp h2.2 a (List.mem_range.mpr ha)
  rw [Bool.or_eq_true] at h3
  rcases h3 with h3 | h3
  · exact absurd (of_decide_eq_true h3) hab
  · exact of_decide_eq_true h3
theorem mWL_all : (List.range 12).all (fun c => (List.range (mClz.getD c ("", mT8, 0)).2.2).all (fun k => mWL.any (fun e => Nat.beq e.2.1 c && Nat.beq e.2.2 k))) = true := by decide +kernel
theorem mClz_ws {c : Nat} {q : vw_C} (h : mClz[c]? = some q) : ∀ w ∈ u_ws q.1 q.2.1 q.2.2, w ∈ mWl := by
  intro w hw
  obtain ⟨k, hk, rfl⟩ := List.mem_map.mp hw
  have hq : mClz.getD c ("", mT8, 0) = q := by rw [List.getD_eq_getElem?_getD, h]; rfl
  have h1 := List.all_eq_true.mp mWL_all c (List.mem_range.mpr (mClz_lt h))
  have h2 := List.all_eq_true.mp h1 k (by rw [hq]; exact hk)
  obtain ⟨e, he, h3⟩ := List.any_eq_true.mp h2
  rw [Bool.and_eq_true] at h3
  have e1 : e.2.1 = c := Nat.eq_of_beq_eq_true h3.1
  have e2 : e.2.2 = k := Nat.eq_of_beq_eq_true h3.2
  have h4 := mSub_ok _ _ mWL_ok _ (List.mem_map.mpr ⟨e, he, rfl⟩)
  have h5 : u_lay (mCname e.2.1) (mClz.getD e.2.1 ("", mT8, 0)).2.1 e.2.2 ∈ mWl := h4
  rw [e1, e2, hq, ← mClz_name c q h] at h5
  exact h5
section MHP
variable {ρ : mRho} {U : State} {H : Heap} {I : mN} {S : mH} {a : Int}
theorem mHeap_obj (h : mHeap ρ U I S H) {c : Nat} {q : vw_C} (hc : mClz[c]? = some q) (hk : S.2.1 a = (c : Int) + 1) : mCO ρ H I S a ∧ ∃ V : Nat → Value, t_OB a.toNat (ρ.1 c) q.2.2 (ρ.2.1 c) H V ∧ ∀ k, k < q.2.2 → mFld (q.2.1 k).2.2.1 (V k) (I a k) (S.1 a k) := by
  have hl := mClz_lt hc
  rcases h.2.2.2 a with h1 | h1 | ⟨h1, h2, cA, V, h3, h4⟩ | ⟨h1, -⟩
  · omega
  · refine ⟨h1, ?_⟩
    obtain ⟨-, c', q', hc', hk', hV⟩ := h1
    have : c' = c := by omega
    subst this
    cases hc.symm.trans hc'
    exact hV
  · rcases h4 with ⟨h4, -⟩ | ⟨h4, -⟩ | ⟨h4, -⟩ | ⟨h4, -⟩ | ⟨c', q', hc', h4, -⟩
    · omega
    · omega
    · omega
    · omega
    · omega
  · omega
theorem mHeap_arr (h : mHeap ρ U I S H) {k : Int} (hk : S.2.1 a = k) (h1 : 50 ≤ k) (h2 : k < 90) : mCA ρ U H I S a := by
  rcases h.2.2.2 a with z | ⟨-, c', q', hc', hk', -⟩ | z | ⟨z, -⟩
  · omega
  · have := mClz_lt hc'; omega
  · exact z
  · omega
theorem mHeap_scr (h : mHeap ρ U I S H) (hk : S.2.1 a = 90) : mCX ρ U H I S a := by
  rcases h.2.2.2 a with z | ⟨-, c', q', hc', hk', -⟩ | ⟨h1, h2, cA, V, h3, h4⟩ | z
  · omega
  · have := mClz_lt hc'; omega
  · rcases h4 with ⟨h4, -⟩ | ⟨h4, -⟩ | ⟨h4, -⟩ | ⟨h4, -⟩ | ⟨c', q', hc', h4, -⟩
    · omega
    · omega
    · omega
    · omega
    · have := mClz_lt hc'; omega
  · exact z
/-- a cell that was not written -/
theorem mCell_kept {H' : Heap} {I' : mN} {S' : mH} (h : mCell ρ U H I S a) (hq : S.2.1 a ≠ 0 → H'[a.toNat]? = H[a.toNat]?) (hI : I' a = I a) (hR : S'.1 a = S.1 a) (hK : S'.2.1 a = S.2.1 a) (hN : S'.2.2.1 a = S.2.2.1 a) (hb : a = ρ.2.2.2.1 → (0 ≤ a → a.toNat = ρ.2.2.2.1)) : mCell ρ U H' I' S' a := by
  by_cases z : S.2.1 a = 0
  · exact Or.inl (by rw [hK]; exact z)
  have hq := hq z
  rcases h with h | ⟨h1, c, q, h2, h3, V, h4, h5⟩ | ⟨h1, h2, cA, V, h3, h4⟩ | ⟨h1, h2, h3, h4, h5, h6⟩
  · exact absurd h z
  · exact Or.inr (Or.inl ⟨h1, c, q, h2, by rw [hK]; exact h3, V, h4.kept hq, fun k hk => by rw [hI, hR]; exact h5 k hk⟩)
  · refine Or.inr (Or.inr (Or.inl ⟨h1, by rw [hN]; exact h2, cA, V, by rw [hq, hN]; exact h3, ?_⟩))
    rw [hK, hN, hI, hR]
    exact h4
  · refine Or.inr (Or.inr (Or.inr ⟨by rw [hK]; exact h1, h2, by rw [hN]; exact h3, h4, ?_, fun j hj => by rw [hI]; exact h6 j hj⟩))
    refine h5.kept ?_
    have := hb h2 (by omega)
    rw [← this]; exact hq
theorem mHeap_lt (h : mHeap ρ U I S H) (hk : S.2.1 a ≠ 0) : 0 ≤ a ∧ a.toNat < H.size := by
  obtain ⟨-, hlo, hb, hall⟩ := h
  rcases hall a with z | ⟨h1, c, q, h2, h3, V, ⟨cell, h4, -⟩, h5⟩ | ⟨h1, h2, cA, V, h3, h4⟩ | ⟨h1, h2, h3, h4, h5, h6⟩
  · exact absurd z hk
  · exact ⟨h1.1, (Array.getElem?_eq_some_iff.mp h4).1⟩
  · exact ⟨h1.1, (Array.getElem?_eq_some_iff.mp h3).1⟩
  · constructor
    · omega
    · rw [h2]; simp; omega
/-- one cell was written -/
theorem mHeap_put {H' : Heap} {I' : mN} {S' : mH} {x : Int} (h : mHeap ρ U I S H) (hx : 0 ≤ x) (hz : H'.size = H.size) (hq : ∀ q : Nat, q ≠ x.toNat → H'[q]? = H[q]?) (hI : ∀ a, a ≠ x → I' a = I a) (hR : ∀ a, a ≠ x → S'.1 a = S.1 a) (hS : S'.2 = S.2) (hc : mCell ρ U H' I' S' x) : mHeap ρ U I' S' H' := by
  obtain ⟨h1, h2, h3, h4⟩ := id h
  refine ⟨by rw [hS, hz]; exact h1, by rw [hz]; exact h2, h3, fun a => ?_⟩
  by_cases e : a = x
  · rw [e]; exact hc
  · refine mCell_kept (h4 a) (fun hk => hq _ ?_) (hI a e) (hR a e) (by rw [hS]) (by rw [hS]) (fun e _ => by rw [e]; rfl)
    have := mHeap_lt h hk
    omega
end MHP
