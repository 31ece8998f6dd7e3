/-! It goes on in the decree, and stays in it. -/
def zBw (ln i : Int) (s : Bool) (a : Option (Int × Int)) : Prop := ∀ r : Int × Int, a = some r → i ≤ r.2 ∧ (r.2 = i ∨ (r.2 ≤ ln ∧ r.2 ≤ 60)) ∧ (s = true → i < r.2)
theorem zBw_ite {ln i : Int} {s : Bool} {c : Prop} [Decidable c] {a b : Option (Int × Int)} (h1 : c → zBw ln i s a) (h2 : ¬ c → zBw ln i s b) : zBw ln i s (if c then a else b) := by
  by_cases h : c
  · rw [if_pos h]; exact h1 h
  · rw [if_neg h]; exact h2 h
theorem zBw_none {ln i : Int} {s : Bool} : zBw ln i s none := fun r h => by cases h
theorem zBw_one {tk : Int → Int} {ln i j x u : Int} {s : Bool} (hs : zSg tk ln j = x) (hx : x ≠ 0) (hi : i ≤ j) : zBw ln i s (some (u, j + 1)) := fun r h => by
  cases h
  have := zSg_in hs hx
  show i ≤ j + 1 ∧ (j + 1 = i ∨ (j + 1 ≤ ln ∧ j + 1 ≤ 60)) ∧ (s = true → i < j + 1)
  exact ⟨by omega, Or.inr (by omega), fun _ => by omega⟩
theorem zBw_bind {ln i j : Int} {s s' t : Bool} {a : Option (Int × Int)} {g : Int × Int → Option (Int × Int)} (h1 : zBw ln j s a) (hj : i ≤ j) (hst : t = true → i < j ∨ s = true ∨ s' = true) (hin : j = i ∨ (j ≤ ln ∧ j ≤ 60)) (h2 : ∀ p, j ≤ p.2 → (p.2 = j ∨ (p.2 ≤ ln ∧ p.2 ≤ 60)) → (s = true → j < p.2) → zBw ln p.2 s' (g p)) : zBw ln i t (a.bind g) := fun r hr => by
  cases a with
  | none => cases hr
  | some p =>
    obtain ⟨g1, g2, g3⟩ := h1 p rfl
    obtain ⟨k1, k2, k3⟩ := h2 p g1 g2 g3 r hr
    refine ⟨by omega, by omega, fun ht => ?_⟩
    rcases hst ht with h9 | h9 | h9
    · omega
    · have := g3 h9; omega
    · have := k3 h9; omega
