/-! Seniority: who is older, and ranks. -/
abbrev zOld (yr rt : Int → Int) (a b : Int) : Prop := yr a < yr b ∨ (yr a = yr b ∧ (rt a < rt b ∨ (rt a = rt b ∧ a < b)))
def zRank (n : Nat) (yr rt : Int → Int) (r : Int) : Int := sm n (fun o => if zOld yr rt o r then 1 else 0)
theorem zOld_tr {yr rt : Int → Int} {a b c : Int} (h1 : zOld yr rt a b) (h2 : zOld yr rt b c) : zOld yr rt a c := by unfold zOld at *; omega
theorem zOld_ir {yr rt : Int → Int} {a : Int} : ¬ zOld yr rt a a := by unfold zOld; omega
theorem zOld_tot {yr rt : Int → Int} {a b : Int} (h : a ≠ b) : zOld yr rt a b ∨ zOld yr rt b a := by unfold zOld; omega
theorem zRank_lt {n : Nat} {yr rt : Int → Int} {a b : Int} (h0 : 0 ≤ a) (h1 : a < n) (h : zOld yr rt a b) : zRank n yr rt a < zRank n yr rt b := by
  have h2 := sm_upd (n := n) (f := fun o => if zOld yr rt o a then (1 : Int) else 0) (g := fun o => if o = a then 1 else if zOld yr rt o a then 1 else 0) h0 h1 (fun i _ _ hi => if_neg hi)
  try dsimp only at h2
  rw [if_pos rfl, if_neg zOld_ir] at h2
  have h3 : sm n (fun o => if o = a then (1 : Int) else if zOld yr rt o a then 1 else 0) ≤ zRank n yr rt b := by
    refine sm_le (fun i _ _ => ?_)
    show (if i = a then (1 : Int) else if zOld yr rt i a then 1 else 0) ≤ _
    split
    · rename_i e; subst e; rw [if_pos h]; exact Int.le_refl _
    · split
      · rename_i e; rw [if_pos (zOld_tr e h)]; exact Int.le_refl _
      · split <;> omega
  show sm n _ < _
  omega
theorem zRank_iff {n : Nat} {yr rt : Int → Int} {a b : Int} (h0 : 0 ≤ a) (h1 : a < n) (g0 : 0 ≤ b) (g1 : b < n) : zRank n yr rt a < zRank n yr rt b ↔ zOld yr rt a b := by
  constructor
  · intro h
    by_cases e : a = b
    · subst e; omega
    · rcases zOld_tot (yr := yr) (rt := rt) e with h2 | h2
      · exact h2
      · have := zRank_lt g0 g1 h2; omega
  · exact zRank_lt h0 h1
theorem zRank_inj {n : Nat} {yr rt : Int → Int} {a b : Int} (h0 : 0 ≤ a) (h1 : a < n) (g0 : 0 ≤ b) (g1 : b < n) (h : zRank n yr rt a = zRank n yr rt b) : a = b := by
  by_cases e : a = b
  · exact e
  · rcases zOld_tot (yr := yr) (rt := rt) e with h2 | h2
    · have := zRank_lt h0 h1 h2; omega
    · have := zRank_lt g0 g1 h2; omega
theorem zRank_0 {n : Nat} {yr rt : Int → Int} {a : Int} : 0 ≤ zRank n yr rt a := sm_nonneg (fun i _ _ => by show 0 ≤ (if zOld yr rt i a then (1 : Int) else 0); split <;> omega)
theorem sm_const : ∀ (n : Nat), sm n (fun _ => 1) = n
  | 0 => rfl
  | n + 1 => by show sm n (fun _ => 1) + 1 = _; rw [sm_const n]; omega
theorem zRank_n {n : Nat} {yr rt : Int → Int} {a : Int} (h0 : 0 ≤ a) (h1 : a < n) : zRank n yr rt a < n := by
  have h2 := sm_upd (n := n) (f := fun o => if zOld yr rt o a then (1 : Int) else 0) (g := fun o => if o = a then 1 else if zOld yr rt o a then 1 else 0) h0 h1 (fun i _ _ hi => if_neg hi)
  try dsimp only at h2
  rw [if_pos rfl, if_neg zOld_ir] at h2
  have h3 : sm n (fun o => if o = a then (1 : Int) else if zOld yr rt o a then 1 else 0) ≤ sm n (fun _ => 1) := by
    refine sm_le (fun i _ _ => ?_)
    show (if i = a then (1 : Int) else if zOld yr rt i a then 1 else 0) ≤ _
    split
    · exact Int.le_refl _
    · split <;> omega
  rw [sm_const] at h3
  show sm n _ < _
  omega
