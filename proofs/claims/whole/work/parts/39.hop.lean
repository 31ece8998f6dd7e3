/-! A flow that changes in one arc; a way along which water is moved. -/
def zU (f : Int → Int) (a v : Int) : Int → Int := fun c => if c = a then v else f c
theorem zU_eq {f : Int → Int} {a v c : Int} (h : c = a) : zU f a v c = v := by unfold zU; rw [if_pos h]
theorem zU_ne {f : Int → Int} {a v c : Int} (h : c ≠ a) : zU f a v c = f c := by unfold zU; rw [if_neg h]
theorem zEx_U {N : zNet} {f : Int → Int} {a v w : Int} (h0 : 0 ≤ a) (h1 : a < 120) (hl : N.1 a = true) : zEx N (zU f a v) w = zEx N f w + ((if N.2.2.1 a = w then v - f a else 0) - (if N.2.1 a = w then v - f a else 0)) := by
  unfold zEx zIn
  rw [sm_upd (f := fun a => if N.1 a = true then (if N.2.2.1 a = w then f a else 0) - (if N.2.1 a = w then f a else 0) else 0) (k := a) h0 h1 (fun i _ _ hi => by rw [zU_ne hi])]
  dsimp only
  rw [if_pos hl, if_pos hl, zU_eq rfl]
  by_cases c1 : N.2.2.1 a = w
  · by_cases c2 : N.2.1 a = w
    · simp only [if_pos c1, if_pos c2]; omega
    · simp only [if_pos c1, if_neg c2]; omega
  · by_cases c2 : N.2.1 a = w
    · simp only [if_neg c1, if_pos c2]; omega
    · simp only [if_neg c1, if_neg c2]; omega
/-- water can go on from u to v through arc a: there is room, or less could be sent back -/
def zRes (N : zNet) (f : Int → Int) (u v a : Int) : Prop := (0 ≤ a ∧ a < 120) ∧ N.1 a = true ∧ ((N.2.1 a = u ∧ N.2.2.1 a = v ∧ f a < N.2.2.2.1 a) ∨ (N.2.2.1 a = u ∧ N.2.1 a = v ∧ N.2.1 a ≠ u ∧ 0 < f a))
/-- how much can go on so -/
def zLeft (N : zNet) (f : Int → Int) (u a : Int) : Int := if N.2.1 a = u then N.2.2.2.1 a - f a else f a
def zGo (N : zNet) (f : Int → Int) (u a x : Int) : Int → Int := zU f a (if N.2.1 a = u then f a + x else f a - x)
theorem zRes_left {N : zNet} {f : Int → Int} {u v a : Int} (h : zRes N f u v a) : 0 < zLeft N f u a := by
  obtain ⟨-, -, h⟩ := h
  unfold zLeft
  rcases h with ⟨h1, h2, h3⟩ | ⟨h1, h2, h3, h4⟩
  · rw [if_pos h1]; omega
  · rw [if_neg h3]; exact h4
theorem zGo_cap {N : zNet} {f : Int → Int} {u v a x : Int} (hc : zCap N f) (h : zRes N f u v a) (h0 : 0 ≤ x) (h1 : x ≤ zLeft N f u a) : zCap N (zGo N f u a x) := by
  intro c c0 c1 hl
  obtain ⟨g0, g1⟩ := hc c c0 c1 hl
  unfold zGo
  by_cases e : c = a
  · subst e
    rw [zU_eq rfl]
    unfold zLeft at h1
    split
    · rename_i e; rw [if_pos e] at h1; omega
    · rename_i e; rw [if_neg e] at h1; omega
  · rw [zU_ne e]; exact ⟨g0, g1⟩
theorem zGo_ex {N : zNet} {f : Int → Int} {u v a x w : Int} (h : zRes N f u v a) (huv : u ≠ v) : zEx N (zGo N f u a x) w = zEx N f w + ((if v = w then x else 0) - (if u = w then x else 0)) := by
  obtain ⟨⟨a0, a1⟩, hl, h⟩ := h
  unfold zGo
  rw [zEx_U a0 a1 hl]
  rcases h with ⟨h1, h2, h3⟩ | ⟨h1, h2, h3, h4⟩
  · rw [if_pos h1, h1, h2]
    by_cases c1 : v = w
    · by_cases c2 : u = w
      · omega
      · simp only [if_pos c1, if_neg c2]; omega
    · by_cases c2 : u = w
      · simp only [if_neg c1, if_pos c2]; omega
      · simp only [if_neg c1, if_neg c2]
  · rw [if_neg h3, h1, h2]
    by_cases c1 : v = w
    · by_cases c2 : u = w
      · omega
      · simp only [if_pos c1, if_neg c2]; omega
    · by_cases c2 : u = w
      · simp only [if_neg c1, if_pos c2]; omega
      · simp only [if_neg c1, if_neg c2]
/-- hops out of different nodes of a way use different arcs -/
theorem zRes_ne {N : zNet} {f f' : Int → Int} {u v a u' v' a' : Int} (h : zRes N f u v a) (h' : zRes N f' u' v' a') (h1 : u ≠ u') (h2 : u ≠ v' ∨ u' ≠ v) : a ≠ a' := by
  intro e
  subst e
  obtain ⟨-, -, h⟩ := h
  obtain ⟨-, -, h'⟩ := h'
  rcases h with ⟨g1, g2, -⟩ | ⟨g1, g2, -⟩ <;> rcases h' with ⟨k1, k2, -⟩ | ⟨k1, k2, -⟩ <;> omega
