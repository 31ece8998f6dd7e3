/-! It goes on in the decree, and stays in it. -/
def zBw (ln i : Int) (s : Bool) (a : Option (Int × Int)) : Prop := ∀ r : Int × Int, a = some r → i ≤ r.2 ∧ (r.2 = i ∨ (r.2 ≤ ln ∧ r.2 ≤ 60)) ∧ (s = true → i < r.2)
theorem zBw_ite {ln i : Int} {s : Bool} {c : Prop} [Decidable c] {a b : Option (Int × Int)} (h1 : c → zBw ln i s a) (h2 : ¬ c → zBw ln i s b) : zBw ln i s (if c then a else b) := by
  by_cases h : c
  · rw [if_pos h]; exact h1 h
  · rw [if_neg h]; exact h2 h
theorem zBw_none {ln i : Int} {s : Bool} : zBw ln i s none := fun r h => by cases h
theorem zBw_one {tk : Int → Int} {ln i j x u : Int} {s : Bool} (hs : zSg tk ln j = x) (hx : x ≠ 0) (hi : i ≤ j) : zBw ln i s (some (u, j + 1)) := fun r h => by
  cases h
  have := zSg_in hs hx
  show i ≤ j + 1 ∧ (j + 1 = i ∨ (j + 1 ≤ ln ∧ j + 1 ≤ 60)) ∧ (s = true → i < j + 1)
  exact ⟨by omega, Or.inr (by omega), fun _ => by omega⟩
theorem zBw_bind {ln i j : Int} {s s' t : Bool} {a : Option (Int × Int)} {g : Int × Int → Option (Int × Int)} (h1 : zBw ln j s a) (hj : i ≤ j) (hst : t = true → i < j ∨ s = true ∨ s' = true) (hin : j = i ∨ (j ≤ ln ∧ j ≤ 60)) (h2 : ∀ p, j ≤ p.2 → (p.2 = j ∨ (p.2 ≤ ln ∧ p.2 ≤ 60)) → (s = true → j < p.2) → zBw ln p.2 s' (g p)) : zBw ln i t (a.bind g) := fun r hr => by
  cases a with
  | none => cases hr
  | some p =>
    obtain ⟨g1, g2, g3⟩ := h1 p rfl
    obtain ⟨k1, k2, k3⟩ := h2 p g1 g2 g3 r hr
    refine ⟨by omega, by omega, fun ht => ?_⟩
    rcases hst ht with h9 | h9 | h9
    · omega
    · have := g3 h9; omega
    · have := k3 h9; omega
theorem zEf_bw {tk : Int → Int} {ln wk : Int} {fl : Int → Int → Int → Int} : ∀ (f c k : Nat) (v i : Int), zBw ln i (decide (c ≠ 4 ∧ c ≠ 5)) (zEf tk ln wk fl f c k v i)
  | 0, _, _, _, _ => zBw_none
  | f + 1, c, k, v, i => by
    have ih : ∀ (c k : Nat) (v i : Int), (c = 0 ∨ c = 1 ∨ c = 2 ∨ c = 3) → zBw ln i true (zEf tk ln wk fl f c k v i) := fun c k v i hc => by
      have h := zEf_bw (tk := tk) (ln := ln) (wk := wk) (fl := fl) f c k v i
      rw [decide_eq_true (show c ≠ 4 ∧ c ≠ 5 by omega)] at h
      exact h
    have ih4 : ∀ (c k : Nat) (v i : Int), (c = 4 ∨ c = 5) → zBw ln i false (zEf tk ln wk fl f c k v i) := fun c k v i hc => by
      have h := zEf_bw (tk := tk) (ln := ln) (wk := wk) (fl := fl) f c k v i
      rw [decide_eq_false (show ¬ (c ≠ 4 ∧ c ≠ 5) by omega)] at h
      exact h
    have end5 : ∀ (u j : Int) {s : Bool}, zBw ln j s (if zSg tk ln j = 5 then some (u, j + 1) else none) := fun u j s => zBw_ite (fun h => zBw_one h (by decide) (Int.le_refl _)) (fun _ => zBw_none)
    rw [zEf]
    refine zBw_ite (fun hc => ?_) (fun hc => ?_)
    · refine zBw_ite (fun h => zBw_one h (by decide) (Int.le_refl _)) (fun _ => zBw_ite (fun h => zBw_one h (by decide) (Int.le_refl _)) (fun _ => zBw_ite (fun _ => zBw_none) (fun _ => zBw_ite (fun h4 => ?_) (fun _ => zBw_ite (fun h4 => ?_) (fun _ => zBw_none)))))
      · have := zSg_in h4 (by decide)
        exact zBw_bind (s' := true) (ih 3 _ _ _ (by omega)) (by omega) (fun _ => Or.inl (by omega)) (Or.inr (by omega)) (fun p _ _ _ => end5 _ _)
      · have := zSg_in h4 (by decide)
        refine zBw_bind (s' := true) (ih 3 _ _ _ (by omega)) (by omega) (fun _ => Or.inl (by omega)) (Or.inr (by omega)) (fun p _ _ _ => ?_)
        refine zBw_ite (fun h => zBw_one h.2 (by decide) (Int.le_refl _)) (fun _ => zBw_ite (fun h => zBw_one h.2 (by decide) (Int.le_refl _)) (fun _ => zBw_ite (fun h => ?_) (fun _ => zBw_none)))
        have := zSg_in h.2 (by decide)
        exact zBw_bind (s' := true) (ih 3 _ _ _ (by omega)) (by omega) (fun _ => Or.inl (by omega)) (Or.inr (by omega)) (fun q _ _ _ => end5 _ _)
    · refine zBw_ite (fun h1 => ?_) (fun h1 => ?_)
      · exact zBw_bind (s' := false) (ih 0 _ _ _ (by omega)) (Int.le_refl _) (fun _ => Or.inr (Or.inl rfl)) (Or.inl rfl) (fun p _ _ _ => ih4 4 _ _ _ (by omega))
      · refine zBw_ite (fun h2 => ?_) (fun h2 => ?_)
        · rw [decide_eq_false (show ¬ (c ≠ 4 ∧ c ≠ 5) by omega)]
          refine zBw_ite (fun h => ?_) (fun _ => zBw_ite (fun h => ?_) (fun _ => ?_))
          · have := zSg_in h (by decide)
            exact zBw_bind (s' := false) (ih 0 _ _ _ (by omega)) (by omega) (fun h9 => by cases h9) (Or.inr (by omega)) (fun p _ _ _ => ih4 4 _ _ _ (by omega))
          · have := zSg_in h (by decide)
            exact zBw_bind (s' := false) (ih 0 _ _ _ (by omega)) (by omega) (fun h9 => by cases h9) (Or.inr (by omega)) (fun p _ _ _ => ih4 4 _ _ _ (by omega))
          · intro r hr; cases hr; exact ⟨Int.le_refl _, Or.inl rfl, fun h9 => by cases h9⟩
        · refine zBw_ite (fun h3 => ?_) (fun h3 => ?_)
          · exact zBw_bind (s' := false) (ih 1 _ _ _ (by omega)) (Int.le_refl _) (fun _ => Or.inr (Or.inl rfl)) (Or.inl rfl) (fun p _ _ _ => ih4 5 _ _ _ (by omega))
          · refine zBw_ite (fun h4 => ?_) (fun h4 => ?_)
            · rw [decide_eq_false (show ¬ (c ≠ 4 ∧ c ≠ 5) by omega)]
              refine zBw_ite (fun h => ?_) (fun _ => zBw_ite (fun h => ?_) (fun _ => ?_))
              · have := zSg_in h (by decide)
                exact zBw_bind (s' := false) (ih 1 _ _ _ (by omega)) (by omega) (fun h9 => by cases h9) (Or.inr (by omega)) (fun p _ _ _ => ih4 5 _ _ _ (by omega))
              · have := zSg_in h (by decide)
                exact zBw_bind (s' := false) (ih 1 _ _ _ (by omega)) (by omega) (fun h9 => by cases h9) (Or.inr (by omega)) (fun p _ _ _ => ih4 5 _ _ _ (by omega))
              · intro r hr; cases hr; exact ⟨Int.le_refl _, Or.inl rfl, fun h9 => by cases h9⟩
            · rw [decide_eq_true (show c ≠ 4 ∧ c ≠ 5 by omega)]
              refine zBw_ite (fun h => ?_) (fun _ => ih 2 _ _ _ (by omega))
              have := zSg_in h (by decide)
              refine zBw_ite (fun _ => zBw_none) (fun _ => ?_)
              refine zBw_bind (s' := false) (ih 2 _ _ _ (by omega)) (by omega) (fun _ => Or.inl (by omega)) (Or.inr (by omega)) (fun l _ _ _ => zBw_ite (fun hl => ?_) (fun _ => zBw_none))
              have hl1 : l.2 < ln ∧ l.2 < 60 := by
                rcases hl with h | h | h
                · exact zSg_in h (by decide)
                · exact zSg_in h (by decide)
                · exact zSg_in h (by decide)
              refine zBw_bind (s' := false) (ih 2 _ _ _ (by omega)) (by omega) (fun h9 => by cases h9) (Or.inr (by omega)) (fun r _ _ _ => zBw_ite (fun hr => ?_) (fun _ => zBw_none))
              have hr1 := zSg_in hr (by decide)
              refine zBw_bind (s' := false) (ih 3 _ _ _ (by omega)) (by omega) (fun h9 => by cases h9) (Or.inr (by omega)) (fun y _ _ _ => zBw_ite (fun hy => ?_) (fun _ => zBw_none))
              have hy1 := zSg_in hy (by decide)
              refine zBw_bind (s' := false) (ih 3 _ _ _ (by omega)) (by omega) (fun h9 => by cases h9) (Or.inr (by omega)) (fun z _ _ _ => ?_)
              intro q hq; cases hq; exact ⟨Int.le_refl _, Or.inl rfl, fun h9 => by cases h9⟩
