/-! A text read as a decree is a decree; places do not hang on values. -/
def xRl (a b : Option (Option Int × Int)) : Prop := ∀ res j, a = some (res, j) → ∃ res', b = some (res', j) ∧ (res' = none ↔ res = none)
theorem xRl_s {x y j : Int} : xRl (some (some x, j)) (some (some y, j)) := fun res j h => by
  cases h
  exact ⟨some y, rfl, ⟨fun q => (by cases q), fun q => (by cases q)⟩⟩
theorem xRl_n {j : Int} : xRl (some (none, j)) (some (none, j)) := fun res j h => by
  cases h
  exact ⟨none, rfl, Iff.rfl⟩
theorem xRl_it {c : Prop} [Decidable c] {a b a' b' : Option (Option Int × Int)} (h1 : xRl a a') (h2 : xRl b b') : xRl (if c then a else b) (if c then a' else b') := by
  by_cases h : c
  · rw [if_pos h, if_pos h]; exact h1
  · rw [if_neg h, if_neg h]; exact h2
theorem xRl_bd {a a' : Option (Option Int × Int)} {g g' : Int → Int → Option (Option Int × Int)} (h1 : xRl a a') (h2 : ∀ x x' l, xRl (g x l) (g' x' l)) : xRl (xBd a g) (xBd a' g') := fun res j h => by
  rcases xBd_c h with ⟨ha, rfl⟩ | ⟨x, l, ha, hg⟩
  · obtain ⟨r', e1, e2⟩ := h1 none j ha
    obtain rfl := e2.mpr rfl
    rw [e1]
    exact ⟨none, rfl, Iff.rfl⟩
  · obtain ⟨r', e1, e2⟩ := h1 (some x) l ha
    match r', e1, e2 with
    | none, e1, e2 => exact absurd (e2.mp rfl) (fun q => by cases q)
    | some x', e1, e2 =>
      rw [e1]
      exact h2 x x' l res j hg
theorem zXf_fl {K V : Int → Int} {wk wk' : Int} {fl fl' : Int → Int → Int → Int} : ∀ (f c k : Nat) (v v' i : Int), xRl (zXf K V wk fl f c k v i) (zXf K V wk' fl' f c k v' i)
  | 0, _, _, _, _, _ => fun _ _ h => by cases h
  | f + 1, c, k, v, v', i => by
    have ih := zXf_fl (K := K) (V := V) (wk := wk) (wk' := wk') (fl := fl) (fl' := fl') f
    rw [zXf, zXf.eq_def K V wk' fl' (f + 1)]
    dsimp only
    repeat first | exact xRl_s | exact xRl_n | exact ih _ _ _ _ _ | refine xRl_it ?_ ?_ | refine xRl_bd ?_ (fun x x' l => ?_)
section ZR2
variable {K V tk : Int → Int} {n wk : Int} {fl : Int → Int → Int → Int}
/-- the kept decree's kinds are the text's -/
theorem zEf_of (n60 : n ≤ 60) (hK : ∀ i : Int, 0 ≤ i → i < n → zSg tk n i = K i) (hV : ∀ i : Int, 0 ≤ i → i < n → K i = 2 → tk i = V i) : ∀ (f c k : Nat) (v i u j : Int), zXf K V wk fl f c k v i = some (some u, j) → 0 ≤ i → j ≤ n → zEf tk n wk fl f c k v i = some (u, j)
  | 0, _, _, _, _, _, _, h, _, _ => by cases h
  | f + 1, c, k, v, i, u, j, h, i0, hj => by
    have ih := zEf_of n60 hK hV f
    have ge := zXf_ge (K := K) (V := V) (wk := wk) (fl := fl) f
    have h3 : ∀ (k : Nat) (v i u j : Int), zXf K V wk fl f 3 k v i = some (some u, j) → i + 1 ≤ j := fun k v i u j q => ge 3 k v i u j q
    have h0 : ∀ (k : Nat) (v i u j : Int), zXf K V wk fl f 0 k v i = some (some u, j) → i + 1 ≤ j := fun k v i u j q => ge 0 k v i u j q
    have h1 : ∀ (k : Nat) (v i u j : Int), zXf K V wk fl f 1 k v i = some (some u, j) → i + 1 ≤ j := fun k v i u j q => ge 1 k v i u j q
    have h2 : ∀ (k : Nat) (v i u j : Int), zXf K V wk fl f 2 k v i = some (some u, j) → i + 1 ≤ j := fun k v i u j q => ge 2 k v i u j q
    have h4 : ∀ (k : Nat) (v i u j : Int), zXf K V wk fl f 4 k v i = some (some u, j) → i + 0 ≤ j := fun k v i u j q => ge 4 k v i u j q
    have h5 : ∀ (k : Nat) (v i u j : Int), zXf K V wk fl f 5 k v i = some (some u, j) → i + 0 ≤ j := fun k v i u j q => ge 5 k v i u j q
    rw [zXf] at h
    rw [zEf]
    by_cases c0 : c = 0
    · rw [if_pos c0] at h ⊢
      by_cases k2 : K i = 2
      · rw [if_pos k2] at h
        split at h <;> cases h
        rw [hK i i0 (by omega), if_pos k2, hV i i0 (by omega) k2]
      · rw [if_neg k2] at h
        by_cases k17 : K i = 17
        · rw [if_pos k17] at h
          split at h <;> cases h
          rw [hK i i0 (by omega), if_neg k2, if_pos k17]
        · rw [if_neg k17] at h
          by_cases kw : 26 ≤ K i ∧ K i ≤ 29
          · rw [if_pos kw] at h
            split at h
            · cases h
            · split at h
              · cases h
              · rename_i a1 a2
                obtain ⟨x, l, ha, hg⟩ := xBd_ok h
                have q1 := h3 _ _ _ _ _ ha
                by_cases k89 : K i = 28 ∨ K i = 29
                · rw [if_pos k89] at hg
                  split at hg
                  · cases hg
                  · rename_i a3
                    obtain ⟨x2, l2, ha2, hg2⟩ := xBd_ok hg
                    have q2 := h3 _ _ _ _ _ ha2
                    split at hg2
                    · cases hg2
                    · rename_i a4
                      cases hg2
                      rw [hK i i0 (by omega), if_neg k2, if_neg k17, if_neg (by omega), if_neg (by omega), hK (i + 1) (by omega) (by omega), if_pos (by omega), ih _ _ _ _ _ _ ha (by omega) (by omega)]
                      simp only [Option.bind_some]
                      rw [hK l (by omega) (by omega), if_neg (by omega), if_neg (by omega), if_pos (by omega), ih _ _ _ _ _ _ ha2 (by omega) (by omega)]
                      simp only [Option.bind_some]
                      rw [hK l2 (by omega) (by omega), if_pos (by omega)]
                · rw [if_neg k89] at hg
                  split at hg
                  · cases hg
                  · rename_i a3
                    cases hg
                    rw [hK i i0 (by omega), if_neg k2, if_neg k17, if_neg (by omega), if_neg (by omega), hK (i + 1) (by omega) (by omega), if_pos (by omega), ih _ _ _ _ _ _ ha (by omega) (by omega)]
                    simp only [Option.bind_some]
                    rw [hK l (by omega) (by omega)]
                    by_cases k26 : K i = 26
                    · rw [if_pos (by omega), if_pos k26]
                    · rw [if_neg (by omega), if_pos (by omega), if_neg k26]
          · rw [if_neg kw] at h
            split at h
            · cases h
            · rename_i a1
              obtain ⟨x, l, ha, hg⟩ := xBd_ok h
              have q1 := h3 _ _ _ _ _ ha
              split at hg
              · cases hg
              · rename_i a3
                cases hg
                rw [hK i i0 (by omega), if_neg k2, if_neg k17, if_neg (by omega), if_pos (by omega), ih _ _ _ _ _ _ ha (by omega) (by omega)]
                simp only [Option.bind_some]
                rw [hK l (by omega) (by omega), if_pos (by omega)]
    · rw [if_neg c0] at h ⊢
      by_cases c1 : c = 1
      · rw [if_pos c1] at h ⊢
        obtain ⟨x, l, ha, hg⟩ := xBd_ok h
        have q1 := h0 _ _ _ _ _ ha
        have q2 := h4 _ _ _ _ _ hg
        rw [ih _ _ _ _ _ _ ha i0 (by omega)]
        simp only [Option.bind_some]
        exact ih _ _ _ _ _ _ hg (by omega) hj
      · rw [if_neg c1] at h ⊢
        have hKn : ∀ i : Int, 0 ≤ i → i ≤ n → ∀ s : Int, s ≠ 0 → K i ≠ s → zSg tk n i ≠ s := fun i q0 q1 s s0 hs => by
          by_cases c : i < n
          · rw [hK i q0 c]; exact hs
          · intro q
            have := zSg_in q s0
            omega
        by_cases c4 : c = 4
        · rw [if_pos c4] at h ⊢
          by_cases ko : K i = 9 ∨ K i = 10
          · rw [if_pos ko] at h
            split at h
            · cases h
            · obtain ⟨x, l, ha, hg⟩ := xBd_ok h
              have q1 := h0 _ _ _ _ _ ha
              have q2 := h4 _ _ _ _ _ hg
              rw [hK i i0 (by omega)]
              by_cases k9 : K i = 9
              · rw [if_pos k9] at hg ⊢
                rw [ih _ _ _ _ _ _ ha (by omega) (by omega)]
                simp only [Option.bind_some]
                exact ih _ _ _ _ _ _ hg (by omega) hj
              · rw [if_neg k9] at hg ⊢
                rw [if_pos (by omega), ih _ _ _ _ _ _ ha (by omega) (by omega)]
                simp only [Option.bind_some]
                exact ih _ _ _ _ _ _ hg (by omega) hj
          · rw [if_neg ko] at h
            cases h
            rw [if_neg (hKn i i0 hj 9 (by decide) (by omega)), if_neg (hKn i i0 hj 10 (by decide) (by omega))]
        · rw [if_neg c4] at h ⊢
          by_cases c2 : c = 2
          · rw [if_pos c2] at h ⊢
            obtain ⟨x, l, ha, hg⟩ := xBd_ok h
            have q1 := h1 _ _ _ _ _ ha
            have q2 := h5 _ _ _ _ _ hg
            rw [ih _ _ _ _ _ _ ha i0 (by omega)]
            simp only [Option.bind_some]
            exact ih _ _ _ _ _ _ hg (by omega) hj
          · rw [if_neg c2] at h ⊢
            by_cases c5 : c = 5
            · rw [if_pos c5] at h ⊢
              by_cases ko : K i = 7 ∨ K i = 8
              · rw [if_pos ko] at h
                split at h
                · cases h
                · obtain ⟨x, l, ha, hg⟩ := xBd_ok h
                  have q1 := h1 _ _ _ _ _ ha
                  have q2 := h5 _ _ _ _ _ hg
                  rw [hK i i0 (by omega)]
                  by_cases k9 : K i = 7
                  · rw [if_pos k9] at hg ⊢
                    rw [ih _ _ _ _ _ _ ha (by omega) (by omega)]
                    simp only [Option.bind_some]
                    exact ih _ _ _ _ _ _ hg (by omega) hj
                  · rw [if_neg k9] at hg ⊢
                    rw [if_pos (by omega), ih _ _ _ _ _ _ ha (by omega) (by omega)]
                    simp only [Option.bind_some]
                    exact ih _ _ _ _ _ _ hg (by omega) hj
              · rw [if_neg ko] at h
                cases h
                rw [if_neg (hKn i i0 hj 7 (by decide) (by omega)), if_neg (hKn i i0 hj 8 (by decide) (by omega))]
            · rw [if_neg c5] at h ⊢
              by_cases k23 : K i = 23
              · rw [if_pos k23] at h
                split at h
                · cases h
                · rename_i a1
                  obtain ⟨x, l, ha, hg⟩ := xBd_ok h
                  have q1 := h2 _ _ _ _ _ ha
                  split at hg
                  · cases hg
                  · rename_i a2
                    obtain ⟨x2, l2, ha2, hg2⟩ := xBd_ok hg
                    have q2 := h2 _ _ _ _ _ ha2
                    split at hg2
                    · cases hg2
                    · rename_i a3
                      obtain ⟨x3, l3, ha3, hg3⟩ := xBd_ok hg2
                      have q3 := h3 _ _ _ _ _ ha3
                      split at hg3
                      · cases hg3
                      · rename_i a4
                        obtain ⟨x4, l4, ha4, hg4⟩ := xBd_ok hg3
                        have q4 := h3 _ _ _ _ _ ha4
                        cases hg4
                        rw [hK i i0 (by omega), if_pos k23, if_neg (by omega), ih _ _ _ _ _ _ ha (by omega) (by omega)]
                        simp only [Option.bind_some]
                        rw [hK l (by omega) (by omega), if_pos (by omega), ih _ _ _ _ _ _ ha2 (by omega) (by omega)]
                        simp only [Option.bind_some]
                        rw [hK l2 (by omega) (by omega), if_pos (by omega), ih _ _ _ _ _ _ ha3 (by omega) (by omega)]
                        simp only [Option.bind_some]
                        rw [hK l3 (by omega) (by omega), if_pos (by omega), ih _ _ _ _ _ _ ha4 (by omega) (by omega)]
                        simp only [Option.bind_some]
              · rw [if_neg k23] at h
                have q1 := h2 _ _ _ _ _ h
                rw [hK i i0 (by omega), if_neg k23]
                exact ih _ _ _ _ _ _ h i0 hj
end ZR2
/-- a reading does not go back -/
def xGe (i : Int) (a : Option (Option Int × Int)) : Prop := ∀ res j, a = some (res, j) → i ≤ j
theorem xGe_s {i j : Int} {r : Option Int} (h : i ≤ j) : xGe i (some (r, j)) := fun res j' q => by
  cases q
  exact h
theorem xGe_it {c : Prop} [Decidable c] {i : Int} {a b : Option (Option Int × Int)} (h1 : xGe i a) (h2 : xGe i b) : xGe i (if c then a else b) := by
  by_cases h : c
  · rw [if_pos h]; exact h1
  · rw [if_neg h]; exact h2
theorem xGe_m {i i' : Int} {a : Option (Option Int × Int)} (h : xGe i' a) (hi : i ≤ i') : xGe i a := fun res j q => by
  have := h res j q
  omega
theorem xGe_bd {i : Int} {a : Option (Option Int × Int)} {g : Int → Int → Option (Option Int × Int)} (h1 : xGe i a) (h2 : ∀ x l, i ≤ l → xGe i (g x l)) : xGe i (xBd a g) := fun res j h => by
  rcases xBd_c h with ⟨ha, rfl⟩ | ⟨x, l, ha, hg⟩
  · exact h1 none j ha
  · exact h2 x l (h1 _ _ ha) res j hg
theorem zXf_gx {K V : Int → Int} {wk : Int} {fl : Int → Int → Int → Int} : ∀ (f c k : Nat) (v i : Int), xGe i (zXf K V wk fl f c k v i)
  | 0, _, _, _, _ => fun _ _ h => by cases h
  | f + 1, c, k, v, i => by
    have ih := zXf_gx (K := K) (V := V) (wk := wk) (fl := fl) f
    rw [zXf]
    repeat first | exact xGe_s (by omega) | exact xGe_m (ih _ _ _ _) (by omega) | refine xGe_it ?_ ?_ | refine xGe_bd (xGe_m (ih _ _ _ _) (by omega)) (fun x l hl => ?_)
theorem zXf_n0 {K V : Int → Int} {wk : Int} {fl : Int → Int → Int → Int} (f c k : Nat) (v i : Int) (res : Option Int) (j : Int) (h : zXf K V wk fl f c k v i = some (res, j)) (i0 : 0 ≤ i) : 0 ≤ j := by
  have := zXf_gx f c k v i res j h
  omega
