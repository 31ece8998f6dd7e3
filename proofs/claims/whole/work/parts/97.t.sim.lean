/-! Decrees read by descent, with the place of an error. Kinds as zEf's; at a place from 60 on no token can be kept. -/
def xBd (a : Option (Option Int × Int)) (g : Int → Int → Option (Option Int × Int)) : Option (Option Int × Int) := match a with
  | none => none
  | some (none, j) => some (none, j)
  | some (some x, j) => g x j
def zXf (K V : Int → Int) (wk : Int) (fl : Int → Int → Int → Int) : Nat → Nat → Nat → Int → Int → Option (Option Int × Int)
  | 0, _, _, _, _ => none
  | f + 1, c, k, v, i =>
    if c = 0 then
      (if K i = 2 then (if i < 60 then some (some (V i), i + 1) else some (none, i))
      else if K i = 17 then (if i < 60 then some (some wk, i + 1) else some (none, i))
      else if 26 ≤ K i ∧ K i ≤ 29 then
        (if 60 ≤ i then some (none, i) else if k = 0 ∨ K (i + 1) ≠ 4 ∨ 60 ≤ i + 1 then some (none, i + 1) else
          xBd (zXf K V wk fl f 3 (k - 1) 0 (i + 2)) (fun p j =>
            if K i = 28 ∨ K i = 29 then (if K j ≠ 6 ∨ 60 ≤ j then some (none, j) else xBd (zXf K V wk fl f 3 (k - 1) 0 (j + 1)) (fun q l => if K l ≠ 5 ∨ 60 ≤ l then some (none, l) else some (some (if K i = 28 then (if q < p then q else p) else (if p < q then q else p)), l + 1)))
            else if K j ≠ 5 ∨ 60 ≤ j then some (none, j) else some (some (if K i = 26 then fl p wk wk else fl p 0 7), j + 1)))
      else if k = 0 ∨ K i ≠ 4 ∨ 60 ≤ i then some (none, i) else xBd (zXf K V wk fl f 3 (k - 1) 0 (i + 1)) (fun p j => if K j ≠ 5 ∨ 60 ≤ j then some (none, j) else some (some p, j + 1)))
    else if c = 1 then xBd (zXf K V wk fl f 0 k 0 i) (fun p j => zXf K V wk fl f 4 k p j)
    else if c = 4 then (if K i = 9 ∨ K i = 10 then (if 60 ≤ i then some (none, i) else xBd (zXf K V wk fl f 0 k 0 (i + 1)) (fun p j => zXf K V wk fl f 4 k (if K i = 9 then mWrap (v * p) else if p = 0 then 0 else mWrap (v.tdiv p)) j)) else some (some v, i))
    else if c = 2 then xBd (zXf K V wk fl f 1 k 0 i) (fun p j => zXf K V wk fl f 5 k p j)
    else if c = 5 then (if K i = 7 ∨ K i = 8 then (if 60 ≤ i then some (none, i) else xBd (zXf K V wk fl f 1 k 0 (i + 1)) (fun p j => zXf K V wk fl f 5 k (if K i = 7 then mWrap (v + p) else mWrap (v - p)) j)) else some (some v, i))
    else if K i = 23 then (if k = 0 ∨ 60 ≤ i then some (none, i) else xBd (zXf K V wk fl f 2 (k - 1) 0 (i + 1)) (fun l j =>
      if (K j ≠ 11 ∧ K j ≠ 12 ∧ K j ≠ 13) ∨ 60 ≤ j then some (none, j) else xBd (zXf K V wk fl f 2 (k - 1) 0 (j + 1)) (fun r j2 =>
        if K j2 ≠ 24 ∨ 60 ≤ j2 then some (none, j2) else xBd (zXf K V wk fl f 3 (k - 1) 0 (j2 + 1)) (fun y j3 =>
          if K j3 ≠ 25 ∨ 60 ≤ j3 then some (none, j3) else xBd (zXf K V wk fl f 3 (k - 1) 0 (j3 + 1)) (fun z j4 => some (some (if zHo l (K j) r = 1 then y else z), j4))))))
    else zXf K V wk fl f 2 k 0 i
abbrev inR (x : Int) : Prop := -2147483648 ≤ x ∧ x ≤ 2147483647
theorem wr_in (x : Int) : inR (mWrap x) := by
  unfold inR mWrap
  rw [Int.bmod_def]
  split <;> omega
theorem xBd_ok {a : Option (Option Int × Int)} {g : Int → Int → Option (Option Int × Int)} {u j : Int} (h : xBd a g = some (some u, j)) : ∃ x i, a = some (some x, i) ∧ g x i = some (some u, j) := by
  match a, h with
  | some (some x, i), h => exact ⟨x, i, rfl, h⟩
theorem xBd_no {a : Option (Option Int × Int)} {g : Int → Int → Option (Option Int × Int)} {j : Int} (h : xBd a g = some (none, j)) : a = some (none, j) ∨ ∃ x i, a = some (some x, i) ∧ g x i = some (none, j) := by
  match a, h with
  | some (some x, i), h => exact Or.inr ⟨x, i, rfl, h⟩
  | some (none, i), h => exact Or.inl h
section RG
variable {K V : Int → Int} {wk : Int} {fl : Int → Int → Int → Int}
/-- all values are whole numbers of 32 bits -/
theorem xRg (hV : ∀ j, K j = 2 → inR (V j)) (hw : inR wk) (hf : ∀ p x y, inR (fl p x y)) : ∀ (f c k : Nat) (v i u j : Int), zXf K V wk fl f c k v i = some (some u, j) → inR v → inR u
  | 0, _, _, _, _, _, _, h, _ => by cases h
  | f + 1, c, k, v, i, u, j, h, hv => by
    have ih := xRg hV hw hf f
    have z0 : inR 0 := by decide
    rw [zXf] at h
    by_cases c0 : c = 0
    · rw [if_pos c0] at h
      by_cases k2 : K i = 2
      · rw [if_pos k2] at h
        by_cases hi : i < 60
        · rw [if_pos hi] at h; cases h; exact hV i k2
        · rw [if_neg hi] at h; cases h
      · rw [if_neg k2] at h
        by_cases k17 : K i = 17
        · rw [if_pos k17] at h
          by_cases hi : i < 60
          · rw [if_pos hi] at h; cases h; exact hw
          · rw [if_neg hi] at h; cases h
        · rw [if_neg k17] at h
          by_cases kw : 26 ≤ K i ∧ K i ≤ 29
          · rw [if_pos kw] at h
            by_cases a1 : 60 ≤ i
            · rw [if_pos a1] at h; cases h
            · rw [if_neg a1] at h
              by_cases a2 : k = 0 ∨ K (i + 1) ≠ 4 ∨ 60 ≤ i + 1
              · rw [if_pos a2] at h; cases h
              · rw [if_neg a2] at h
                obtain ⟨p, l, h1, h⟩ := xBd_ok h
                have hp := ih _ _ _ _ _ _ h1 z0
                by_cases a3 : K i = 28 ∨ K i = 29
                · rw [if_pos a3] at h
                  by_cases a4 : K l ≠ 6 ∨ 60 ≤ l
                  · rw [if_pos a4] at h; cases h
                  · rw [if_neg a4] at h
                    obtain ⟨q, l2, h2, h⟩ := xBd_ok h
                    have hq := ih _ _ _ _ _ _ h2 z0
                    by_cases a5 : K l2 ≠ 5 ∨ 60 ≤ l2
                    · rw [if_pos a5] at h; cases h
                    · rw [if_neg a5] at h
                      cases h
                      split <;> split <;> assumption
                · rw [if_neg a3] at h
                  by_cases a4 : K l ≠ 5 ∨ 60 ≤ l
                  · rw [if_pos a4] at h; cases h
                  · rw [if_neg a4] at h
                    cases h
                    split <;> exact hf _ _ _
          · rw [if_neg kw] at h
            by_cases a2 : k = 0 ∨ K i ≠ 4 ∨ 60 ≤ i
            · rw [if_pos a2] at h; cases h
            · rw [if_neg a2] at h
              obtain ⟨p, l, h1, h⟩ := xBd_ok h
              have hp := ih _ _ _ _ _ _ h1 z0
              by_cases a4 : K l ≠ 5 ∨ 60 ≤ l
              · rw [if_pos a4] at h; cases h
              · rw [if_neg a4] at h
                cases h
                exact hp
    · rw [if_neg c0] at h
      by_cases c1 : c = 1
      · rw [if_pos c1] at h
        obtain ⟨p, l, h1, h⟩ := xBd_ok h
        exact ih _ _ _ _ _ _ h (ih _ _ _ _ _ _ h1 z0)
      · rw [if_neg c1] at h
        by_cases c4 : c = 4
        · rw [if_pos c4] at h
          by_cases ko : K i = 9 ∨ K i = 10
          · rw [if_pos ko] at h
            by_cases a1 : 60 ≤ i
            · rw [if_pos a1] at h; cases h
            · rw [if_neg a1] at h
              obtain ⟨p, l, h1, h⟩ := xBd_ok h
              refine ih _ _ _ _ _ _ h ?_
              split
              · exact wr_in _
              · split
                · exact z0
                · exact wr_in _
          · rw [if_neg ko] at h; cases h; exact hv
        · rw [if_neg c4] at h
          by_cases c2 : c = 2
          · rw [if_pos c2] at h
            obtain ⟨p, l, h1, h⟩ := xBd_ok h
            exact ih _ _ _ _ _ _ h (ih _ _ _ _ _ _ h1 z0)
          · rw [if_neg c2] at h
            by_cases c5 : c = 5
            · rw [if_pos c5] at h
              by_cases ko : K i = 7 ∨ K i = 8
              · rw [if_pos ko] at h
                by_cases a1 : 60 ≤ i
                · rw [if_pos a1] at h; cases h
                · rw [if_neg a1] at h
                  obtain ⟨p, l, h1, h⟩ := xBd_ok h
                  refine ih _ _ _ _ _ _ h ?_
                  split <;> exact wr_in _
              · rw [if_neg ko] at h; cases h; exact hv
            · rw [if_neg c5] at h
              by_cases k23 : K i = 23
              · rw [if_pos k23] at h
                by_cases a1 : k = 0 ∨ 60 ≤ i
                · rw [if_pos a1] at h; cases h
                · rw [if_neg a1] at h
                  obtain ⟨l, j1, h1, h⟩ := xBd_ok h
                  by_cases a2 : (K j1 ≠ 11 ∧ K j1 ≠ 12 ∧ K j1 ≠ 13) ∨ 60 ≤ j1
                  · rw [if_pos a2] at h; cases h
                  · rw [if_neg a2] at h
                    obtain ⟨r, j2, h2, h⟩ := xBd_ok h
                    by_cases a3 : K j2 ≠ 24 ∨ 60 ≤ j2
                    · rw [if_pos a3] at h; cases h
                    · rw [if_neg a3] at h
                      obtain ⟨y, j3, h3, h⟩ := xBd_ok h
                      by_cases a4 : K j3 ≠ 25 ∨ 60 ≤ j3
                      · rw [if_pos a4] at h; cases h
                      · rw [if_neg a4] at h
                        obtain ⟨z, j4, h4, h⟩ := xBd_ok h
                        cases h
                        split
                        · exact ih _ _ _ _ _ _ h3 z0
                        · exact ih _ _ _ _ _ _ h4 z0
              · rw [if_neg k23] at h
                exact ih _ _ _ _ _ _ h z0
end RG
/-! The automaton does what the descent does. -/
def mTk (K V : Int → Int) (j : Int) : Int := if K j = 2 then V j else if K j = 17 then 10013 else if 4 ≤ K j ∧ K j ≤ 13 then 9996 + K j else if 23 ≤ K j ∧ K j ≤ 25 then 9987 + K j else if 26 ≤ K j ∧ K j ≤ 29 then 9988 + K j else -1
/-- only the automaton's own cells -/
def aKp (I J : mN) (m : Int) : Prop := (∀ a : Int, a ≠ m → (a < m + 33 ∨ m + 39 < a) → J a = I a) ∧ ∀ k : Int, (k < 48 ∨ 51 < k) → J m k = I m k
theorem aKp_r (I : mN) (m : Int) : aKp I I m := ⟨fun _ _ _ => rfl, fun _ _ => rfl⟩
theorem aKp_t {I J L : mN} {m : Int} (h : aKp I J m) (h' : aKp J L m) : aKp I L m := ⟨fun a a1 a2 => (h'.1 a a1 a2).trans (h.1 a a1 a2), fun k hk => (h'.2 k hk).trans (h.2 k hk)⟩
/-- the automaton's own cells of one memory beside another's -/
def aMg (A I : mN) (m : Int) : mN := fun a => if a = m then (fun k => if 48 ≤ k ∧ k ≤ 51 then I m k else A m k) else if m + 33 ≤ a ∧ a ≤ m + 39 then I a else A a
def aCo (S : mH) (A I : mN) (m : Int) : Prop := A m 46 = I m 46 ∧ A m 47 = I m 47 ∧ A (S.1 m 45) = I (S.1 m 45)
theorem aMg_kp (A I J : mN) (m : Int) : aKp (aMg A I m) (aMg A J m) m := by
  refine ⟨fun a a1 a2 => ?_, fun k hk => ?_⟩
  · unfold aMg
    rw [if_neg a1, if_neg a1, if_neg (by omega), if_neg (by omega)]
  · unfold aMg
    rw [if_pos rfl, if_pos rfl]
    rw [if_neg (by omega), if_neg (by omega)]
theorem aMg_k {I J : mN} {m : Int} (h : aKp I J m) : aMg I J m = J := by
  refine funext (fun a => ?_)
  unfold aMg
  by_cases c : a = m
  · rw [if_pos c]
    refine funext (fun k => ?_)
    by_cases c2 : 48 ≤ k ∧ k ≤ 51
    · rw [if_pos c2, c]
    · rw [if_neg c2, c]; exact (h.2 k (by omega)).symm
  · rw [if_neg c]
    by_cases c2 : m + 33 ≤ a ∧ a ≤ m + 39
    · rw [if_pos c2]
    · rw [if_neg c2]; exact (h.1 a c (by omega)).symm
theorem aMg_r (I : mN) (m : Int) : aMg I I m = I := aMg_k (aKp_r I m)
def aSt (S : mH) (m : Int) (I : mN) (t : Int) (J : mN) : Prop := (∀ A : mN, aCo S A I m → ∀ (D : Nat) (Q : mQ), mRun (D + 7) 305 [mR m, mI t] (aMg A I m) S Q = Q (.inl (some (mI 1))) (aMg A J m) S) ∧ aKp I J m
theorem aSt_run {S : mH} {m : Int} {I J : mN} {t : Int} (h : aSt S m I t J) (D : Nat) (Q : mQ) : mRun (D + 7) 305 [mR m, mI t] I S Q = Q (.inl (some (mI 1))) J S := by
  have h9 := h.1 I ⟨rfl, rfl, rfl⟩ D Q
  rw [aMg_r, aMg_k h.2] at h9
  exact h9
def aSs (S : mH) (m : Int) (T : Int → Int) : Nat → mN → Int → mN → Prop
  | 0, I, _, J => J = I
  | n + 1, I, i, J => i < 60 ∧ T i ≠ -1 ∧ ∃ I1 : mN, aSt S m I (T i) I1 ∧ aSs S m T n I1 (i + 1) J
theorem aSs_1 {S : mH} {m : Int} {T : Int → Int} {I J : mN} {i : Int} (h : aSt S m I (T i) J) (hi : i < 60) (ht : T i ≠ -1) : aSs S m T 1 I i J := ⟨hi, ht, J, h, rfl⟩
theorem aSs_t {S : mH} {m : Int} {T : Int → Int} : ∀ {n n' : Nat} {I J L : mN} {i : Int}, aSs S m T n I i J → aSs S m T n' J (i + n) L → aSs S m T (n + n') I i L
  | 0, n', I, J, L, i, h, h' => by
    obtain rfl : J = I := h
    rw [show i + ((0 : Nat) : Int) = i by omega] at h'
    rw [Nat.zero_add]; exact h'
  | n + 1, n', I, J, L, i, ⟨h1, h2, I1, h3, h4⟩, h' => by
    rw [show n + 1 + n' = (n + n') + 1 by omega]
    refine ⟨h1, h2, I1, h3, aSs_t h4 ?_⟩
    rw [show i + 1 + (n : Int) = i + ((n + 1 : Nat) : Int) by omega]; exact h'
theorem aSs_k {S : mH} {m : Int} {T : Int → Int} : ∀ {n : Nat} {I J : mN} {i : Int}, aSs S m T n I i J → aKp I J m
  | 0, I, J, i, h => by
    obtain rfl : J = I := h
    exact aKp_r J m
  | n + 1, I, J, i, ⟨_, _, I1, h3, h4⟩ => aKp_t h3.2 (aSs_k h4)
def aE0 (S : mH) (m : Int) (J : mN) : Prop := ∃ L : mN, (∀ (D : Nat) (Q : mQ), mRun (D + 3) 311 [mR m] J S Q = Q (.inl (some (mI 0))) L S) ∧ aKp J L m
/-- here the reading ends in vain -/
def oX1 (S : mH) (m : Int) (T : Int → Int) (J : mN) (j : Int) : Prop := (T j = -1 → aE0 S m J) ∧ (T j ≠ -1 → (60 ≤ j ∧ ∃ L : mN, (∀ (D : Nat) (Q : mQ), mRun (D + 7) 305 [mR m, mI (T j)] J S Q = Q (.inl (some (mI 1))) L S) ∧ aKp J L m) ∨ ∃ L : mN, (∀ (D : Nat) (Q : mQ), mRun (D + 7) 305 [mR m, mI (T j)] J S Q = Q (.inl (some (mI 0))) L S) ∧ aKp J L m ∧ aE0 S m L)
def oX (S : mH) (m : Int) (T : Int → Int) (J : mN) (j : Int) : Prop := ∀ A : mN, aCo S A J m → oX1 S m T (aMg A J m) j
theorem oX_o {S : mH} {m : Int} {T : Int → Int} {J L : mN} {j : Int} (h1 : T j = -1 → False) (h6 : 60 ≤ j) (h : aSt S m J (T j) L) : oX S m T J j := fun A hA => ⟨fun q => (h1 q).elim, fun _ => Or.inl ⟨h6, aMg A L m, h.1 A hA, aMg_kp A J L m⟩⟩
def aLo (I J : mN) (m d : Int) : Prop := ∀ j : Int, 0 ≤ j → j < d → J (m + 33) j = I (m + 33) j ∧ J (m + 34) j = I (m + 34) j ∧ J (m + 35) j = I (m + 35) j ∧ J (m + 36) j = I (m + 36) j ∧ J (m + 37) j = I (m + 37) j ∧ J (m + 38) j = I (m + 38) j ∧ J (m + 39) j = I (m + 39) j
theorem aLo_r (I : mN) (m d : Int) : aLo I I m d := fun _ _ _ => ⟨rfl, rfl, rfl, rfl, rfl, rfl, rfl⟩
theorem aLo_t {I J L : mN} {m d : Int} (h : aLo I J m d) (h' : aLo J L m d) : aLo I L m d := fun j j0 j1 => by
  obtain ⟨a1, a2, a3, a4, a5, a6, a7⟩ := h j j0 j1
  obtain ⟨b1, b2, b3, b4, b5, b6, b7⟩ := h' j j0 j1
  exact ⟨b1.trans a1, b2.trans a2, b3.trans a3, b4.trans a4, b5.trans a5, b6.trans a6, b7.trans a7⟩
theorem aLo_d {I J : mN} {m d d' : Int} (h : aLo I J m d) (hd : d' ≤ d) : aLo I J m d' := fun j j0 j1 => h j j0 (by omega)
def aL3 (I J : mN) (m d : Int) : Prop := J (m + 33) d = I (m + 33) d ∧ J (m + 37) d = I (m + 37) d ∧ J (m + 38) d = I (m + 38) d
theorem aL3_t {I J L : mN} {m d : Int} (h : aL3 I J m d) (h' : aL3 J L m d) : aL3 I L m d := ⟨h'.1.trans h.1, h'.2.1.trans h.2.1, h'.2.2.trans h.2.2⟩
def oF (I J : mN) (m d u : Int) : Prop := J m 48 = d ∧ J m 49 = 3 ∧ aLo I J m d ∧ aL3 I J m d ∧ J (m + 34) d = I (m + 34) d ∧ J (m + 39) d = I (m + 39) d ∧ J (m + 36) d = I (m + 36) d ∧ J (m + 35) d = aFac I m d u
def oP (I J : mN) (m d u : Int) : Prop := J m 48 = d ∧ J m 49 = 3 ∧ aLo I J m d ∧ aL3 I J m d ∧ J (m + 34) d = I (m + 34) d ∧ J (m + 39) d = I (m + 39) d ∧ J (m + 35) d = u
def oS (I J : mN) (m d u : Int) : Prop := J m 48 = d ∧ J m 49 = 3 ∧ aLo I J m d ∧ aL3 I J m d ∧ aSum J m d = u
def oE (I J : mN) (m d u : Int) : Prop := J m 49 = 3 ∧ J m 48 ≤ 8 ∧ aLo I J m d ∧ aL3 I J m d ∧ ∃ n : Nat, aPp (J (m + 33)) (J (m + 38)) (J (m + 37)) n (J m 48) (aSum J m (J m 48)) d u
/-- what is asked ahead of a reading, and what holds behind it -/
def aPre (K : Int → Int) (c : Nat) (I : mN) (m d v i : Int) : Prop := I m 48 = d ∧ (if c = 0 then (I m 49 = 1 ∨ (I m 49 = 0 ∧ K i ≠ 23)) else if c = 1 then (I m 49 = 1 ∨ (I m 49 = 0 ∧ K i ≠ 23)) ∧ I (m + 36) d = -1 else if c = 4 then I m 49 = 3 ∧ I (m + 35) d = v else if c = 2 then (I m 49 = 1 ∨ (I m 49 = 0 ∧ K i ≠ 23)) ∧ I (m + 36) d = -1 ∧ I (m + 34) d = 0 ∧ I (m + 39) d = 0 else if c = 5 then I m 49 = 3 ∧ aSum I m d = v ∧ K i ≠ 9 ∧ K i ≠ 10 else I m 49 = 0 ∧ I (m + 36) d = -1 ∧ I (m + 34) d = 0 ∧ I (m + 39) d = 0)
def aOk (K : Int → Int) (c : Nat) (I J : mN) (m d u j : Int) : Prop := if c = 0 then oF I J m d u else if c = 1 ∨ c = 4 then oP I J m d u ∧ K j ≠ 9 ∧ K j ≠ 10 else if c = 2 ∨ c = 5 then oS I J m d u ∧ K j ≠ 7 ∧ K j ≠ 8 ∧ K j ≠ 9 ∧ K j ≠ 10 else oE I J m d u ∧ K j ≠ 7 ∧ K j ≠ 8 ∧ K j ≠ 9 ∧ K j ≠ 10
