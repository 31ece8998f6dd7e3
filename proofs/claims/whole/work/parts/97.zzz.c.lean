/-! Tokens of a text. -/
abbrev bL (b : Int) : Prop := 97 ≤ b ∧ b ≤ 122
abbrev bD (b : Int) : Prop := 48 ≤ b ∧ b ≤ 57
abbrev zStt (tx : Int → Int) (i : Int) : Prop := tx i ≠ 32 ∧ ¬ (0 < i ∧ ((bL (tx i) ∧ bL (tx (i - 1))) ∨ (bD (tx i) ∧ bD (tx (i - 1)))))
def zEnd (tx : Int → Int) (N : Int) : Nat → Int → Int
  | 0, e => e
  | c + 1, e => if e < N ∧ ¬ zStt tx e ∧ tx e ≠ 32 then zEnd tx N c (e + 1) else e
def zSkp (tx : Int → Int) (N : Int) : Nat → Int → Int
  | 0, e => e
  | c + 1, e => if e < N ∧ tx e = 32 then zSkp tx N c (e + 1) else e
def zP (tx : Int → Int) (N : Int) : Nat → Int
  | 0 => zSkp tx N 900 0
  | k + 1 => if zP tx N k < N then zSkp tx N 900 (zEnd tx N 900 (zP tx N k + 1)) else N
def zIs (tx : Int → Int) (s e : Int) (k : Nat) : Prop := e - s = mLen k ∧ ∀ j : Int, 0 ≤ j → j < mLen k → tx (s + j) = mTxt k j
noncomputable def zSgn (tx : Int → Int) (s e : Int) : Nat → Int → Int
  | 0, _ => 1
  | c + 1, q => @ite Int (zIs tx s e (q - 3).toNat) (Classical.propDecidable _) q (zSgn tx s e c (q + 1))
def zVa (tx : Int → Int) (s : Int) : Nat → Int
  | 0 => 0
  | n + 1 => zVa tx s n * 10 + tx (s + (n : Int)) - 48
noncomputable def zKe (tx : Int → Int) (s e : Int) : Int := if bD (tx s) then (if e - s ≤ 4 then 2 else 1) else zSgn tx s e 27 3
def zVe (tx : Int → Int) (s e : Int) : Int := if bD (tx s) ∧ e - s ≤ 4 then zVa tx s (e - s).toNat else 0
noncomputable def zKd (tx : Int → Int) (N s : Int) : Int := if s < N then zKe tx s (zEnd tx N 900 (s + 1)) else 0
def zVl (tx : Int → Int) (N s : Int) : Int := zVe tx s (zEnd tx N 900 (s + 1))
noncomputable def zK (tx : Int → Int) (N k : Int) : Int := zKd tx N (zP tx N k.toNat)
def zV (tx : Int → Int) (N k : Int) : Int := zVl tx N (zP tx N k.toNat)
section ZT
variable {tx : Int → Int} {N : Int}
theorem zEnd_p : ∀ (c : Nat) (e : Int), e ≤ N → N ≤ e + c → (e ≤ zEnd tx N c e ∧ zEnd tx N c e ≤ N) ∧ (∀ j : Int, e ≤ j → j < zEnd tx N c e → ¬ zStt tx j ∧ tx j ≠ 32) ∧ (zEnd tx N c e = N ∨ zStt tx (zEnd tx N c e) ∨ tx (zEnd tx N c e) = 32)
  | 0, e, h0, h1 => by
    have e0 : zEnd tx N 0 e = e := rfl
    rw [e0]
    exact ⟨⟨Int.le_refl _, h0⟩, fun j j0 j1 => by omega, Or.inl (by omega)⟩
  | c + 1, e, h0, h1 => by
    by_cases h : e < N ∧ ¬ zStt tx e ∧ tx e ≠ 32
    · have e0 : zEnd tx N (c + 1) e = zEnd tx N c (e + 1) := if_pos h
      rw [e0]
      obtain ⟨⟨g1, g2⟩, g3, g4⟩ := zEnd_p c (e + 1) (by omega) (by omega)
      refine ⟨⟨by omega, g2⟩, fun j j0 j1 => ?_, g4⟩
      by_cases c1 : j = e
      · rw [c1]; exact h.2
      · exact g3 j (by omega) j1
    · have e0 : zEnd tx N (c + 1) e = e := if_neg h
      rw [e0]
      refine ⟨⟨Int.le_refl _, h0⟩, fun j j0 j1 => by omega, ?_⟩
      by_cases c1 : e < N
      · by_cases c2 : tx e = 32
        · exact Or.inr (Or.inr c2)
        · exact Or.inr (Or.inl (Classical.byContradiction (fun q => h ⟨c1, q, c2⟩)))
      · exact Or.inl (by omega)
theorem zSkp_p : ∀ (c : Nat) (e : Int), e ≤ N → N ≤ e + c → (e ≤ zSkp tx N c e ∧ zSkp tx N c e ≤ N) ∧ (∀ j : Int, e ≤ j → j < zSkp tx N c e → tx j = 32) ∧ (zSkp tx N c e = N ∨ tx (zSkp tx N c e) ≠ 32)
  | 0, e, h0, h1 => by
    have e0 : zSkp tx N 0 e = e := rfl
    rw [e0]
    exact ⟨⟨Int.le_refl _, h0⟩, fun j j0 j1 => by omega, Or.inl (by omega)⟩
  | c + 1, e, h0, h1 => by
    by_cases h : e < N ∧ tx e = 32
    · have e0 : zSkp tx N (c + 1) e = zSkp tx N c (e + 1) := if_pos h
      rw [e0]
      obtain ⟨⟨g1, g2⟩, g3, g4⟩ := zSkp_p c (e + 1) (by omega) (by omega)
      refine ⟨⟨by omega, g2⟩, fun j j0 j1 => ?_, g4⟩
      by_cases c1 : j = e
      · rw [c1]; exact h.2
      · exact g3 j (by omega) j1
    · have e0 : zSkp tx N (c + 1) e = e := if_neg h
      rw [e0]
      refine ⟨⟨Int.le_refl _, h0⟩, fun j j0 j1 => by omega, ?_⟩
      by_cases c1 : e < N
      · exact Or.inr (fun q => h ⟨c1, q⟩)
      · exact Or.inl (by omega)
/-- behind a token, or at the beginning: no token starts ahead of the next one -/
theorem zNo {e r : Int} (h1 : ∀ j : Int, e ≤ j → j < r → tx j = 32) {j : Int} (j0 : e ≤ j) (j1 : j < r) : ¬ zStt tx j := fun q => q.1 (h1 j j0 j1)
theorem zYes {e r : Int} (h0 : 0 ≤ e) (h1 : ∀ j : Int, e ≤ j → j < r → tx j = 32) (he : e ≤ r) (h2 : tx r ≠ 32) (h3 : e = r → zStt tx r) : zStt tx r := by
  by_cases c : e = r
  · exact h3 c
  · have h4 := h1 (r - 1) (by omega) (by omega)
    refine ⟨h2, fun q => ?_⟩
    rcases q.2 with q | q
    · have := q.2; omega
    · have := q.2; omega
theorem zP_b (n0 : 0 ≤ N) (n9 : N ≤ 900) : ∀ k : Nat, 0 ≤ zP tx N k ∧ zP tx N k ≤ N ∧ (zP tx N k < N → zStt tx (zP tx N k) ∧ (k : Int) ≤ zP tx N k)
  | 0 => by
    have e0 : zP tx N 0 = zSkp tx N 900 0 := rfl
    obtain ⟨⟨g1, g2⟩, g3, g4⟩ := zSkp_p (tx := tx) (N := N) 900 0 n0 (by omega)
    rw [e0]
    refine ⟨g1, g2, fun h => ⟨zYes (Int.le_refl 0) g3 g1 (by rcases g4 with q | q; omega; exact q) (fun q => ⟨by rcases g4 with q | q; omega; exact q, fun w => by omega⟩), g1⟩⟩
  | k + 1 => by
    obtain ⟨i1, i2, i3⟩ := zP_b n0 n9 k
    by_cases c : zP tx N k < N
    · have e0 : zP tx N (k + 1) = zSkp tx N 900 (zEnd tx N 900 (zP tx N k + 1)) := if_pos c
      obtain ⟨⟨g1, g2⟩, g3, g4⟩ := zEnd_p (tx := tx) (N := N) 900 (zP tx N k + 1) (by omega) (by omega)
      obtain ⟨⟨f1, f2⟩, f3, f4⟩ := zSkp_p (tx := tx) (N := N) 900 (zEnd tx N 900 (zP tx N k + 1)) g2 (by omega)
      rw [e0]
      refine ⟨by omega, f2, fun h => ⟨?_, by have := (i3 c).2; omega⟩⟩
      have h2 : tx (zSkp tx N 900 (zEnd tx N 900 (zP tx N k + 1))) ≠ 32 := by rcases f4 with q | q; omega; exact q
      refine zYes (by omega) f3 f1 h2 (fun q => ?_)
      rw [← q]
      rw [← q] at h h2
      rcases g4 with w | w | w
      · omega
      · exact w
      · exact absurd w h2
    · have e0 : zP tx N (k + 1) = N := if_neg c
      rw [e0]
      exact ⟨n0, Int.le_refl _, fun h => by omega⟩
theorem zP_s (n0 : 0 ≤ N) (n9 : N ≤ 900) {k : Nat} (h : zP tx N k < N) : (zP tx N k + 1 ≤ zEnd tx N 900 (zP tx N k + 1) ∧ zEnd tx N 900 (zP tx N k + 1) ≤ N) ∧ (zEnd tx N 900 (zP tx N k + 1) ≤ zP tx N (k + 1) ∧ zP tx N (k + 1) ≤ N) ∧ ∀ j : Int, zP tx N k + 1 ≤ j → j < zP tx N (k + 1) → ¬ zStt tx j := by
  obtain ⟨i1, i2, i3⟩ := zP_b (tx := tx) n0 n9 k
  have e0 : zP tx N (k + 1) = zSkp tx N 900 (zEnd tx N 900 (zP tx N k + 1)) := if_pos h
  obtain ⟨⟨g1, g2⟩, g3, g4⟩ := zEnd_p (tx := tx) (N := N) 900 (zP tx N k + 1) (by omega) (by omega)
  obtain ⟨⟨f1, f2⟩, f3, f4⟩ := zSkp_p (tx := tx) (N := N) 900 (zEnd tx N 900 (zP tx N k + 1)) g2 (by omega)
  rw [e0]
  refine ⟨⟨g1, g2⟩, ⟨f1, f2⟩, fun j j0 j1 => ?_⟩
  by_cases c : j < zEnd tx N 900 (zP tx N k + 1)
  · exact (g3 j j0 c).1
  · exact zNo f3 (by omega) j1
theorem zP_0 (n0 : 0 ≤ N) (n9 : N ≤ 900) : ∀ j : Int, 0 ≤ j → j < zP tx N 0 → ¬ zStt tx j := fun j j0 j1 => zNo (zSkp_p (tx := tx) (N := N) 900 0 n0 (by omega)).2.1 j0 j1
theorem zP_N {k : Nat} (h : zP tx N k = N) : ∀ c : Nat, zP tx N (k + c) = N
  | 0 => h
  | c + 1 => by
    have := zP_N h c
    show (if zP tx N (k + c) < N then _ else N) = N
    rw [if_neg (by omega)]
theorem zSgn_b {s e : Int} : ∀ (c : Nat) (q : Int), 3 ≤ q → q + c = 30 → zSgn tx s e c q = 1 ∨ (q ≤ zSgn tx s e c q ∧ zSgn tx s e c q ≤ 29)
  | 0, q, _, _ => Or.inl rfl
  | c + 1, q, h0, h1 => by
    by_cases h : zIs tx s e (q - 3).toNat
    · have e0 : zSgn tx s e (c + 1) q = q := if_pos h
      rw [e0]; exact Or.inr ⟨Int.le_refl _, by omega⟩
    · have e0 : zSgn tx s e (c + 1) q = zSgn tx s e c (q + 1) := if_neg h
      rw [e0]
      rcases zSgn_b c (q + 1) (by omega) (by omega) with w | w
      · exact Or.inl w
      · exact Or.inr ⟨by omega, w.2⟩
/-- texts of signs are different -/
theorem mTx_ne : ∀ i j : Fin 27, i ≠ j → mTxs.getD i.val [] ≠ mTxs.getD j.val [] := by decide +kernel
theorem zIs_u {s e : Int} {i j : Nat} (hi : i < 27) (hj : j < 27) (h1 : zIs tx s e i) (h2 : zIs tx s e j) : i = j := by
  refine Classical.byContradiction (fun hne => ?_)
  refine mTx_ne ⟨i, hi⟩ ⟨j, hj⟩ (fun q => hne (congrArg Fin.val q)) ?_
  show mTx i = mTx j
  have hl : (mTx i).length = (mTx j).length := by
    have a := h1.1
    have b := h2.1
    unfold mLen at a b
    omega
  refine List.ext_getElem? (fun k => ?_)
  by_cases c : k < (mTx i).length
  · have a := h1.2 (k : Int) (by omega) (by unfold mLen; omega)
    have b := h2.2 (k : Int) (by omega) (by unfold mLen; omega)
    rw [a] at b
    unfold mTxt at b
    rw [Int.toNat_natCast, List.getD_eq_getElem?_getD, List.getD_eq_getElem?_getD, List.getElem?_eq_getElem c, List.getElem?_eq_getElem (by omega)] at b
    rw [List.getElem?_eq_getElem c, List.getElem?_eq_getElem (by omega)]
    exact congrArg some b
  · rw [List.getElem?_eq_none (by omega), List.getElem?_eq_none (by omega)]
theorem zSgn_e {s e : Int} : ∀ (c : Nat) (q p : Int), 3 ≤ q → q + c = 30 → q ≤ p → p ≤ 29 → (zSgn tx s e c q = p ↔ zIs tx s e (p - 3).toNat)
  | 0, q, p, h0, h1, p0, p1 => by omega
  | c + 1, q, p, h0, h1, p0, p1 => by
    by_cases h : zIs tx s e (q - 3).toNat
    · have e0 : zSgn tx s e (c + 1) q = q := if_pos h
      rw [e0]
      refine ⟨fun w => by rw [← w]; exact h, fun w => ?_⟩
      have := zIs_u (by omega) (by omega) h w
      omega
    · have e0 : zSgn tx s e (c + 1) q = zSgn tx s e c (q + 1) := if_neg h
      rw [e0]
      by_cases hp : q = p
      · subst hp
        refine ⟨fun w => ?_, fun w => absurd w h⟩
        rcases zSgn_b (tx := tx) (s := s) (e := e) c (q + 1) (by omega) (by omega) with u | u
        · omega
        · omega
      · exact zSgn_e c (q + 1) p (by omega) (by omega) (by omega) p1
/-- the first letter of a sign is no digit -/
theorem mTx_0 : ∀ i : Fin 27, 0 < (mTxs.getD i.val []).length ∧ ¬ (48 ≤ (mTxs.getD i.val []).getD 0 0 ∧ (mTxs.getD i.val []).getD 0 0 ≤ 57) := by decide +kernel
theorem zKe_e {s e p : Int} (p0 : 3 ≤ p) (p1 : p ≤ 29) : zKe tx s e = p ↔ zIs tx s e (p - 3).toNat := by
  unfold zKe
  by_cases h : bD (tx s)
  · rw [if_pos h]
    refine ⟨fun w => ?_, fun w => ?_⟩
    · split at w <;> omega
    · obtain ⟨g1, g2⟩ := mTx_0 ⟨(p - 3).toNat, by omega⟩
      have g3 : 0 < (mTx (p - 3).toNat).length := g1
      have a := w.2 0 (Int.le_refl 0) (by unfold mLen; omega)
      rw [Int.add_zero] at a
      refine absurd ?_ g2
      have b : tx s = (mTxs.getD (p - 3).toNat []).getD 0 0 := a
      rw [← b]; exact h
  · rw [if_neg h]
    exact zSgn_e 27 3 p (Int.le_refl 3) rfl p0 p1
theorem zVa_b {s : Int} : ∀ n : Nat, n ≤ 4 → (∀ j : Int, 0 ≤ j → j < n → bD (tx (s + j))) → 0 ≤ zVa tx s n ∧ zVa tx s n ≤ 9999
  | 0, _, _ => ⟨Int.le_refl 0, (show (0:Int) ≤ 9999 by decide)⟩
  | 1, _, h => by
    have a := h 0 (by decide) (by decide)
    show 0 ≤ 0 * 10 + tx (s + 0) - 48 ∧ _
    have e : zVa tx s 1 = 0 * 10 + tx (s + 0) - 48 := rfl
    omega
  | 2, _, h => by
    have a := h 0 (by decide) (by decide)
    have b := h 1 (by decide) (by decide)
    have e : zVa tx s 2 = (0 * 10 + tx (s + 0) - 48) * 10 + tx (s + 1) - 48 := rfl
    omega
  | 3, _, h => by
    have a := h 0 (by decide) (by decide)
    have b := h 1 (by decide) (by decide)
    have c := h 2 (by decide) (by decide)
    have e : zVa tx s 3 = ((0 * 10 + tx (s + 0) - 48) * 10 + tx (s + 1) - 48) * 10 + tx (s + 2) - 48 := rfl
    omega
  | 4, _, h => by
    have a := h 0 (by decide) (by decide)
    have b := h 1 (by decide) (by decide)
    have c := h 2 (by decide) (by decide)
    have d := h 3 (by decide) (by decide)
    have e : zVa tx s 4 = (((0 * 10 + tx (s + 0) - 48) * 10 + tx (s + 1) - 48) * 10 + tx (s + 2) - 48) * 10 + tx (s + 3) - 48 := rfl
    omega
  | n + 5, hn, _ => by omega
/-- within a token of digits all are digits -/
theorem zDig {s : Int} (hs : bD (tx s)) (s0 : 0 ≤ s) {e : Int} (h : ∀ j : Int, s + 1 ≤ j → j < e → ¬ zStt tx j ∧ tx j ≠ 32) : ∀ n : Nat, s + n < e → bD (tx (s + (n : Int)))
  | 0, _ => by rw [Int.natCast_zero, Int.add_zero]; exact hs
  | n + 1, hn => by
    have i := zDig hs s0 h n (by omega)
    obtain ⟨a, b⟩ := h (s + ((n + 1 : Nat) : Int)) (by omega) hn
    have e1 : s + ((n + 1 : Nat) : Int) - 1 = s + (n : Int) := by omega
    have q : 0 < s + ((n + 1 : Nat) : Int) ∧ ((bL (tx (s + ((n + 1 : Nat) : Int))) ∧ bL (tx (s + ((n + 1 : Nat) : Int) - 1))) ∨ (bD (tx (s + ((n + 1 : Nat) : Int))) ∧ bD (tx (s + ((n + 1 : Nat) : Int) - 1)))) := Classical.byContradiction (fun w => a ⟨b, w⟩)
    rcases q.2 with q | q
    · rw [e1] at q; omega
    · exact q.1
theorem zLet {s : Int} (hs : bL (tx s)) (s0 : 0 ≤ s) {e : Int} (h : ∀ j : Int, s + 1 ≤ j → j < e → ¬ zStt tx j ∧ tx j ≠ 32) : ∀ n : Nat, s + n < e → bL (tx (s + (n : Int)))
  | 0, _ => by rw [Int.natCast_zero, Int.add_zero]; exact hs
  | n + 1, hn => by
    have i := zLet hs s0 h n (by omega)
    obtain ⟨a, b⟩ := h (s + ((n + 1 : Nat) : Int)) (by omega) hn
    have e1 : s + ((n + 1 : Nat) : Int) - 1 = s + (n : Int) := by omega
    have q : 0 < s + ((n + 1 : Nat) : Int) ∧ ((bL (tx (s + ((n + 1 : Nat) : Int))) ∧ bL (tx (s + ((n + 1 : Nat) : Int) - 1))) ∨ (bD (tx (s + ((n + 1 : Nat) : Int))) ∧ bD (tx (s + ((n + 1 : Nat) : Int) - 1)))) := Classical.byContradiction (fun w => a ⟨b, w⟩)
    rcases q.2 with q | q
    · exact q.1
    · rw [e1] at q; omega
theorem zKe_b {s e : Int} : 1 ≤ zKe tx s e ∧ zKe tx s e ≤ 29 := by
  unfold zKe
  by_cases h : bD (tx s)
  · rw [if_pos h]
    split <;> omega
  · rw [if_neg h]
    rcases zSgn_b (tx := tx) (s := s) (e := e) 27 3 (by decide) (by decide) with w | w <;> omega
theorem zKe_2 {s e : Int} : zKe tx s e = 2 ↔ (bD (tx s) ∧ e - s ≤ 4) := by
  unfold zKe
  by_cases h : bD (tx s)
  · rw [if_pos h]
    by_cases c : e - s ≤ 4
    · rw [if_pos c]; exact ⟨fun _ => ⟨h, c⟩, fun _ => rfl⟩
    · rw [if_neg c]; exact ⟨fun w => by omega, fun w => absurd w.2 c⟩
  · rw [if_neg h]
    rcases zSgn_b (tx := tx) (s := s) (e := e) 27 3 (by decide) (by decide) with w | w
    · exact ⟨fun u => by omega, fun u => absurd u.1 h⟩
    · exact ⟨fun u => by omega, fun u => absurd u.1 h⟩
theorem zK_b (n0 : 0 ≤ N) (n9 : N ≤ 900) {k : Int} : 0 ≤ zK tx N k ∧ zK tx N k ≤ 29 ∧ (zK tx N k = 0 ↔ zP tx N k.toNat = N) ∧ (zK tx N k = 2 → 0 ≤ zV tx N k ∧ zV tx N k ≤ 9999) := by
  obtain ⟨i1, i2, i3⟩ := zP_b (tx := tx) n0 n9 k.toNat
  unfold zK zKd
  by_cases c : zP tx N k.toNat < N
  · rw [if_pos c]
    have hb := zKe_b (tx := tx) (s := zP tx N k.toNat) (e := zEnd tx N 900 (zP tx N k.toNat + 1))
    refine ⟨by omega, hb.2, ⟨fun h => by omega, fun h => by omega⟩, fun h => ?_⟩
    obtain ⟨h1, h2⟩ := zKe_2.mp h
    obtain ⟨⟨g1, g2⟩, g3, g4⟩ := zEnd_p (tx := tx) (N := N) 900 (zP tx N k.toNat + 1) (by omega) (by omega)
    unfold zV zVl zVe
    rw [if_pos ⟨h1, h2⟩]
    refine zVa_b _ (by omega) (fun j j0 j1 => ?_)
    have h9 := zDig h1 i1 g3 j.toNat (by omega)
    rw [show ((j.toNat : Nat) : Int) = j by omega] at h9
    exact h9
  · rw [if_neg c]
    exact ⟨Int.le_refl 0, by decide, ⟨fun _ => by omega, fun _ => rfl⟩, fun h => by omega⟩
end ZT
