section LV
variable {S : mH} {e b q : Int} {I0 : mN} {wk : Int} {fl : Int → Int → Int → Int} {F : Nat}
theorem p_levels (he : S.2.1 e = 3) (hq : yRi S q) (hqe : e < q ∨ q + 5 ≤ e) (hb : ∀ j : Int, 0 ≤ j → j < 60 → -1000000 ≤ I0 (q + 4) j ∧ I0 (q + 4) j ≤ 1000000) (hwk : I0 e 1 = wk) (w0 : 0 ≤ wk) (w8 : wk < 8)
    (hfl : ∀ (D : Nat) (p x y i : Int), 0 ≤ x → x ≤ 8 → ∀ Q : mQ, Q (.inl (some (mI (fl p x y)))) (mUp I0 e 2 i) S → mRun (D + 1) 34 [mR e, mR b, mI p, mI x, mI y] (mUp I0 e 2 i) S Q) :
    ∀ (k : Nat) (L : Int), L + k = 8 → 0 ≤ L → (∀ (D f : Nat) (i u j : Int), f ≤ F → zEf (I0 (q + 4)) (I0 q 11) wk fl f 2 k 0 i = some (u, j) → 0 ≤ i → i ≤ 60 → vR (D + 4 * k + 4) 31 S e b q L I0 i u j) ∧ ∀ (D f : Nat) (i u j : Int), f ≤ F → zEf (I0 (q + 4)) (I0 q 11) wk fl f 3 k 0 i = some (u, j) → 0 ≤ i → i ≤ 60 → vR (D + 4 * k + 5) 29 S e b q L I0 i u j
  | 0, L, hL, L0 => by
    have hf : ∀ (D f : Nat) (i u j : Int), f ≤ F → zEf (I0 (q + 4)) (I0 q 11) wk fl f 0 0 0 i = some (u, j) → 0 ≤ i → i ≤ 60 → vR (D + 2) 33 S e b q L I0 i u j := fun D => p_fac (D := D) he hq hqe hb L0 (by omega) hwk w0 w8 (hfl D) (fun h9 => absurd rfl h9)
    have hp : ∀ (D f : Nat) (i u j : Int), f ≤ F → zEf (I0 (q + 4)) (I0 q 11) wk fl f 1 0 0 i = some (u, j) → 0 ≤ i → i ≤ 60 → vR (D + 3) 32 S e b q L I0 i u j := fun D => p_prod (D := D + 1) he hq hqe hb (hf D)
    have hs : ∀ (D f : Nat) (i u j : Int), f ≤ F → zEf (I0 (q + 4)) (I0 q 11) wk fl f 2 0 0 i = some (u, j) → 0 ≤ i → i ≤ 60 → vR (D + 4) 31 S e b q L I0 i u j := fun D => p_sum (D := D + 2) he hq hqe hb (hp D)
    exact ⟨fun D => hs D, fun D => p_expr (D := D + 3) he hq hqe hb L0 (by omega) (hs D) (fun h9 => absurd rfl h9) (fun h9 => absurd rfl h9)⟩
  | k + 1, L, hL, L0 => by
    obtain ⟨is, ie⟩ := p_levels he hq hqe hb hwk w0 w8 hfl k (L + 1) (by omega) (by omega)
    have hf : ∀ (D f : Nat) (i u j : Int), f ≤ F → zEf (I0 (q + 4)) (I0 q 11) wk fl f 0 (k + 1) 0 i = some (u, j) → 0 ≤ i → i ≤ 60 → vR (D + 4 * k + 6) 33 S e b q L I0 i u j := fun D => p_fac (D := D + 4 * k + 4) he hq hqe hb L0 (by omega) hwk w0 w8 (hfl _) (fun _ => ie D)
    have hp : ∀ (D f : Nat) (i u j : Int), f ≤ F → zEf (I0 (q + 4)) (I0 q 11) wk fl f 1 (k + 1) 0 i = some (u, j) → 0 ≤ i → i ≤ 60 → vR (D + 4 * k + 7) 32 S e b q L I0 i u j := fun D => p_prod (D := D + 4 * k + 5) he hq hqe hb (hf D)
    have hs : ∀ (D f : Nat) (i u j : Int), f ≤ F → zEf (I0 (q + 4)) (I0 q 11) wk fl f 2 (k + 1) 0 i = some (u, j) → 0 ≤ i → i ≤ 60 → vR (D + 4 * k + 8) 31 S e b q L I0 i u j := fun D => p_sum (D := D + 4 * k + 6) he hq hqe hb (hp D)
    have e1 : ∀ D : Nat, D + 4 + 4 * k + 4 = D + 4 * k + 8 := fun D => by omega
    have e2 : ∀ D : Nat, D + 3 + 4 * k + 5 = D + 4 * k + 8 := fun D => by omega
    refine ⟨fun D => ?_, fun D => ?_⟩
    · rw [show D + 4 * (k + 1) + 4 = D + 4 * k + 8 by omega]; exact hs D
    · rw [show D + 4 * (k + 1) + 5 = D + 4 * k + 7 + 2 by omega]
      exact p_expr (D := D + 4 * k + 7) he hq hqe hb L0 (by omega) (hs D) (fun _ => by have h9 := is (D + 4); rw [e1] at h9; exact h9) (fun _ => by have h9 := ie (D + 3); rw [e2] at h9; exact h9)
end LV
