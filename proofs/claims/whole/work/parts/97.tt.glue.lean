/-! The automaton's steps beside any other cells. -/
section GL
variable {S : mH} {I A : mN} {m : Int} {σ : sT} (D : Nat)
theorem aMg_c {a : Int} (h : m + 33 ≤ a ∧ a ≤ m + 39) : aMg A I m a = I a := by
  unfold aMg
  rw [if_neg (by omega), if_pos h]
theorem aMg_f {k : Int} (h : 48 ≤ k ∧ k ≤ 51) : aMg A I m m k = I m k := by
  unfold aMg
  rw [if_pos rfl]
  exact if_pos h
theorem aMg_47 (hA : aCo S A I m) : aMg A I m m 47 = I m 47 := by
  unfold aMg
  rw [if_pos rfl]
  exact hA.2.1
theorem aMg_46 (hA : aCo S A I m) : aMg A I m m 46 = I m 46 := by
  unfold aMg
  rw [if_pos rfl]
  exact hA.1
theorem aMg_u {a x v : Int} (h : m + 33 ≤ a ∧ a ≤ m + 39) : mUp (aMg A I m) a x v = aMg A (mUp I a x v) m := by
  refine funext (fun b => ?_)
  by_cases c : b = a
  · refine funext (fun j => ?_)
    subst c
    rw [aMg_c h]
    by_cases c2 : j = x
    · rw [up_eq rfl c2, up_eq rfl c2]
    · rw [up_nk c2, up_nk c2, aMg_c h]
  · rw [up_fa c]
    unfold aMg
    by_cases c1 : b = m
    · rw [if_pos c1, if_pos c1, up_fa (show m ≠ a by omega)]
    · rw [if_neg c1, if_neg c1, up_fa c]
theorem aMg_m {k v : Int} (h : 48 ≤ k ∧ k ≤ 51) : mUp (aMg A I m) m k v = aMg A (mUp I m k v) m := by
  refine funext (fun b => ?_)
  by_cases c : b = m
  · refine funext (fun j => ?_)
    subst c
    by_cases c2 : j = k
    · rw [up_eq rfl c2]
      subst c2
      rw [aMg_f h, up_eq rfl rfl]
    · rw [up_nk c2]
      unfold aMg
      rw [if_pos rfl, if_pos rfl]
      rw [up_nk c2]
  · rw [up_fa c]
    unfold aMg
    rw [if_neg c, if_neg c, up_fa c]
theorem aSum_g {d : Int} : aSum (aMg A I m) m d = aSum I m d := by
  unfold aSum
  rw [aMg_c (by omega), aMg_c (by omega), aMg_c (by omega)]
theorem aHo_g {d u : Int} : aHo (aMg A I m) m d u = aHo I m d u := by
  unfold aHo
  rw [aMg_c (by omega), aMg_c (by omega)]
theorem aFac_g {d v : Int} : aFac (aMg A I m) m d v = aFac I m d v := by
  unfold aFac
  rw [aMg_c (by omega), aMg_c (by omega)]
theorem aBg_g {d nx : Int} : aBg (aMg A I m) m d nx = aMg A (aBg I m d nx) m := by
  unfold aBg
  rw [aMg_u (by omega), aMg_u (by omega), aMg_u (by omega), aMg_m (by omega)]
theorem aHf_g {d v : Int} : aHf (aMg A I m) m d v = aMg A (aHf I m d v) m := by
  unfold aHf
  rw [aFac_g, aMg_u (by omega), aMg_m (by omega)]
theorem aOp_g {kd nx : Int} : aOp (aMg A I m) m kd nx = aMg A (aOp I m kd nx) m := by
  unfold aOp
  rw [aMg_f (by omega), aMg_m (by omega), aMg_u (by omega), aBg_g]
theorem aCl_g {d u : Int} : aCl (aMg A I m) m d u = aMg A (aCl I m d u) m := by
  unfold aCl
  rw [aMg_m (by omega), aMg_m (by omega), aMg_m (by omega)]
theorem aFin_g {d u v : Int} : aFin (aMg A I m) m d u v = aMg A (aFin I m d u v) m := by
  unfold aFin
  rw [aCl_g, aMg_m (by omega), aHf_g]
theorem sg_num (hm : yM S m) (hA : aCo S A I m) {t v : Int} (n0 : I m 49 = 0 ∨ I m 49 = 1) (d0 : 0 ≤ I m 48) (d1 : I m 48 < 9) (ht : (t < 10000 ∧ v = t) ∨ (t = 10013 ∧ v = I m 47)) (Q : mQ) : mRun (D + 3) 305 [mR m, mI t] (aMg A I m) S Q = Q (.inl (some (mI 1))) (aMg A (aHf I m (I m 48) v) m) S := by
  have h := st_num (S := S) (I := aMg A I m) (t := t) (v := v) D hm
  simp (disch := omega) only [aMg_47 hA, aMg_f, aMg_c, aHf_g] at h
  exact h n0 d0 d1 ht Q
theorem sg_open (hm : yM S m) (n0 : I m 49 = 0 ∨ I m 49 = 1) (d0 : 0 ≤ I m 48) (d1 : I m 48 < 8) (Q : mQ) : mRun (D + 4) 305 [mR m, mI 10000] (aMg A I m) S Q = Q (.inl (some (mI 1))) (aMg A (aOp I m 1 0) m) S := by
  have h := st_open (S := S) (I := aMg A I m) D hm
  simp (disch := omega) only [aMg_f, aMg_c, aOp_g] at h
  exact h n0 d0 d1 Q
theorem sg_if (hm : yM S m) (n0 : I m 49 = 0) (d0 : 0 ≤ I m 48) (d1 : I m 48 < 8) (Q : mQ) : mRun (D + 4) 305 [mR m, mI 10010] (aMg A I m) S Q = Q (.inl (some (mI 1))) (aMg A (aOp I m 8 1) m) S := by
  have h := st_if (S := S) (I := aMg A I m) D hm
  simp (disch := omega) only [aMg_f, aMg_c, aOp_g] at h
  exact h n0 d0 d1 Q
theorem sg_word (hm : yM S m) {t : Int} (n0 : I m 49 = 0 ∨ I m 49 = 1) (t0 : 10014 ≤ t) (t1 : t ≤ 10017) (Q : mQ) : mRun (D + 4) 305 [mR m, mI t] (aMg A I m) S Q = Q (.inl (some (mI 1))) (aMg A (mUp (mUp I m 50 t) m 49 2) m) S := by
  have h := st_word (S := S) (I := aMg A I m) (t := t) D hm
  simp (disch := omega) only [aMg_f, aMg_c, aMg_m] at h
  exact h n0 t0 t1 Q
theorem sg_wop (hm : yM S m) (n0 : I m 49 = 2) (d0 : 0 ≤ I m 48) (d1 : I m 48 < 8) (Q : mQ) : mRun (D + 3) 305 [mR m, mI 10000] (aMg A I m) S Q = Q (.inl (some (mI 1))) (aMg A (aOp I m (aKd (I m 50)) 0) m) S := by
  have h := st_wop (S := S) (I := aMg A I m) D hm
  simp (disch := omega) only [aMg_f, aMg_c, aOp_g] at h
  exact h n0 d0 d1 Q
theorem sg_mul (hm : yM S m) {t : Int} (n0 : I m 49 = 3) (d0 : 0 ≤ I m 48) (d1 : I m 48 < 9) (ht : t = 10005 ∨ t = 10006) (Q : mQ) : mRun (D + 5) 305 [mR m, mI t] (aMg A I m) S Q = Q (.inl (some (mI 1))) (aMg A (mUp (mUp I (m + 36) (I m 48) t) m 49 1) m) S := by
  have h := st_mul (S := S) (I := aMg A I m) (t := t) D hm
  simp (disch := omega) only [aMg_f, aMg_c, aMg_m, aMg_u] at h
  exact h n0 d0 d1 ht Q
theorem sg_add (hm : yM S m) {t : Int} (n0 : I m 49 = 3) (d0 : 0 ≤ I m 48) (d1 : I m 48 < 9) (ht : t = 10003 ∨ t = 10004) (Q : mQ) : mRun (D + 5) 305 [mR m, mI t] (aMg A I m) S Q = Q (.inl (some (mI 1))) (aMg A (mUp (mUp (mUp (mUp I (m + 34) (I m 48) (aSum I m (I m 48))) (m + 39) (I m 48) (if t = 10004 then 1 else 0)) (m + 36) (I m 48) (-1)) m 49 1) m) S := by
  have h := st_add (S := S) (I := aMg A I m) (t := t) D hm
  simp (disch := omega) only [aMg_f, aMg_c, aMg_m, aMg_u, aSum_g] at h
  exact h n0 d0 d1 ht Q
theorem sg_1 (hm : yM S m) {d u : Int} {n : Nat} (n0 : I m 49 = 3) (hp : aPp (I (m + 33)) (I (m + 38)) (I (m + 37)) n (I m 48) (aSum I m (I m 48)) d u) (d0 : 1 ≤ d) (d1 : I m 48 ≤ 8) (hk : I (m + 33) d = 1) (Q : mQ) : mRun (D + 7) 305 [mR m, mI 10001] (aMg A I m) S Q = Q (.inl (some (mI 1))) (aMg A (aFin I m d u u) m) S := by
  have h := cl_1 (S := S) (I := aMg A I m) (d := d) (u := u) (n := n) D hm
  simp (disch := omega) only [aMg_f, aMg_c, aMg_m, aMg_u, aSum_g, aFin_g] at h
  exact h n0 hp d0 d1 hk Q
theorem sg_5 (hm : yM S m) {d u v : Int} {n : Nat} (n0 : I m 49 = 3) (hp : aPp (I (m + 33)) (I (m + 38)) (I (m + 37)) n (I m 48) (aSum I m (I m 48)) d u) (d0 : 1 ≤ d) (d1 : I m 48 ≤ 8) (hk : (I (m + 33) d = 5 ∧ v = if u < I (m + 37) d then u else I (m + 37) d) ∨ (I (m + 33) d = 7 ∧ v = if I (m + 37) d < u then u else I (m + 37) d)) (Q : mQ) : mRun (D + 7) 305 [mR m, mI 10001] (aMg A I m) S Q = Q (.inl (some (mI 1))) (aMg A (aFin I m d u v) m) S := by
  have h := cl_5 (S := S) (I := aMg A I m) (d := d) (u := u) (v := v) (n := n) D hm
  simp (disch := omega) only [aMg_f, aMg_c, aMg_m, aMg_u, aSum_g, aFin_g] at h
  exact h n0 hp d0 d1 hk Q
theorem sg_4 (hm : yM S m) {d u : Int} {n : Nat} (n0 : I m 49 = 3) (hp : aPp (I (m + 33)) (I (m + 38)) (I (m + 37)) n (I m 48) (aSum I m (I m 48)) d u) (d0 : 1 ≤ d) (d1 : I m 48 ≤ 8) (hk : I (m + 33) d = 4 ∨ I (m + 33) d = 6) (Q : mQ) : mRun (D + 7) 305 [mR m, mI 10002] (aMg A I m) S Q = Q (.inl (some (mI 1))) (aMg A (aBg (mUp (mUp (aCl I m d u) (m + 37) d u) (m + 33) d (I (m + 33) d + 1)) m d 0) m) S := by
  have h := cl_4 (S := S) (I := aMg A I m) (d := d) (u := u) (n := n) D hm
  simp (disch := omega) only [aMg_f, aMg_c, aMg_m, aMg_u, aSum_g, aCl_g, aBg_g] at h
  exact h n0 hp d0 d1 hk Q
theorem sg_8 (hm : yM S m) {t d u : Int} {n : Nat} (n0 : I m 49 = 3) (hp : aPp (I (m + 33)) (I (m + 38)) (I (m + 37)) n (I m 48) (aSum I m (I m 48)) d u) (d0 : 1 ≤ d) (d1 : I m 48 ≤ 8) (hk : I (m + 33) d = 8) (t0 : 10007 ≤ t) (t1 : t ≤ 10009) (Q : mQ) : mRun (D + 7) 305 [mR m, mI t] (aMg A I m) S Q = Q (.inl (some (mI 1))) (aMg A (aBg (mUp (mUp (mUp (aCl I m d u) (m + 37) d u) (m + 38) d t) (m + 33) d 9) m d 1) m) S := by
  have h := cl_8 (S := S) (I := aMg A I m) (t := t) (d := d) (u := u) (n := n) D hm
  simp (disch := omega) only [aMg_f, aMg_c, aMg_m, aMg_u, aSum_g, aCl_g, aBg_g] at h
  exact h n0 hp d0 d1 hk t0 t1 Q
theorem sg_9 (hm : yM S m) {d u : Int} {n : Nat} (n0 : I m 49 = 3) (hp : aPp (I (m + 33)) (I (m + 38)) (I (m + 37)) n (I m 48) (aSum I m (I m 48)) d u) (d0 : 1 ≤ d) (d1 : I m 48 ≤ 8) (hk : I (m + 33) d = 9) (Q : mQ) : mRun (D + 7) 305 [mR m, mI 10011] (aMg A I m) S Q = Q (.inl (some (mI 1))) (aMg A (aBg (mUp (mUp (aCl I m d u) (m + 38) d (aHo I m d u)) (m + 33) d 10) m d 0) m) S := by
  have h := cl_9 (S := S) (I := aMg A I m) (d := d) (u := u) (n := n) D hm
  simp (disch := omega) only [aMg_f, aMg_c, aMg_m, aMg_u, aSum_g, aCl_g, aBg_g, aHo_g] at h
  exact h n0 hp d0 d1 hk Q
theorem sg_10 (hm : yM S m) {d u : Int} {n : Nat} (n0 : I m 49 = 3) (hp : aPp (I (m + 33)) (I (m + 38)) (I (m + 37)) n (I m 48) (aSum I m (I m 48)) d u) (d0 : 1 ≤ d) (d1 : I m 48 ≤ 8) (hk : I (m + 33) d = 10) (Q : mQ) : mRun (D + 7) 305 [mR m, mI 10012] (aMg A I m) S Q = Q (.inl (some (mI 1))) (aMg A (aBg (mUp (mUp (aCl I m d u) (m + 37) d u) (m + 33) d 11) m d 0) m) S := by
  have h := cl_10 (S := S) (I := aMg A I m) (d := d) (u := u) (n := n) D hm
  simp (disch := omega) only [aMg_f, aMg_c, aMg_m, aMg_u, aSum_g, aCl_g, aBg_g, aHo_g] at h
  exact h n0 hp d0 d1 hk Q
theorem sg_2 (hm : yM S m) (hA : aCo S A I m) {sA d u v : Int} {n : Nat} (hr : S.1 m 45 = sA) (hsk : S.2.1 sA = 50) (hsl : S.2.2.1 sA = 1395) (hsm : sA ≠ m) (hsa : sA < m + 33 ∨ m + 39 < sA) (hI : I sA = σ) (h1 : 0 ≤ σ 1 ∧ σ 1 ≤ 6) (hb : ∀ s p j : Int, 0 ≤ s → s < 3 → 0 ≤ p → p < 6 → 0 ≤ j → j < 8 → 0 ≤ σ (115 + 48 * s + 8 * p + j) ∧ σ (115 + 48 * s + 8 * p + j) ≤ 10000) (s0 : 0 ≤ I m 46) (s1 : I m 46 < 3) (w0 : 0 ≤ I m 47) (w1 : I m 47 < 8) (n0 : I m 49 = 3) (hp : aPp (I (m + 33)) (I (m + 38)) (I (m + 37)) n (I m 48) (aSum I m (I m 48)) d u) (d0 : 1 ≤ d) (d1 : I m 48 ≤ 8) (hk : (I (m + 33) d = 2 ∧ v = sFl σ (I m 46) u (I m 47) (I m 47)) ∨ (I (m + 33) d = 3 ∧ v = sFl σ (I m 46) u 0 7)) (Q : mQ) : mRun (D + 7) 305 [mR m, mI 10001] (aMg A I m) S Q = Q (.inl (some (mI 1))) (aMg A (aFin I m d u v) m) S := by
  have hAs : aMg A I m sA = σ := by
    have h3 := hA.2.2
    rw [hr, hI] at h3
    unfold aMg
    rw [if_neg hsm, if_neg (by omega)]
    exact h3
  have h := cl_2 (S := S) (I := aMg A I m) (σ := σ) (sA := sA) (d := d) (u := u) (v := v) (n := n) D hm hr hsk hsl hsm hAs h1 hb
  simp (disch := omega) only [aMg_46 hA, aMg_47 hA, aMg_f, aMg_c, aMg_m, aMg_u, aSum_g, aFin_g] at h
  exact h s0 s1 w0 w1 n0 hp d0 d1 hk Q
end GL
