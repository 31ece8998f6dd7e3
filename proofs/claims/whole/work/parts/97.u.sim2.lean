section SM
variable {S : mH} {m sA s wk : Int} {σ : sT} {K V : Int → Int}
theorem mTk_4 {j : Int} (hV : K j = 2 → 0 ≤ V j ∧ V j ≤ 9999) : (4 ≤ K j → K j ≤ 13 → mTk K V j = 9996 + K j) ∧ (23 ≤ K j → K j ≤ 25 → mTk K V j = 9987 + K j) ∧ (26 ≤ K j → K j ≤ 29 → mTk K V j = 9988 + K j) ∧ (K j = 17 → mTk K V j = 10013) ∧ (K j = 2 → mTk K V j = V j) ∧ (∀ q : Int, 4 ≤ q → q ≤ 13 → mTk K V j = 9996 + q → K j = q) ∧ (∀ q : Int, 23 ≤ q → q ≤ 25 → mTk K V j = 9987 + q → K j = q) ∧ (∀ q : Int, 26 ≤ q → q ≤ 29 → mTk K V j = 9988 + q → K j = q) ∧ (mTk K V j = 10013 → K j = 17) ∧ (mTk K V j ≠ -1 → mTk K V j < 10000 → K j = 2) ∧ (mTk K V j = -1 ∨ (0 ≤ mTk K V j ∧ mTk K V j ≤ 10017)) := by
  have e : mTk K V j = if K j = 2 then V j else if K j = 17 then 10013 else if 4 ≤ K j ∧ K j ≤ 13 then 9996 + K j else if 23 ≤ K j ∧ K j ≤ 25 then 9987 + K j else if 26 ≤ K j ∧ K j ≤ 29 then 9988 + K j else -1 := rfl
  by_cases c1 : K j = 2
  · rw [if_pos c1] at e
    have := hV c1
    refine ⟨?_, ?_, ?_, ?_, ?_, ?_, ?_, ?_, ?_, ?_, ?_⟩ <;> intros <;> omega
  · rw [if_neg c1] at e
    by_cases c2 : K j = 17
    · rw [if_pos c2] at e
      refine ⟨?_, ?_, ?_, ?_, ?_, ?_, ?_, ?_, ?_, ?_, ?_⟩ <;> intros <;> omega
    · rw [if_neg c2] at e
      by_cases c3 : 4 ≤ K j ∧ K j ≤ 13
      · rw [if_pos c3] at e
        refine ⟨?_, ?_, ?_, ?_, ?_, ?_, ?_, ?_, ?_, ?_, ?_⟩ <;> intros <;> omega
      · rw [if_neg c3] at e
        by_cases c4 : 23 ≤ K j ∧ K j ≤ 25
        · rw [if_pos c4] at e
          refine ⟨?_, ?_, ?_, ?_, ?_, ?_, ?_, ?_, ?_, ?_, ?_⟩ <;> intros <;> omega
        · rw [if_neg c4] at e
          by_cases c5 : 26 ≤ K j ∧ K j ≤ 29
          · rw [if_pos c5] at e
            refine ⟨?_, ?_, ?_, ?_, ?_, ?_, ?_, ?_, ?_, ?_, ?_⟩ <;> intros <;> omega
          · rw [if_neg c5] at e
            refine ⟨?_, ?_, ?_, ?_, ?_, ?_, ?_, ?_, ?_, ?_, ?_⟩ <;> intros <;> omega
theorem mTk_op {j : Int} (hV : K j = 2 → 0 ≤ V j ∧ V j ≤ 9999) (h : K j ≠ 7 ∧ K j ≠ 8 ∧ K j ≠ 9 ∧ K j ≠ 10) : mTk K V j ≠ 10003 ∧ mTk K V j ≠ 10004 ∧ mTk K V j ≠ 10005 ∧ mTk K V j ≠ 10006 := by
  obtain ⟨-, -, -, -, -, g, -⟩ := mTk_4 hV
  obtain ⟨h1, h2, h3, h4⟩ := h
  exact ⟨fun e => h1 (g 7 (by decide) (by decide) e), fun e => h2 (g 8 (by decide) (by decide) e), fun e => h3 (g 9 (by decide) (by decide) e), fun e => h4 (g 10 (by decide) (by decide) e)⟩
def aCx (m sA s wk : Int) (σ : sT) (I : mN) : Prop := I m 46 = s ∧ I m 47 = wk ∧ I sA = σ
theorem aCx_k {I J : mN} (hsm : sA ≠ m) (hsa : sA < m + 33 ∨ m + 39 < sA) (h : aCx m sA s wk σ I) (hk : aKp I J m) : aCx m sA s wk σ J := ⟨(hk.2 46 (by decide)).trans h.1, (hk.2 47 (by decide)).trans h.2.1, (hk.1 sA hsm hsa).trans h.2.2⟩
/-- a level lies open above level d -/
def aOn (I J : mN) (m d kd nx : Int) : Prop := J m 48 = d + 1 ∧ J m 49 = nx ∧ aLo I J m (d + 1) ∧ J (m + 33) (d + 1) = kd ∧ J (m + 36) (d + 1) = -1 ∧ J (m + 34) (d + 1) = 0 ∧ J (m + 39) (d + 1) = 0
theorem aBg_k {I : mN} {d nx : Int} : aKp I (aBg I m d nx) m := by
  unfold aBg
  refine ⟨fun a a1 a2 => by rw [up_fa a1, up_fa (by omega), up_fa (by omega), up_fa (by omega)], fun k hk => by rw [up_nk (by omega), up_na (by omega), up_na (by omega), up_na (by omega)]⟩
theorem aKp_u {I : mN} {a x v : Int} (ha : m + 33 ≤ a) (ha' : a ≤ m + 39) : aKp I (mUp I a x v) m := ⟨fun b b1 b2 => up_fa (by omega), fun k hk => by rw [up_na (by omega)]⟩
theorem aKp_m {I : mN} {x v : Int} (h0 : 48 ≤ x) (h1 : x ≤ 51) : aKp I (mUp I m x v) m := ⟨fun b b1 b2 => up_fa b1, fun k hk => up_nk (by omega)⟩
theorem aCl_k' {I : mN} {d u : Int} : aKp I (aCl I m d u) m := ⟨fun a a1 _ => aCl_o a1, fun k hk => aCl_k (by omega) (by omega) (by omega)⟩
theorem aOp_k {I : mN} {kd nx : Int} : aKp I (aOp I m kd nx) m := by
  unfold aOp
  exact aKp_t (aKp_t (aKp_m (by decide) (by decide)) (aKp_u (by omega) (by omega))) aBg_k
theorem aHf_k {I : mN} {d v : Int} : aKp I (aHf I m d v) m := by
  unfold aHf
  exact aKp_t (aKp_u (by omega) (by omega)) (aKp_m (by decide) (by decide))
theorem aFin_k {I : mN} {d u v : Int} : aKp I (aFin I m d u v) m := by
  unfold aFin
  exact aKp_t (aKp_t aCl_k' (aKp_m (by decide) (by decide))) aHf_k
theorem aBg_on {I J : mN} {d kd nx : Int} (h48 : J m 48 = d + 1) (hlo : aLo I J m (d + 1)) (hkd : J (m + 33) (d + 1) = kd) : aOn I (aBg J m (d + 1) nx) m d kd nx := by
  unfold aBg
  refine ⟨?_, up_eq rfl rfl, fun j j0 j1 => ?_, ?_, ?_, ?_, ?_⟩
  · simp (disch := first | omega | exact Nat.le_of_ble_eq_true rfl) only [ua_eq, ua_ne, up_eq, up_fa, up_nk, tk_in, tk_out]; exact h48
  · obtain ⟨a1, a2, a3, a4, a5, a6, a7⟩ := hlo j j0 j1
    refine ⟨?_, ?_, ?_, ?_, ?_, ?_, ?_⟩
    · simp (disch := first | omega | exact Nat.le_of_ble_eq_true rfl) only [ua_eq, ua_ne, up_eq, up_fa, up_nk, tk_in, tk_out]; exact a1
    · simp (disch := first | omega | exact Nat.le_of_ble_eq_true rfl) only [ua_eq, ua_ne, up_eq, up_fa, up_nk, tk_in, tk_out]; exact a2
    · simp (disch := first | omega | exact Nat.le_of_ble_eq_true rfl) only [ua_eq, ua_ne, up_eq, up_fa, up_nk, tk_in, tk_out]; exact a3
    · simp (disch := first | omega | exact Nat.le_of_ble_eq_true rfl) only [ua_eq, ua_ne, up_eq, up_fa, up_nk, tk_in, tk_out]; exact a4
    · simp (disch := first | omega | exact Nat.le_of_ble_eq_true rfl) only [ua_eq, ua_ne, up_eq, up_fa, up_nk, tk_in, tk_out]; exact a5
    · simp (disch := first | omega | exact Nat.le_of_ble_eq_true rfl) only [ua_eq, ua_ne, up_eq, up_fa, up_nk, tk_in, tk_out]; exact a6
    · simp (disch := first | omega | exact Nat.le_of_ble_eq_true rfl) only [ua_eq, ua_ne, up_eq, up_fa, up_nk, tk_in, tk_out]; exact a7
  · simp (disch := first | omega | exact Nat.le_of_ble_eq_true rfl) only [ua_eq, ua_ne, up_eq, up_fa, up_nk, tk_in, tk_out]; exact hkd
  · simp (disch := first | omega | exact Nat.le_of_ble_eq_true rfl) only [ua_eq, ua_ne, up_eq, up_fa, up_nk, tk_in, tk_out]
  · simp (disch := first | omega | exact Nat.le_of_ble_eq_true rfl) only [ua_eq, ua_ne, up_eq, up_fa, up_nk, tk_in, tk_out]
  · simp (disch := first | omega | exact Nat.le_of_ble_eq_true rfl) only [ua_eq, ua_ne, up_eq, up_fa, up_nk, tk_in, tk_out]
theorem aOp_on {I I0 : mN} {d kd nx : Int} (h48 : I m 48 = d) (hlo : aLo I0 I m (d + 1)) : aOn I0 (aOp I m kd nx) m d kd nx := by
  unfold aOp
  rw [h48]
  refine aBg_on ?_ (fun j j0 j1 => ?_) ?_
  · simp (disch := first | omega | exact Nat.le_of_ble_eq_true rfl) only [ua_eq, ua_ne, up_eq, up_fa, up_nk, tk_in, tk_out]
  · obtain ⟨a1, a2, a3, a4, a5, a6, a7⟩ := hlo j j0 j1
    refine ⟨?_, ?_, ?_, ?_, ?_, ?_, ?_⟩
    · simp (disch := first | omega | exact Nat.le_of_ble_eq_true rfl) only [ua_eq, ua_ne, up_eq, up_fa, up_nk, tk_in, tk_out]; exact a1
    · simp (disch := first | omega | exact Nat.le_of_ble_eq_true rfl) only [ua_eq, ua_ne, up_eq, up_fa, up_nk, tk_in, tk_out]; exact a2
    · simp (disch := first | omega | exact Nat.le_of_ble_eq_true rfl) only [ua_eq, ua_ne, up_eq, up_fa, up_nk, tk_in, tk_out]; exact a3
    · simp (disch := first | omega | exact Nat.le_of_ble_eq_true rfl) only [ua_eq, ua_ne, up_eq, up_fa, up_nk, tk_in, tk_out]; exact a4
    · simp (disch := first | omega | exact Nat.le_of_ble_eq_true rfl) only [ua_eq, ua_ne, up_eq, up_fa, up_nk, tk_in, tk_out]; exact a5
    · simp (disch := first | omega | exact Nat.le_of_ble_eq_true rfl) only [ua_eq, ua_ne, up_eq, up_fa, up_nk, tk_in, tk_out]; exact a6
    · simp (disch := first | omega | exact Nat.le_of_ble_eq_true rfl) only [ua_eq, ua_ne, up_eq, up_fa, up_nk, tk_in, tk_out]; exact a7
  · simp (disch := first | omega | exact Nat.le_of_ble_eq_true rfl) only [ua_eq, ua_ne, up_eq, up_fa, up_nk, tk_in, tk_out]
/-- an expression above was closed by its token: a factor is there -/
theorem aFin_f {I I1 J : mN} {d u v : Int} (d0 : 0 ≤ d) (h1 : aLo I I1 m (d + 1)) (h2 : aLo I1 J m (d + 1)) : oF I (aFin J m (d + 1) u v) m d v := by
  have h := aLo_t h1 h2
  have ej : ∀ a : Int, a ≠ m → a ≠ m + 35 → (aFin J m (d + 1) u v) a = J a := fun a a1 a2 => by
    unfold aFin aHf
    rw [up_fa a1, up_fa a2, up_fa a1, aCl_o a1]
  have e35 : ∀ j : Int, j ≠ d → (aFin J m (d + 1) u v) (m + 35) j = J (m + 35) j := fun j hj => by
    unfold aFin aHf
    rw [up_na (by omega), up_nk (by omega), up_na (by omega), aCl_o (by omega)]
  obtain ⟨a1, a2, a3, a4, a5, a6, a7⟩ := h d d0 (by omega)
  refine ⟨?_, ?_, fun j j0 j1 => ?_, ⟨?_, ?_, ?_⟩, ?_, ?_, ?_, ?_⟩
  · unfold aFin aHf
    rw [up_nk (by decide), up_na (by omega), up_eq rfl rfl]; omega
  · unfold aFin aHf
    rw [up_eq rfl rfl]
  · obtain ⟨b1, b2, b3, b4, b5, b6, b7⟩ := h j j0 (by omega)
    rw [e35 j (by omega), ej (m + 33) (by omega) (by omega), ej (m + 34) (by omega) (by omega), ej (m + 36) (by omega) (by omega), ej (m + 37) (by omega) (by omega), ej (m + 38) (by omega) (by omega), ej (m + 39) (by omega) (by omega)]
    exact ⟨b1, b2, b3, b4, b5, b6, b7⟩
  · rw [ej _ (by omega) (by omega)]; exact a1
  · rw [ej _ (by omega) (by omega)]; exact a5
  · rw [ej _ (by omega) (by omega)]; exact a6
  · rw [ej _ (by omega) (by omega)]; exact a2
  · rw [ej _ (by omega) (by omega)]; exact a7
  · rw [ej _ (by omega) (by omega)]; exact a4
  · have e : (aFin J m (d + 1) u v) (m + 35) d = aFac (mUp (aCl J m (d + 1) u) m 48 (d + 1 - 1)) m (d + 1 - 1) v := by
      unfold aFin aHf
      rw [up_na (by omega), up_eq rfl (by omega)]
    rw [e, show d + 1 - 1 = d by omega]
    unfold aFac
    rw [up_na (show m + 36 ≠ m by omega), up_na (show m + 35 ≠ m by omega), aCl_o (by omega), aCl_o (by omega), a4, a3]
/-- where an expression ends and no token of its fits -/
theorem x_end {J : mN} {d u : Int} {n : Nat} (hm : yM S m) (n0 : J m 49 = 3) (hp : aPp (J (m + 33)) (J (m + 38)) (J (m + 37)) n (J m 48) (aSum J m (J m 48)) d u) (d0 : 1 ≤ d) (d1 : J m 48 ≤ 8) (hk : J (m + 33) d ≠ 11) : aE0 S m J := by
  refine ⟨aCl J m d u, fun D Q => ?_, aCl_k'⟩
  rw [en_3 D hm n0 hp (by omega) d1 hk, if_neg (by omega)]
theorem x_no1 {J : mN} {j d u : Int} {n : Nat} (hm : yM S m) (hV : K j = 2 → 0 ≤ V j ∧ V j ≤ 9999) (n0 : J m 49 = 3) (hop : K j ≠ 7 ∧ K j ≠ 8 ∧ K j ≠ 9 ∧ K j ≠ 10) (hp : aPp (J (m + 33)) (J (m + 38)) (J (m + 37)) n (J m 48) (aSum J m (J m 48)) d u) (d0 : 1 ≤ d) (d1 : J m 48 ≤ 8) (hk : J (m + 33) d ≠ 11) (hk0 : 0 ≤ J (m + 33) d) (hk1 : J (m + 33) d ≤ 10)
    (h : (J (m + 33) d = 1 ∨ J (m + 33) d = 2 ∨ J (m + 33) d = 3 ∨ J (m + 33) d = 5 ∨ J (m + 33) d = 7 → K j ≠ 5) ∧ (J (m + 33) d = 4 ∨ J (m + 33) d = 6 → K j ≠ 6) ∧ (J (m + 33) d = 8 → K j < 11 ∨ 13 < K j) ∧ (J (m + 33) d = 9 → K j ≠ 24) ∧ (J (m + 33) d = 10 → K j ≠ 25)) : oX1 S m (mTk K V) J j := by
  have hd := aPp_d hp
  obtain ⟨t1, t2, t3, t4, t5, q1, q2, q3, q4, q5, q6⟩ := mTk_4 hV
  obtain ⟨h1, h2, h3, h4, h5⟩ := h
  refine ⟨fun _ => x_end hm n0 hp d0 d1 hk, fun hne => Or.inr ?_⟩
  obtain ⟨L, g1, g2, g3, g4, g5, g6, g7⟩ := cl_no hm (t := mTk K V j) n0 (mTk_op hV hop) hp (by omega) d1 hk hk0 hk1 ⟨fun hc e => h1 hc (q1 5 (by decide) (by decide) e), fun hc e => h2 hc (q1 6 (by decide) (by decide) e), fun hc => by
    have h9 := h3 hc
    by_cases c : mTk K V j < 10007 ∨ 10009 < mTk K V j
    · exact c
    · have := q1 (mTk K V j - 9996) (by omega) (by omega) (by omega)
      omega, fun hc e => h4 hc (q2 24 (by decide) (by decide) e), fun hc e => h5 hc (q2 25 (by decide) (by decide) e)⟩
  have hkp : aKp J L m := ⟨fun a a1 a2 => g6 a a1 (by omega) (by omega), g7⟩
  exact ⟨L, g1, hkp, ⟨aCl L m d u, fun D Q => by rw [en_4 D hm g3 g2 g4 (by omega) (by omega) (by rw [g5]; exact hk), if_neg (by omega)], aCl_k'⟩⟩
theorem x_no {J : mN} {j d u : Int} {n : Nat} (hm : yM S m) (hV : K j = 2 → 0 ≤ V j ∧ V j ≤ 9999) (n0 : J m 49 = 3) (hop : K j ≠ 7 ∧ K j ≠ 8 ∧ K j ≠ 9 ∧ K j ≠ 10) (hp : aPp (J (m + 33)) (J (m + 38)) (J (m + 37)) n (J m 48) (aSum J m (J m 48)) d u) (d0 : 1 ≤ d) (d1 : J m 48 ≤ 8) (hk : J (m + 33) d ≠ 11) (hk0 : 0 ≤ J (m + 33) d) (hk1 : J (m + 33) d ≤ 10)
    (h : (J (m + 33) d = 1 ∨ J (m + 33) d = 2 ∨ J (m + 33) d = 3 ∨ J (m + 33) d = 5 ∨ J (m + 33) d = 7 → K j ≠ 5) ∧ (J (m + 33) d = 4 ∨ J (m + 33) d = 6 → K j ≠ 6) ∧ (J (m + 33) d = 8 → K j < 11 ∨ 13 < K j) ∧ (J (m + 33) d = 9 → K j ≠ 24) ∧ (J (m + 33) d = 10 → K j ≠ 25)) : oX S m (mTk K V) J j := fun A hA => by
  refine x_no1 (d := d) (u := u) (n := n) hm hV ?_ hop ?_ d0 ?_ ?_ ?_ ?_ ?_
  · rw [aMg_f (by omega)]; exact n0
  · rw [aMg_c (by omega), aMg_c (by omega), aMg_c (by omega), aMg_f (by omega), aSum_g]; exact hp
  · rw [aMg_f (by omega)]; exact d1
  · rw [aMg_c (by omega)]; exact hk
  · rw [aMg_c (by omega)]; exact hk0
  · rw [aMg_c (by omega)]; exact hk1
  · rw [aMg_c (by omega)]; exact h
end SM
