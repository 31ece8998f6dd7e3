section SW
variable {S : mH} {m sA s wk : Int} {σ : sT} {K V : Int → Int}
theorem aPre_0 {c : Nat} {I : mN} {d v i : Int} (h : aPre K c I m d v i) : I m 48 = d := h.1
theorem oF_P {I J : mN} {d u : Int} (h36 : I (m + 36) d = -1) (h : oF I J m d u) : oP I J m d u := by
  obtain ⟨h1, h2, h3, h4, h5, h6, h7, h8⟩ := h
  refine ⟨h1, h2, h3, h4, h5, h6, ?_⟩
  rw [h8]
  unfold aFac
  rw [h36, if_neg (by decide), if_neg (by decide)]
theorem oP_t {I J L : mN} {d u u' : Int} (h : oP I J m d u) (h' : oP J L m d u') : oP I L m d u' := by
  obtain ⟨h1, h2, h3, h4, h5, h6, h7⟩ := h
  obtain ⟨g1, g2, g3, g4, g5, g6, g7⟩ := h'
  exact ⟨g1, g2, aLo_t h3 g3, aL3_t h4 g4, g5.trans h5, g6.trans h6, g7⟩
theorem oS_t {I J L : mN} {d u' : Int} (h3 : aLo I J m d) (h4 : aL3 I J m d) (h' : oS J L m d u') : oS I L m d u' := by
  obtain ⟨g1, g2, g3, g4, g5⟩ := h'
  exact ⟨g1, g2, aLo_t h3 g3, aL3_t h4 g4, g5⟩
theorem aOk_4 {I J : mN} {d u j : Int} {c : Nat} (hc : c = 1 ∨ c = 4) : aOk K c I J m d u j ↔ (oP I J m d u ∧ K j ≠ 9 ∧ K j ≠ 10) := by
  unfold aOk
  rw [if_neg (by omega), if_pos hc]
theorem aOk_5 {I J : mN} {d u j : Int} {c : Nat} (hc : c = 2 ∨ c = 5) : aOk K c I J m d u j ↔ (oS I J m d u ∧ K j ≠ 7 ∧ K j ≠ 8 ∧ K j ≠ 9 ∧ K j ≠ 10) := by
  unfold aOk
  rw [if_neg (by omega), if_neg (by omega), if_pos hc]
theorem aOk_3 {I J : mN} {d u j : Int} : aOk K 3 I J m d u j ↔ (oE I J m d u ∧ K j ≠ 7 ∧ K j ≠ 8 ∧ K j ≠ 9 ∧ K j ≠ 10) := by
  unfold aOk
  rw [if_neg (by decide), if_neg (by decide), if_neg (by decide)]
theorem aOk_0 {I J : mN} {d u j : Int} : aOk K 0 I J m d u j ↔ oF I J m d u := by
  unfold aOk
  rw [if_pos rfl]
theorem aPre_4 {I : mN} {d v i : Int} : aPre K 4 I m d v i ↔ (I m 48 = d ∧ I m 49 = 3 ∧ I (m + 35) d = v) := by
  unfold aPre
  simp only [if_neg (show ¬ (4 : Nat) = 0 by decide), if_neg (show ¬ (4 : Nat) = 1 by decide), if_true]
theorem aPre_5 {I : mN} {d v i : Int} : aPre K 5 I m d v i ↔ (I m 48 = d ∧ I m 49 = 3 ∧ aSum I m d = v ∧ K i ≠ 9 ∧ K i ≠ 10) := by
  unfold aPre
  simp only [if_neg (show ¬ (5 : Nat) = 0 by decide), if_neg (show ¬ (5 : Nat) = 1 by decide), if_neg (show ¬ (5 : Nat) = 4 by decide), if_neg (show ¬ (5 : Nat) = 2 by decide), if_true]
theorem aPre_f {I : mN} {d v i : Int} : aPre K 0 I m d v i ↔ (I m 48 = d ∧ (I m 49 = 1 ∨ (I m 49 = 0 ∧ K i ≠ 23))) := by
  unfold aPre
  simp only [if_true]
theorem aPre_1 {I : mN} {d v i : Int} : aPre K 1 I m d v i ↔ (I m 48 = d ∧ (I m 49 = 1 ∨ (I m 49 = 0 ∧ K i ≠ 23)) ∧ I (m + 36) d = -1) := by
  unfold aPre
  simp only [if_neg (show ¬ (1 : Nat) = 0 by decide), if_true]
theorem aPre_2 {I : mN} {d v i : Int} : aPre K 2 I m d v i ↔ (I m 48 = d ∧ (I m 49 = 1 ∨ (I m 49 = 0 ∧ K i ≠ 23)) ∧ I (m + 36) d = -1 ∧ I (m + 34) d = 0 ∧ I (m + 39) d = 0) := by
  unfold aPre
  simp only [if_neg (show ¬ (2 : Nat) = 0 by decide), if_neg (show ¬ (2 : Nat) = 1 by decide), if_neg (show ¬ (2 : Nat) = 4 by decide), if_true]
theorem aPre_3 {I : mN} {d v i : Int} : aPre K 3 I m d v i ↔ (I m 48 = d ∧ I m 49 = 0 ∧ I (m + 36) d = -1 ∧ I (m + 34) d = 0 ∧ I (m + 39) d = 0) := by
  unfold aPre
  simp only [if_neg (show ¬ (3 : Nat) = 0 by decide), if_neg (show ¬ (3 : Nat) = 1 by decide), if_neg (show ¬ (3 : Nat) = 4 by decide), if_neg (show ¬ (3 : Nat) = 2 by decide), if_neg (show ¬ (3 : Nat) = 5 by decide)]
theorem aOk_e {I J : mN} {d u j : Int} {c : Nat} (h0 : c ≠ 0) (h1 : c ≠ 1) (h4 : c ≠ 4) (h2 : c ≠ 2) (h5 : c ≠ 5) : aOk K c I J m d u j ↔ (oE I J m d u ∧ K j ≠ 7 ∧ K j ≠ 8 ∧ K j ≠ 9 ∧ K j ≠ 10) := by
  unfold aOk
  rw [if_neg h0, if_neg (by omega), if_neg (by omega)]
theorem aPre_e {I : mN} {d v i : Int} {c : Nat} (h0 : c ≠ 0) (h1 : c ≠ 1) (h4 : c ≠ 4) (h2 : c ≠ 2) (h5 : c ≠ 5) : aPre K c I m d v i ↔ (I m 48 = d ∧ I m 49 = 0 ∧ I (m + 36) d = -1 ∧ I (m + 34) d = 0 ∧ I (m + 39) d = 0) := by
  unfold aPre
  simp only [if_neg h0, if_neg h1, if_neg h4, if_neg h2, if_neg h5]
/-- a part, then the rest -/
theorem xRs_bd {I : mN} {i : Int} {a : Option (Option Int × Int)} {g : Int → Int → Option (Option Int × Int)} {res : Option Int} {j : Int} {ok1 : Int → Int → mN → Prop} {ok : Int → mN → Prop} (h : xBd a g = some (res, j)) (h1 : ∀ r l, a = some (r, l) → xRs S m K V I i r l (fun u J => ok1 u l J)) (h2 : ∀ p l J n, a = some (some p, l) → aSs S m (mTk K V) n I i J → i + n = l → ok1 p l J → g p l = some (res, j) → xRs S m K V J l res j ok) : xRs S m K V I i res j ok := by
  match a, h, h1, h2 with
  | some (none, l), h, h1, h2 =>
    cases h
    obtain ⟨n, J, a1, a2, a3, a4⟩ := h1 none _ rfl
    exact ⟨n, J, a1, a2, fun u hu => (by cases hu), a4⟩
  | some (some p, l), h, h1, h2 =>
    obtain ⟨n, J, a1, a2, a3, a4⟩ := h1 (some p) l rfl
    have h9 := h2 p l J n rfl a1 a2 (a3 p rfl) h
    refine xRs_pre a1 ?_
    rw [a2]; exact h9
theorem sim_all (hm : yM S m) (hsm : sA ≠ m) (hsa : sA < m + 33 ∨ m + 39 < sA) (hrow : S.1 m 45 = sA) (hsk : S.2.1 sA = 50) (hsl : S.2.2.1 sA = 1395) (hσ1 : 0 ≤ σ 1 ∧ σ 1 ≤ 6) (hσb : ∀ s p j : Int, 0 ≤ s → s < 3 → 0 ≤ p → p < 6 → 0 ≤ j → j < 8 → 0 ≤ σ (115 + 48 * s + 8 * p + j) ∧ σ (115 + 48 * s + 8 * p + j) ≤ 10000) (s0 : 0 ≤ s) (s1 : s < 3) (w0 : 0 ≤ wk) (w1 : wk < 8) (hV : ∀ j : Int, K j = 2 → 0 ≤ V j ∧ V j ≤ 9999) (hfr : ∀ p x y, inR (sFl σ s p x y)) : ∀ f : Nat, xSim S m sA s wk σ K V f
  | 0, _, _, _, _, _, _, _, _, h, _, _, _, _, _ => by cases h
  | f + 1, c, k, v, i, I, d, res, j, h, hd, d0, i0, hC, hP => by
    have ih := sim_all hm hsm hsa hrow hsk hsl hσ1 hσb s0 s1 w0 w1 hV hfr f
    obtain ⟨t1, t2, t3, t4, t5, q1, q2, q3, q4, q5, q6⟩ := mTk_4 (hV i)
    have hRg : ∀ (c k : Nat) (v i u j : Int), zXf K V wk (sFl σ s) f c k v i = some (some u, j) → inR v → inR u := xRg (fun j hj => by have := hV j hj; unfold inR; omega) (by unfold inR; omega) hfr f
    by_cases c0 : c = 0
    · subst c0
      have hP := aPre_f.mp hP
      have hv : zXf K V wk (sFl σ s) (f + 1) 0 k 0 i = some (res, j) := by
        rw [zXf] at h ⊢
        exact h
      exact xRs_w (sim_fac hm hsm hsa hrow hsk hsl hσ1 hσb s0 s1 w0 w1 hV ih hd d0 i0 hC hP.1 hP.2 hv) (fun u J hJ => aOk_0.mpr hJ)
    · rw [zXf, if_neg c0] at h
      by_cases c1 : c = 1
      · subst c1
        rw [if_pos rfl] at h
        obtain ⟨p1, p2, p3⟩ := aPre_1.mp hP
        refine xRs_bd (ok1 := fun u l J => aOk K 0 I J m d u l) h (fun r l ha => ih 0 k 0 i I d r l ha hd d0 i0 hC (aPre_f.mpr ⟨p1, p2⟩)) (fun p l J n ha hs hn hJ hg => ?_)
        have hJP := oF_P p3 (aOk_0.mp hJ)
        refine xRs_w (ih 4 k p l J d res j hg hd d0 (by omega) (aCx_k hsm hsa hC (aSs_k hs)) (aPre_4.mpr ⟨hJP.1, hJP.2.1, hJP.2.2.2.2.2.2⟩)) (fun u L hL => ?_)
        obtain ⟨g1, g2⟩ := (aOk_4 (Or.inr rfl)).mp hL
        exact (aOk_4 (Or.inl rfl)).mpr ⟨oP_t hJP g1, g2⟩
      · rw [if_neg c1] at h
        by_cases c4 : c = 4
        · subst c4
          rw [if_pos rfl] at h
          obtain ⟨p1, p2, p3⟩ := aPre_4.mp hP
          by_cases ko : K i = 9 ∨ K i = 10
          · rw [if_pos ko] at h
            have ht : mTk K V i = 9996 + K i := t1 (by omega) (by omega)
            have hst : aSt S m I (mTk K V i) (mUp (mUp I (m + 36) (I m 48) (mTk K V i)) m 49 1) := ⟨fun A hA D Q => sg_mul (D + 2) hm p2 (by omega) (by omega) (by omega) Q, aKp_t (aKp_u (by omega) (by omega)) (aKp_m (by decide) (by decide))⟩
            by_cases a1 : 60 ≤ i
            · rw [if_pos a1] at h
              cases h
              exact xRs_no (oX_o (fun h9 => by omega) a1 hst)
            · rw [if_neg a1] at h
              refine xRs_st rfl hst (by omega) (by omega) ?_
              generalize hI1 : mUp (mUp I (m + 36) (I m 48) (mTk K V i)) m 49 1 = I1 at hst
              have w49 : I1 m 49 = 1 := by rw [← hI1]; exact up_eq rfl rfl
              have w48 : I1 m 48 = d := by rw [← hI1, up_nk (by decide), up_na (by omega)]; exact p1
              have w36 : I1 (m + 36) d = mTk K V i := by rw [← hI1, up_na (by omega), p1, up_eq rfl rfl]
              have wo : ∀ a : Int, a ≠ m → a ≠ m + 36 → I1 a = I a := fun a a1 a2 => by rw [← hI1, up_fa a1, up_fa a2]
              have wlo : aLo I I1 m d := fun j j0 j1 => by
                rw [wo (m + 33) (by omega) (by omega), wo (m + 34) (by omega) (by omega), wo (m + 35) (by omega) (by omega), wo (m + 37) (by omega) (by omega), wo (m + 38) (by omega) (by omega), wo (m + 39) (by omega) (by omega), ← hI1, up_na (show m + 36 ≠ m by omega), p1, up_nk (by omega)]
                exact ⟨rfl, rfl, rfl, rfl, rfl, rfl, rfl⟩
              clear hI1
              have hC1 := aCx_k hsm hsa hC hst.2
              refine xRs_bd (ok1 := fun u l J => aOk K 0 I1 J m d u l) h (fun r l ha => ih 0 k 0 (i + 1) I1 d r l ha hd d0 (by omega) hC1 (aPre_f.mpr ⟨w48, Or.inl w49⟩)) (fun p l J n ha hs hn hJ hg => ?_)
              obtain ⟨y1, y2, y3, y4, y5, y6, y7, y8⟩ := aOk_0.mp hJ
              have hval : J (m + 35) d = (if K i = 9 then mWrap (v * p) else if p = 0 then 0 else mWrap (v.tdiv p)) := by
                rw [y8]
                unfold aFac
                rw [w36, wo (m + 35) (by omega) (by omega), p3, ht]
                by_cases k9 : K i = 9
                · rw [if_pos k9, if_pos (by omega)]
                · rw [if_neg k9, if_neg (by omega), if_pos (by omega)]
              refine xRs_w (ih 4 k _ l J d res j hg hd d0 (by omega) (aCx_k hsm hsa hC1 (aSs_k hs)) (aPre_4.mpr ⟨y1, y2, hval⟩)) (fun u L hL => ?_)
              obtain ⟨g1, g2⟩ := (aOk_4 (Or.inr rfl)).mp hL
              refine (aOk_4 (Or.inr rfl)).mpr ⟨oP_t (u := J (m + 35) d) ⟨y1, y2, aLo_t wlo y3, aL3_t ⟨by rw [wo _ (by omega) (by omega)], by rw [wo _ (by omega) (by omega)], by rw [wo _ (by omega) (by omega)]⟩ y4, by rw [y5, wo _ (by omega) (by omega)], by rw [y6, wo _ (by omega) (by omega)], rfl⟩ g1, g2⟩
          · rw [if_neg ko] at h
            cases h
            exact xRs_ok ((aOk_4 (Or.inr rfl)).mpr ⟨⟨p1, p2, aLo_r I m d, ⟨rfl, rfl, rfl⟩, rfl, rfl, p3⟩, fun h9 => ko (Or.inl h9), fun h9 => ko (Or.inr h9)⟩)
        · rw [if_neg c4] at h
          by_cases c2 : c = 2
          · subst c2
            rw [if_pos rfl] at h
            obtain ⟨p1, p2, p3, p4, p5⟩ := aPre_2.mp hP
            refine xRs_bd (ok1 := fun u l J => aOk K 1 I J m d u l) h (fun r l ha => ih 1 k 0 i I d r l ha hd d0 i0 hC (aPre_1.mpr ⟨p1, p2, p3⟩)) (fun p l J n ha hs hn hJ hg => ?_)
            obtain ⟨⟨y1, y2, y3, y4, y5, y6, y7⟩, y8, y9⟩ := (aOk_4 (Or.inl rfl)).mp hJ
            have hr := hRg 1 k 0 i p l ha (by decide)
            have hval : aSum J m d = p := by
              unfold aSum
              rw [y6, p5, if_pos rfl, y5, p4, y7, Int.zero_add]
              exact wr hr.1 hr.2
            by_cases k78 : K l = 7 ∨ K l = 8 ∨ ¬ (K l = 7 ∨ K l = 8)
            · refine xRs_w (ih 5 k p l J d res j hg hd d0 (by omega) (aCx_k hsm hsa hC (aSs_k hs)) (aPre_5.mpr ⟨y1, y2, hval, y8, y9⟩)) (fun u L hL => ?_)
              obtain ⟨g1, g2⟩ := (aOk_5 (Or.inr rfl)).mp hL
              exact (aOk_5 (Or.inl rfl)).mpr ⟨oS_t y3 y4 g1, g2⟩
            · omega
          · rw [if_neg c2] at h
            by_cases c5 : c = 5
            · subst c5
              rw [if_pos rfl] at h
              obtain ⟨p1, p2, p3, p4, p5⟩ := aPre_5.mp hP
              by_cases ko : K i = 7 ∨ K i = 8
              · rw [if_pos ko] at h
                have ht : mTk K V i = 9996 + K i := t1 (by omega) (by omega)
                have hst : aSt S m I (mTk K V i) (mUp (mUp (mUp (mUp I (m + 34) (I m 48) (aSum I m (I m 48))) (m + 39) (I m 48) (if mTk K V i = 10004 then 1 else 0)) (m + 36) (I m 48) (-1)) m 49 1) := ⟨fun A hA D Q => sg_add (D + 2) hm p2 (by omega) (by omega) (by omega) Q, aKp_t (aKp_t (aKp_t (aKp_u (by omega) (by omega)) (aKp_u (by omega) (by omega))) (aKp_u (by omega) (by omega))) (aKp_m (by decide) (by decide))⟩
                by_cases a1 : 60 ≤ i
                · rw [if_pos a1] at h
                  cases h
                  exact xRs_no (oX_o (fun h9 => by omega) a1 hst)
                · rw [if_neg a1] at h
                  refine xRs_st rfl hst (by omega) (by omega) ?_
                  generalize hI1 : mUp (mUp (mUp (mUp I (m + 34) (I m 48) (aSum I m (I m 48))) (m + 39) (I m 48) (if mTk K V i = 10004 then 1 else 0)) (m + 36) (I m 48) (-1)) m 49 1 = I1 at hst
                  have w49 : I1 m 49 = 1 := by rw [← hI1]; exact up_eq rfl rfl
                  have w48 : I1 m 48 = d := by rw [← hI1, up_nk (by decide), up_na (by omega), up_na (by omega), up_na (by omega)]; exact p1
                  have w36 : I1 (m + 36) d = -1 := by rw [← hI1, up_na (by omega), p1, up_eq rfl rfl]
                  have w39 : I1 (m + 39) d = (if mTk K V i = 10004 then 1 else 0) := by rw [← hI1, up_na (by omega), up_na (by omega), p1, up_eq rfl rfl]
                  have w34 : I1 (m + 34) d = v := by rw [← hI1, up_na (by omega), up_na (by omega), up_na (by omega), p1, up_eq rfl rfl]; exact p3
                  have wo : ∀ a : Int, a ≠ m → a ≠ m + 34 → a ≠ m + 36 → a ≠ m + 39 → I1 a = I a := fun a a1 a2 a3 a4 => by rw [← hI1, up_fa a1, up_fa a3, up_fa a4, up_fa a2]
                  have wlo : aLo I I1 m d := fun j j0 j1 => by
                    refine ⟨by rw [wo _ (by omega) (by omega) (by omega) (by omega)], ?_, by rw [wo _ (by omega) (by omega) (by omega) (by omega)], ?_, by rw [wo _ (by omega) (by omega) (by omega) (by omega)], by rw [wo _ (by omega) (by omega) (by omega) (by omega)], ?_⟩
                    · rw [← hI1, up_na (by omega), up_na (by omega), up_na (by omega), p1, up_nk (by omega)]
                    · rw [← hI1, up_na (by omega), p1, up_nk (by omega), up_na (by omega), up_na (by omega)]
                    · rw [← hI1, up_na (by omega), up_na (by omega), p1, up_nk (by omega), up_na (by omega)]
                  clear hI1
                  have hC1 := aCx_k hsm hsa hC hst.2
                  refine xRs_bd (ok1 := fun u l J => aOk K 1 I1 J m d u l) h (fun r l ha => ih 1 k 0 (i + 1) I1 d r l ha hd d0 (by omega) hC1 (aPre_1.mpr ⟨w48, Or.inl w49, w36⟩)) (fun p l J n ha hs hn hJ hg => ?_)
                  obtain ⟨⟨y1, y2, y3, y4, y5, y6, y7⟩, y8, y9⟩ := (aOk_4 (Or.inl rfl)).mp hJ
                  have hval : aSum J m d = (if K i = 7 then mWrap (v + p) else mWrap (v - p)) := by
                    unfold aSum
                    rw [y6, y5, y7, w39, w34, ht]
                    by_cases k7 : K i = 7
                    · rw [if_pos k7, if_neg (show ¬ 9996 + K i = 10004 by omega), if_pos rfl]
                    · rw [if_neg k7, if_pos (show 9996 + K i = 10004 by omega), if_neg (by decide)]
                  refine xRs_w (ih 5 k _ l J d res j hg hd d0 (by omega) (aCx_k hsm hsa hC1 (aSs_k hs)) (aPre_5.mpr ⟨y1, y2, hval, y8, y9⟩)) (fun u L hL => ?_)
                  obtain ⟨g1, g2⟩ := (aOk_5 (Or.inr rfl)).mp hL
                  exact (aOk_5 (Or.inr rfl)).mpr ⟨oS_t (aLo_t wlo y3) (aL3_t ⟨by rw [wo _ (by omega) (by omega) (by omega) (by omega)], by rw [wo _ (by omega) (by omega) (by omega) (by omega)], by rw [wo _ (by omega) (by omega) (by omega) (by omega)]⟩ y4) g1, g2⟩
              · rw [if_neg ko] at h
                cases h
                exact xRs_ok ((aOk_5 (Or.inr rfl)).mpr ⟨⟨p1, p2, aLo_r I m d, ⟨rfl, rfl, rfl⟩, p3⟩, fun h9 => ko (Or.inl h9), fun h9 => ko (Or.inr h9), p4, p5⟩)
            · rw [if_neg c5] at h
              obtain ⟨p1, p2, p3, p4, p5⟩ := (aPre_e c0 c1 c4 c2 c5).mp hP
              have hoE : ∀ u J l, aOk K c I J m d u l ↔ (oE I J m d u ∧ K l ≠ 7 ∧ K l ≠ 8 ∧ K l ≠ 9 ∧ K l ≠ 10) := fun u J l => aOk_e c0 c1 c4 c2 c5
              by_cases k23 : K i = 23
              · rw [if_pos k23] at h
                have ht : mTk K V i = 10010 := by rw [t2 (by omega) (by omega)]; omega
                have g49 : ∀ A : mN, aMg A I m m 49 = I m 49 := fun A => aMg_f (by omega)
                have g48 : ∀ A : mN, aMg A I m m 48 = I m 48 := fun A => aMg_f (by omega)
                have hend : ∀ A : mN, aE0 S m (aMg A I m) := fun A => ⟨aMg A I m, fun D Q => en_no (D + 2) hm (by rw [g49]; omega) (by rw [g49]; omega) Q, aKp_r _ m⟩
                by_cases hk0 : k = 0
                · rw [if_pos (Or.inl hk0)] at h
                  cases h
                  exact xRs_no (fun A hA => ⟨fun _ => hend A, fun _ => Or.inr ⟨aMg A I m, fun D Q => st_fno (D + 3) hm (Or.inl (by rw [g49]; exact p2)) (by omega) (by omega) (by omega) (by omega) (fun _ => Or.inr (by rw [g48]; omega)) Q, aKp_r _ m, hend A⟩⟩)
                · have hst : aSt S m I 10010 (aOp I m 8 1) := ⟨fun A hA D Q => sg_if (D + 3) hm p2 (by omega) (by omega) Q, aOp_k⟩
                  by_cases a1 : 60 ≤ i
                  · rw [if_pos (Or.inr a1)] at h
                    cases h
                    exact xRs_no (oX_o (fun h9 => by omega) a1 (by rw [ht]; exact hst))
                  · rw [if_neg (by omega)] at h
                    refine xRs_st ht hst (by omega) (by decide) ?_
                    have hon : aOn I (aOp I m 8 1) m d 8 1 := aOp_on p1 (aLo_r I m (d + 1))
                    obtain ⟨b1, b2, b3, b4, b5, b6, b7⟩ := id hon
                    have hC1 := aCx_k hsm hsa hC hst.2
                    generalize aOp I m 8 1 = I1 at hst hon b1 b2 b3 b4 b5 b6 b7 hC1
                    refine xRs_bd (ok1 := fun u l J => aOk K 2 I1 J m (d + 1) u l) h (fun r l ha => ih 2 (k - 1) 0 (i + 1) I1 (d + 1) r l ha (by omega) (by omega) (by omega) hC1 (aPre_2.mpr ⟨b1, Or.inl b2, b5, b6, b7⟩)) (fun l j1 J n ha hs hn hJ hg => ?_)
                    obtain ⟨⟨y1, y2, y3, ⟨y4, y5, y6⟩, y7⟩, y8⟩ := (aOk_5 (Or.inl rfl)).mp hJ
                    have hCJ := aCx_k hsm hsa hC1 (aSs_k hs)
                    have hp : aPp (J (m + 33)) (J (m + 38)) (J (m + 37)) 0 (J m 48) (aSum J m (J m 48)) (d + 1) l := ⟨y1, by rw [y1]; exact y7⟩
                    have hkJ : J (m + 33) (d + 1) = 8 := y4.trans b4
                    obtain ⟨u1, -, -, -, -, -, -, -, -, -, -⟩ := mTk_4 (hV j1)
                    by_cases hcm : K j1 ≠ 11 ∧ K j1 ≠ 12 ∧ K j1 ≠ 13
                    · rw [if_pos (Or.inl hcm)] at hg
                      cases hg
                      exact xRs_no (x_no hm (hV _) y2 y8 hp (by omega) (by omega) (by omega) (by omega) (by omega) ⟨by omega, by omega, by omega, by omega, by omega⟩)
                    · have htj : mTk K V j1 = 9996 + K j1 := u1 (by omega) (by omega)
                      have hst2 : aSt S m J (mTk K V j1) (aBg (mUp (mUp (mUp (aCl J m (d + 1) l) (m + 37) (d + 1) l) (m + 38) (d + 1) (mTk K V j1)) (m + 33) (d + 1) 9) m (d + 1) 1) := ⟨fun A hA D Q => sg_8 D hm y2 hp (by omega) (by omega) hkJ (by omega) (by omega) Q, aKp_t (aKp_t (aKp_t (aKp_t aCl_k' (aKp_u (by omega) (by omega))) (aKp_u (by omega) (by omega))) (aKp_u (by omega) (by omega))) aBg_k⟩
                      by_cases a2 : 60 ≤ j1
                      · rw [if_pos (Or.inr a2)] at hg
                        cases hg
                        exact xRs_no (oX_o (fun h9 => by omega) a2 hst2)
                      · rw [if_neg (fun h9 => h9.elim hcm a2)] at hg
                        refine xRs_st rfl hst2 (by omega) (by omega) ?_
                        have hlo2 : aLo I (mUp (mUp (mUp (aCl J m (d + 1) l) (m + 37) (d + 1) l) (m + 38) (d + 1) (mTk K V j1)) (m + 33) (d + 1) 9) m (d + 1) := fun j j0 j1 => by
                          obtain ⟨g1, g2, g3, g4, g5, g6, g7⟩ := (aLo_t b3 y3) j j0 j1
                          refine ⟨?_, ?_, ?_, ?_, ?_, ?_, ?_⟩
                          · simp (disch := first | omega | exact Nat.le_of_ble_eq_true rfl) only [ua_eq, ua_ne, up_eq, up_fa, up_nk, tk_in, tk_out, aCl_o]; exact g1
                          · simp (disch := first | omega | exact Nat.le_of_ble_eq_true rfl) only [ua_eq, ua_ne, up_eq, up_fa, up_nk, tk_in, tk_out, aCl_o]; exact g2
                          · simp (disch := first | omega | exact Nat.le_of_ble_eq_true rfl) only [ua_eq, ua_ne, up_eq, up_fa, up_nk, tk_in, tk_out, aCl_o]; exact g3
                          · simp (disch := first | omega | exact Nat.le_of_ble_eq_true rfl) only [ua_eq, ua_ne, up_eq, up_fa, up_nk, tk_in, tk_out, aCl_o]; exact g4
                          · simp (disch := first | omega | exact Nat.le_of_ble_eq_true rfl) only [ua_eq, ua_ne, up_eq, up_fa, up_nk, tk_in, tk_out, aCl_o]; exact g5
                          · simp (disch := first | omega | exact Nat.le_of_ble_eq_true rfl) only [ua_eq, ua_ne, up_eq, up_fa, up_nk, tk_in, tk_out, aCl_o]; exact g6
                          · simp (disch := first | omega | exact Nat.le_of_ble_eq_true rfl) only [ua_eq, ua_ne, up_eq, up_fa, up_nk, tk_in, tk_out, aCl_o]; exact g7
                        have hon2 : aOn I (aBg (mUp (mUp (mUp (aCl J m (d + 1) l) (m + 37) (d + 1) l) (m + 38) (d + 1) (mTk K V j1)) (m + 33) (d + 1) 9) m (d + 1) 1) m d 9 1 := aBg_on (by simp (disch := first | omega | exact Nat.le_of_ble_eq_true rfl) only [ua_eq, ua_ne, up_eq, up_fa, up_nk, tk_in, tk_out]; exact aCl_48) hlo2 (up_eq rfl rfl)
                        have hlf2 : (aBg (mUp (mUp (mUp (aCl J m (d + 1) l) (m + 37) (d + 1) l) (m + 38) (d + 1) (mTk K V j1)) (m + 33) (d + 1) 9) m (d + 1) 1) (m + 37) (d + 1) = l := by unfold aBg; simp (disch := first | omega | exact Nat.le_of_ble_eq_true rfl) only [ua_eq, ua_ne, up_eq, up_fa, up_nk, tk_in, tk_out]
                        have hmk2 : (aBg (mUp (mUp (mUp (aCl J m (d + 1) l) (m + 37) (d + 1) l) (m + 38) (d + 1) (mTk K V j1)) (m + 33) (d + 1) 9) m (d + 1) 1) (m + 38) (d + 1) = mTk K V j1 := by unfold aBg; simp (disch := first | omega | exact Nat.le_of_ble_eq_true rfl) only [ua_eq, ua_ne, up_eq, up_fa, up_nk, tk_in, tk_out]
                        obtain ⟨e1, e2, e3, e4, e5, e6, e7⟩ := id hon2
                        have hC2 := aCx_k hsm hsa hCJ hst2.2
                        generalize aBg (mUp (mUp (mUp (aCl J m (d + 1) l) (m + 37) (d + 1) l) (m + 38) (d + 1) (mTk K V j1)) (m + 33) (d + 1) 9) m (d + 1) 1 = I2 at hst2 hon2 hlf2 hmk2 e1 e2 e3 e4 e5 e6 e7 hC2
                        refine xRs_bd (ok1 := fun u l J => aOk K 2 I2 J m (d + 1) u l) hg (fun r l ha => ih 2 (k - 1) 0 (j1 + 1) I2 (d + 1) r l ha (by omega) (by omega) (by omega) hC2 (aPre_2.mpr ⟨e1, Or.inl e2, e5, e6, e7⟩)) (fun r j2 J2 n2 ha2 hs2 hn2 hJ2 hg2 => ?_)
                        obtain ⟨⟨x1, x2, x3, ⟨x4, x5, x6⟩, x7⟩, x8⟩ := (aOk_5 (Or.inl rfl)).mp hJ2
                        have hCJ2 := aCx_k hsm hsa hC2 (aSs_k hs2)
                        have hp2 : aPp (J2 (m + 33)) (J2 (m + 38)) (J2 (m + 37)) 0 (J2 m 48) (aSum J2 m (J2 m 48)) (d + 1) r := ⟨x1, by rw [x1]; exact x7⟩
                        have hkJ2 : J2 (m + 33) (d + 1) = 9 := x4.trans e4
                        have hHo : aHo J2 m (d + 1) r = zHo l (K j1) r := by
                          unfold aHo zHo
                          rw [x6, hmk2, x5, hlf2, htj]
                          by_cases q11 : K j1 = 11
                          · rw [if_pos (by omega), if_pos q11]
                          · rw [if_neg (by omega), if_neg q11]
                            by_cases q12 : K j1 = 12
                            · rw [if_pos (by omega), if_pos q12]
                            · rw [if_neg (by omega), if_neg q12]
                        obtain ⟨-, v2, -, -, -, -, -, -, -, -, -⟩ := mTk_4 (hV j2)
                        by_cases h24 : K j2 = 24
                        · have htj2 : mTk K V j2 = 10011 := by rw [v2 (by omega) (by omega)]; omega
                          have hst3 : aSt S m J2 10011 (aBg (mUp (mUp (aCl J2 m (d + 1) r) (m + 38) (d + 1) (aHo J2 m (d + 1) r)) (m + 33) (d + 1) 10) m (d + 1) 0) := ⟨fun A hA D Q => sg_9 D hm x2 hp2 (by omega) (by omega) hkJ2 Q, aKp_t (aKp_t (aKp_t aCl_k' (aKp_u (by omega) (by omega))) (aKp_u (by omega) (by omega))) aBg_k⟩
                          by_cases a3 : 60 ≤ j2
                          · rw [if_pos (Or.inr a3)] at hg2
                            cases hg2
                            exact xRs_no (oX_o (fun h9 => by omega) a3 (by rw [htj2]; exact hst3))
                          · rw [if_neg (fun h9 => h9.elim (fun h8 => h8 h24) a3)] at hg2
                            refine xRs_st htj2 hst3 (by omega) (by decide) ?_
                            have hlo3 : aLo I (mUp (mUp (aCl J2 m (d + 1) r) (m + 38) (d + 1) (aHo J2 m (d + 1) r)) (m + 33) (d + 1) 10) m (d + 1) := fun j j0 j1 => by
                              obtain ⟨g1, g2, g3, g4, g5, g6, g7⟩ := (aLo_t e3 x3) j j0 j1
                              refine ⟨?_, ?_, ?_, ?_, ?_, ?_, ?_⟩
                              · simp (disch := first | omega | exact Nat.le_of_ble_eq_true rfl) only [ua_eq, ua_ne, up_eq, up_fa, up_nk, tk_in, tk_out, aCl_o]; exact g1
                              · simp (disch := first | omega | exact Nat.le_of_ble_eq_true rfl) only [ua_eq, ua_ne, up_eq, up_fa, up_nk, tk_in, tk_out, aCl_o]; exact g2
                              · simp (disch := first | omega | exact Nat.le_of_ble_eq_true rfl) only [ua_eq, ua_ne, up_eq, up_fa, up_nk, tk_in, tk_out, aCl_o]; exact g3
                              · simp (disch := first | omega | exact Nat.le_of_ble_eq_true rfl) only [ua_eq, ua_ne, up_eq, up_fa, up_nk, tk_in, tk_out, aCl_o]; exact g4
                              · simp (disch := first | omega | exact Nat.le_of_ble_eq_true rfl) only [ua_eq, ua_ne, up_eq, up_fa, up_nk, tk_in, tk_out, aCl_o]; exact g5
                              · simp (disch := first | omega | exact Nat.le_of_ble_eq_true rfl) only [ua_eq, ua_ne, up_eq, up_fa, up_nk, tk_in, tk_out, aCl_o]; exact g6
                              · simp (disch := first | omega | exact Nat.le_of_ble_eq_true rfl) only [ua_eq, ua_ne, up_eq, up_fa, up_nk, tk_in, tk_out, aCl_o]; exact g7
                            have hon3 : aOn I (aBg (mUp (mUp (aCl J2 m (d + 1) r) (m + 38) (d + 1) (aHo J2 m (d + 1) r)) (m + 33) (d + 1) 10) m (d + 1) 0) m d 10 0 := aBg_on (by simp (disch := first | omega | exact Nat.le_of_ble_eq_true rfl) only [ua_eq, ua_ne, up_eq, up_fa, up_nk, tk_in, tk_out]; exact aCl_48) hlo3 (up_eq rfl rfl)
                            have hmk3 : (aBg (mUp (mUp (aCl J2 m (d + 1) r) (m + 38) (d + 1) (aHo J2 m (d + 1) r)) (m + 33) (d + 1) 10) m (d + 1) 0) (m + 38) (d + 1) = zHo l (K j1) r := by rw [← hHo]; unfold aBg; simp (disch := first | omega | exact Nat.le_of_ble_eq_true rfl) only [ua_eq, ua_ne, up_eq, up_fa, up_nk, tk_in, tk_out]
                            obtain ⟨f1, f2, f3, f4, f5, f6, f7⟩ := id hon3
                            have hC3 := aCx_k hsm hsa hCJ2 hst3.2
                            generalize aBg (mUp (mUp (aCl J2 m (d + 1) r) (m + 38) (d + 1) (aHo J2 m (d + 1) r)) (m + 33) (d + 1) 10) m (d + 1) 0 = I3 at hst3 hon3 hmk3 f1 f2 f3 f4 f5 f6 f7 hC3
                            refine xRs_bd (ok1 := fun u l J => aOk K 3 I3 J m (d + 1) u l) hg2 (fun r l ha => ih 3 (k - 1) 0 (j2 + 1) I3 (d + 1) r l ha (by omega) (by omega) (by omega) hC3 (aPre_3.mpr ⟨f1, f2, f5, f6, f7⟩)) (fun y j3 J3 n3 ha3 hs3 hn3 hJ3 hg3 => ?_)
                            obtain ⟨⟨o1, o2, o3, ⟨o4, o5, o6⟩, on, o7⟩, o8⟩ := aOk_3.mp hJ3
                            have hCJ3 := aCx_k hsm hsa hC3 (aSs_k hs3)
                            have hkJ3 : J3 (m + 33) (d + 1) = 10 := o4.trans f4
                            obtain ⟨-, v3, -, -, -, -, -, -, -, -, -⟩ := mTk_4 (hV j3)
                            by_cases h25 : K j3 = 25
                            · have htj3 : mTk K V j3 = 10012 := by rw [v3 (by omega) (by omega)]; omega
                              have hst4 : aSt S m J3 10012 (aBg (mUp (mUp (aCl J3 m (d + 1) y) (m + 37) (d + 1) y) (m + 33) (d + 1) 11) m (d + 1) 0) := ⟨fun A hA D Q => sg_10 D hm o1 o7 (by omega) o2 hkJ3 Q, aKp_t (aKp_t (aKp_t aCl_k' (aKp_u (by omega) (by omega))) (aKp_u (by omega) (by omega))) aBg_k⟩
                              by_cases a4 : 60 ≤ j3
                              · rw [if_pos (Or.inr a4)] at hg3
                                cases hg3
                                exact xRs_no (oX_o (fun h9 => by omega) a4 (by rw [htj3]; exact hst4))
                              · rw [if_neg (fun h9 => h9.elim (fun h8 => h8 h25) a4)] at hg3
                                refine xRs_st htj3 hst4 (by omega) (by decide) ?_
                                have hlo4 : aLo I (mUp (mUp (aCl J3 m (d + 1) y) (m + 37) (d + 1) y) (m + 33) (d + 1) 11) m (d + 1) := fun j j0 j1 => by
                                  obtain ⟨g1, g2, g3, g4, g5, g6, g7⟩ := (aLo_t f3 o3) j j0 j1
                                  refine ⟨?_, ?_, ?_, ?_, ?_, ?_, ?_⟩
                                  · simp (disch := first | omega | exact Nat.le_of_ble_eq_true rfl) only [ua_eq, ua_ne, up_eq, up_fa, up_nk, tk_in, tk_out, aCl_o]; exact g1
                                  · simp (disch := first | omega | exact Nat.le_of_ble_eq_true rfl) only [ua_eq, ua_ne, up_eq, up_fa, up_nk, tk_in, tk_out, aCl_o]; exact g2
                                  · simp (disch := first | omega | exact Nat.le_of_ble_eq_true rfl) only [ua_eq, ua_ne, up_eq, up_fa, up_nk, tk_in, tk_out, aCl_o]; exact g3
                                  · simp (disch := first | omega | exact Nat.le_of_ble_eq_true rfl) only [ua_eq, ua_ne, up_eq, up_fa, up_nk, tk_in, tk_out, aCl_o]; exact g4
                                  · simp (disch := first | omega | exact Nat.le_of_ble_eq_true rfl) only [ua_eq, ua_ne, up_eq, up_fa, up_nk, tk_in, tk_out, aCl_o]; exact g5
                                  · simp (disch := first | omega | exact Nat.le_of_ble_eq_true rfl) only [ua_eq, ua_ne, up_eq, up_fa, up_nk, tk_in, tk_out, aCl_o]; exact g6
                                  · simp (disch := first | omega | exact Nat.le_of_ble_eq_true rfl) only [ua_eq, ua_ne, up_eq, up_fa, up_nk, tk_in, tk_out, aCl_o]; exact g7
                                have hon4 : aOn I (aBg (mUp (mUp (aCl J3 m (d + 1) y) (m + 37) (d + 1) y) (m + 33) (d + 1) 11) m (d + 1) 0) m d 11 0 := aBg_on (by simp (disch := first | omega | exact Nat.le_of_ble_eq_true rfl) only [ua_eq, ua_ne, up_eq, up_fa, up_nk, tk_in, tk_out]; exact aCl_48) hlo4 (up_eq rfl rfl)
                                have hlf4 : (aBg (mUp (mUp (aCl J3 m (d + 1) y) (m + 37) (d + 1) y) (m + 33) (d + 1) 11) m (d + 1) 0) (m + 37) (d + 1) = y := by unfold aBg; simp (disch := first | omega | exact Nat.le_of_ble_eq_true rfl) only [ua_eq, ua_ne, up_eq, up_fa, up_nk, tk_in, tk_out]
                                have hmk4 : (aBg (mUp (mUp (aCl J3 m (d + 1) y) (m + 37) (d + 1) y) (m + 33) (d + 1) 11) m (d + 1) 0) (m + 38) (d + 1) = zHo l (K j1) r := by
                                  have e0 : (aCl J3 m (d + 1) y) (m + 38) (d + 1) = J3 (m + 38) (d + 1) := by rw [aCl_o (by omega)]
                                  unfold aBg
                                  simp (disch := first | omega | exact Nat.le_of_ble_eq_true rfl) only [ua_eq, ua_ne, up_eq, up_fa, up_nk, tk_in, tk_out]
                                  rw [e0, o6]; exact hmk3
                                obtain ⟨g1, g2, g3, g4, g5, g6, g7⟩ := id hon4
                                have hC4 := aCx_k hsm hsa hCJ3 hst4.2
                                generalize aBg (mUp (mUp (aCl J3 m (d + 1) y) (m + 37) (d + 1) y) (m + 33) (d + 1) 11) m (d + 1) 0 = I4 at hst4 hon4 hlf4 hmk4 g1 g2 g3 g4 g5 g6 g7 hC4
                                refine xRs_bd (ok1 := fun u l J => aOk K 3 I4 J m (d + 1) u l) hg3 (fun r l ha => ih 3 (k - 1) 0 (j3 + 1) I4 (d + 1) r l ha (by omega) (by omega) (by omega) hC4 (aPre_3.mpr ⟨g1, g2, g5, g6, g7⟩)) (fun z j4 J4 n4 ha4 hs4 hn4 hJ4 hg4 => ?_)
                                obtain ⟨⟨m1, m2, m3, ⟨m4, m5, m6⟩, mn, m7⟩, m8⟩ := aOk_3.mp hJ4
                                have hg4 : some (some (if zHo l (K j1) r = 1 then y else z), j4) = some (res, j) := hg4
                                cases hg4
                                refine xRs_ok ((hoE _ _ _).mpr ⟨⟨m1, m2, aLo_d (aLo_t g3 m3) (by omega), ?_, mn + 1, ?_⟩, m8⟩)
                                · obtain ⟨z1, z2, z3, z4, z5, z6, z7⟩ := (aLo_t g3 m3) d d0 (by omega)
                                  exact ⟨z1, z5, z6⟩
                                · have hpp := aPp_s m7 (m4.trans g4)
                                  rw [m6, m5, hmk4, hlf4, show d + 1 - 1 = d by omega] at hpp
                                  exact hpp
                            · rw [if_pos (Or.inl h25)] at hg3
                              cases hg3
                              exact xRs_no (x_no hm (hV _) o1 o8 o7 (by omega) o2 (by omega) (by omega) (by omega) ⟨by omega, by omega, by omega, by omega, fun _ => h25⟩)
                        · rw [if_pos (Or.inl h24)] at hg2
                          cases hg2
                          exact xRs_no (x_no hm (hV _) x2 x8 hp2 (by omega) (by omega) (by omega) (by omega) (by omega) ⟨by omega, by omega, by omega, fun _ => h24, by omega⟩)
              · rw [if_neg k23] at h
                refine xRs_w (ih 2 k 0 i I d res j h hd d0 i0 hC (aPre_2.mpr ⟨p1, Or.inr ⟨p2, k23⟩, p3, p4, p5⟩)) (fun u L hL => ?_)
                obtain ⟨⟨y1, y2, y3, y4, y7⟩, y8⟩ := (aOk_5 (Or.inl rfl)).mp hL
                exact (hoE _ _ _).mpr ⟨⟨y2, by omega, y3, y4, 0, y1, by rw [y1]; exact y7⟩, y8⟩
end SW
