section SV
variable {S : mH} {m sA s wk : Int} {σ : sT} {K V : Int → Int}
def xRs (S : mH) (m : Int) (K V : Int → Int) (I : mN) (i : Int) (res : Option Int) (j : Int) (ok : Int → mN → Prop) : Prop := ∃ (n : Nat) (J : mN), aSs S m (mTk K V) n I i J ∧ i + n = j ∧ (∀ u : Int, res = some u → ok u J) ∧ (res = none → oX S m (mTk K V) J j)
theorem xRs_pre {I I1 : mN} {i : Int} {n : Nat} {res : Option Int} {j : Int} {ok : Int → mN → Prop} (h : aSs S m (mTk K V) n I i I1) (h2 : xRs S m K V I1 (i + n) res j ok) : xRs S m K V I i res j ok := by
  obtain ⟨n2, J, a1, a2, a3, a4⟩ := h2
  exact ⟨n + n2, J, aSs_t h a1, by omega, a3, a4⟩
theorem xRs_ok {I : mN} {i u : Int} {ok : Int → mN → Prop} (h : ok u I) : xRs S m K V I i (some u) i ok := ⟨0, I, rfl, by omega, fun u' h' => by cases h'; exact h, fun h' => by cases h'⟩
theorem xRs_no {I : mN} {i : Int} {ok : Int → mN → Prop} (h : oX S m (mTk K V) I i) : xRs S m K V I i none i ok := ⟨0, I, rfl, by omega, fun u' h' => (by cases h'), fun _ => h⟩
theorem xRs_w {I : mN} {i : Int} {res : Option Int} {j : Int} {ok ok' : Int → mN → Prop} (h : xRs S m K V I i res j ok) (hw : ∀ u J, ok u J → ok' u J) : xRs S m K V I i res j ok' := by
  obtain ⟨n, J, a1, a2, a3, a4⟩ := h
  exact ⟨n, J, a1, a2, fun u hu => hw u J (a3 u hu), a4⟩
/-- one step, then on -/
theorem xRs_st {I I1 : mN} {i t : Int} {res : Option Int} {j : Int} {ok : Int → mN → Prop} (ht : mTk K V i = t) (h : aSt S m I t I1) (hi : i < 60) (hn : t ≠ -1) (h2 : xRs S m K V I1 (i + 1) res j ok) : xRs S m K V I i res j ok :=
  xRs_pre (n := 1) (aSs_1 (by rw [ht]; exact h) hi (by rw [ht]; exact hn)) h2
theorem aSt_n {I : mN} {t v : Int} (hm : yM S m) (n0 : I m 49 = 0 ∨ I m 49 = 1) (d0 : 0 ≤ I m 48) (d1 : I m 48 < 9) (ht : (t < 10000 ∧ v = t) ∨ (t = 10013 ∧ v = I m 47)) : aSt S m I t (aHf I m (I m 48) v) := ⟨fun A hA D Q => sg_num (D + 4) hm hA n0 d0 d1 ht Q, aHf_k⟩
/-- sim: the statement, one kind at a fuel -/
def xSim (S : mH) (m sA s wk : Int) (σ : sT) (K V : Int → Int) (f : Nat) : Prop := ∀ (c k : Nat) (v i : Int) (I : mN) (d : Int) (res : Option Int) (j : Int), zXf K V wk (sFl σ s) f c k v i = some (res, j) → d + k = 8 → 0 ≤ d → 0 ≤ i → aCx m sA s wk σ I → aPre K c I m d v i → xRs S m K V I i res j (fun u J => aOk K c I J m d u j)
theorem sim_fac (hm : yM S m) (hsm : sA ≠ m) (hsa : sA < m + 33 ∨ m + 39 < sA) (hrow : S.1 m 45 = sA) (hsk : S.2.1 sA = 50) (hsl : S.2.2.1 sA = 1395) (hσ1 : 0 ≤ σ 1 ∧ σ 1 ≤ 6) (hσb : ∀ s p j : Int, 0 ≤ s → s < 3 → 0 ≤ p → p < 6 → 0 ≤ j → j < 8 → 0 ≤ σ (115 + 48 * s + 8 * p + j) ∧ σ (115 + 48 * s + 8 * p + j) ≤ 10000) (s0 : 0 ≤ s) (s1 : s < 3) (w0 : 0 ≤ wk) (w1 : wk < 8) (hV : ∀ j : Int, K j = 2 → 0 ≤ V j ∧ V j ≤ 9999) {f : Nat} (ih : xSim S m sA s wk σ K V f) {k : Nat} {i d : Int} {I : mN} {res : Option Int} {j : Int} (hd : d + k = 8) (d0 : 0 ≤ d) (i0 : 0 ≤ i) (hC : aCx m sA s wk σ I) (h48 : I m 48 = d) (hnx : I m 49 = 1 ∨ (I m 49 = 0 ∧ K i ≠ 23))
    (h : zXf K V wk (sFl σ s) (f + 1) 0 k 0 i = some (res, j)) : xRs S m K V I i res j (fun u J => oF I J m d u) := by
  have hn0 : I m 49 = 0 ∨ I m 49 = 1 := by omega
  obtain ⟨t1, t2, t3, t4, t5, q1, q2, q3, q4, q5, q6⟩ := mTk_4 (hV i)
  rw [zXf] at h
  rw [if_pos rfl] at h
  have hFac : ∀ v : Int, oF I (aHf I m (I m 48) v) m d v := fun v => by
    unfold aHf
    rw [h48]
    refine ⟨?_, up_eq rfl rfl, fun j j0 j1 => ⟨?_, ?_, ?_, ?_, ?_, ?_, ?_⟩, ⟨?_, ?_, ?_⟩, ?_, ?_, ?_, ?_⟩
    · simp (disch := first | omega | exact Nat.le_of_ble_eq_true rfl) only [ua_eq, ua_ne, up_eq, up_fa, up_nk, tk_in, tk_out]; exact h48
    all_goals simp (disch := first | omega | exact Nat.le_of_ble_eq_true rfl) only [ua_eq, ua_ne, up_eq, up_fa, up_nk, tk_in, tk_out]
  -- the bracket behind an opening
  have body : ∀ (I1 : mN) (i1 kd : Int) (res : Option Int) (j : Int), 0 ≤ i1 → k ≠ 0 → aOn I I1 m d kd 0 → aCx m sA s wk σ I1 → (kd = 1 ∨ kd = 2 ∨ kd = 3 ∨ kd = 4 ∨ kd = 6) → ∀ g : Int → Int → Option (Option Int × Int), (∀ (p l : Int) (J : mN) (res : Option Int) (j : Int), oE I1 J m (d + 1) p → K l ≠ 7 → K l ≠ 8 → K l ≠ 9 → K l ≠ 10 → aCx m sA s wk σ J → 0 ≤ l → g p l = some (res, j) → xRs S m K V J l res j (fun u J => oF I J m d u)) → xBd (zXf K V wk (sFl σ s) f 3 (k - 1) 0 i1) g = some (res, j) → xRs S m K V I1 i1 res j (fun u J => oF I J m d u) := by
    intro I1 i1 kd res j i10 hk0 hon hC1 hkd g hg hx
    obtain ⟨b1, b2, b3, b4, b5, b6, b7⟩ := hon
    have hpre : aPre K 3 I1 m (d + 1) 0 i1 := ⟨b1, by simp only [if_neg (show ¬ (3 : Nat) = 0 by decide), if_neg (show ¬ (3 : Nat) = 1 by decide), if_neg (show ¬ (3 : Nat) = 4 by decide), if_neg (show ¬ (3 : Nat) = 2 by decide), if_neg (show ¬ (3 : Nat) = 5 by decide)]; exact ⟨b2, b5, b6, b7⟩⟩
    match hz : zXf K V wk (sFl σ s) f 3 (k - 1) 0 i1, hx with
    | some (none, l), hx =>
      cases hx
      obtain ⟨n, J, a1, a2, a3, a4⟩ := ih 3 (k - 1) 0 i1 I1 (d + 1) none _ hz (by omega) (by omega) i10 hC1 hpre
      exact ⟨n, J, a1, a2, fun u hu => (by cases hu), fun _ => a4 rfl⟩
    | some (some p, l), hx =>
      obtain ⟨n, J, a1, a2, a3, a4⟩ := ih 3 (k - 1) 0 i1 I1 (d + 1) (some p) l hz (by omega) (by omega) i10 hC1 hpre
      have hok := a3 p rfl
      have hok : oE I1 J m (d + 1) p ∧ K l ≠ 7 ∧ K l ≠ 8 ∧ K l ≠ 9 ∧ K l ≠ 10 := by
        unfold aOk at hok
        simp only [if_neg (show ¬ (3 : Nat) = 0 by decide), if_neg (show ¬ ((3 : Nat) = 1 ∨ (3 : Nat) = 4) by decide), if_neg (show ¬ ((3 : Nat) = 2 ∨ (3 : Nat) = 5) by decide)] at hok
        exact hok
      refine xRs_pre a1 ?_
      rw [a2]
      exact hg p l J res j hok.1 hok.2.1 hok.2.2.1 hok.2.2.2.1 hok.2.2.2.2 (aCx_k hsm hsa hC1 (aSs_k a1)) (by omega) hx
  -- closed by its bracket
  have clo : ∀ (I1 : mN) (kd val p l : Int) (J : mN) (res : Option Int) (j : Int), aOn I I1 m d kd 0 → oE I1 J m (d + 1) p → K l ≠ 7 → K l ≠ 8 → K l ≠ 9 → K l ≠ 10 → aCx m sA s wk σ J → 0 ≤ l → ((kd = 1 ∧ val = p) ∨ (kd = 2 ∧ val = sFl σ s p wk wk) ∨ (kd = 3 ∧ val = sFl σ s p 0 7)) → (if K l ≠ 5 ∨ 60 ≤ l then some (none, l) else some (some val, l + 1)) = some (res, j) → xRs S m K V J l res j (fun u J => oF I J m d u) := by
    intro I1 kd val p l J res j hon hE k7 k8 k9 k10 hCJ l0 hkd hx
    obtain ⟨b1, b2, b3, b4, b5, b6, b7⟩ := hon
    obtain ⟨e1, e2, e3, ⟨e4, e5, e6⟩, n, e7⟩ := hE
    have hkJ : J (m + 33) (d + 1) = kd := e4.trans b4
    obtain ⟨u1, -, -, -, -, -, -, -, -, -, -⟩ := mTk_4 (hV l)
    have hstep : aSt S m J 10001 (aFin J m (d + 1) p val) := by
      refine ⟨fun A hA D Q => ?_, aFin_k⟩
      rcases hkd with ⟨h9, rfl⟩ | ⟨h9, h8⟩ | ⟨h9, h8⟩
      · exact sg_1 D hm e1 e7 (by omega) e2 (by rw [hkJ]; exact h9) Q
      · exact sg_2 D hm hA hrow hsk hsl hsm hsa hCJ.2.2 hσ1 hσb (by rw [hCJ.1]; exact s0) (by rw [hCJ.1]; exact s1) (by rw [hCJ.2.1]; exact w0) (by rw [hCJ.2.1]; exact w1) e1 e7 (by omega) e2 (Or.inl ⟨by rw [hkJ]; exact h9, by rw [hCJ.1, hCJ.2.1]; exact h8⟩) Q
      · exact sg_2 D hm hA hrow hsk hsl hsm hsa hCJ.2.2 hσ1 hσb (by rw [hCJ.1]; exact s0) (by rw [hCJ.1]; exact s1) (by rw [hCJ.2.1]; exact w0) (by rw [hCJ.2.1]; exact w1) e1 e7 (by omega) e2 (Or.inr ⟨by rw [hkJ]; exact h9, by rw [hCJ.1]; exact h8⟩) Q
    by_cases h5 : K l = 5
    · have ht : mTk K V l = 10001 := by rw [u1 (by omega) (by omega)]; omega
      by_cases h6 : 60 ≤ l
      · rw [if_pos (Or.inr h6)] at hx
        cases hx
        exact xRs_no (oX_o (fun h9 => by omega) h6 (by rw [ht]; exact hstep))
      · rw [if_neg (by omega)] at hx
        cases hx
        exact xRs_st ht hstep (by omega) (by decide) (xRs_ok (aFin_f d0 b3 e3))
    · rw [if_pos (Or.inl h5)] at hx
      cases hx
      exact xRs_no (x_no hm (hV l) e1 ⟨k7, k8, k9, k10⟩ e7 (by omega) e2 (by omega) (by omega) (by omega) ⟨fun _ => h5, by omega, by omega, by omega, by omega⟩)
  by_cases k2 : K i = 2
  · rw [if_pos k2] at h
    have hv := hV i k2
    by_cases hi : i < 60
    · rw [if_pos hi] at h
      cases h
      exact xRs_st (t5 k2) (aSt_n hm hn0 (by omega) (by omega) (Or.inl ⟨by omega, rfl⟩)) hi (by omega) (xRs_ok (hFac _))
    · rw [if_neg hi] at h
      cases h
      exact xRs_no (oX_o (fun h9 => by have := t5 k2; omega) (by omega) (by rw [t5 k2]; exact aSt_n hm hn0 (by omega) (by omega) (Or.inl ⟨by omega, rfl⟩)))
  · rw [if_neg k2] at h
    by_cases k17 : K i = 17
    · rw [if_pos k17] at h
      by_cases hi : i < 60
      · rw [if_pos hi] at h
        cases h
        exact xRs_st (t4 k17) (aSt_n hm hn0 (by omega) (by omega) (Or.inr ⟨rfl, hC.2.1.symm⟩)) hi (by decide) (xRs_ok (hFac _))
      · rw [if_neg hi] at h
        cases h
        exact xRs_no (oX_o (fun h9 => by have := t4 k17; omega) (by omega) (by rw [t4 k17]; exact aSt_n hm hn0 (by omega) (by omega) (Or.inr ⟨rfl, hC.2.1.symm⟩)))
    · rw [if_neg k17] at h
      by_cases kw : 26 ≤ K i ∧ K i ≤ 29
      · rw [if_pos kw] at h
        have htw := t3 kw.1 kw.2
        have hw : aSt S m I (mTk K V i) (mUp (mUp I m 50 (mTk K V i)) m 49 2) := ⟨fun A hA D Q => sg_word (D + 3) hm hn0 (by omega) (by omega) Q, aKp_t (aKp_m (by decide) (by decide)) (aKp_m (by decide) (by decide))⟩
        by_cases a1 : 60 ≤ i
        · rw [if_pos a1] at h
          cases h
          exact xRs_no (oX_o (fun h9 => by omega) a1 hw)
        · rw [if_neg a1] at h
          refine xRs_st rfl hw (by omega) (by omega) ?_
          generalize hIw : mUp (mUp I m 50 (mTk K V i)) m 49 2 = Iw
          have w49 : Iw m 49 = 2 := by rw [← hIw]; exact up_eq rfl rfl
          have w48 : Iw m 48 = d := by rw [← hIw, up_nk (by decide), up_nk (by decide)]; exact h48
          have w50 : Iw m 50 = mTk K V i := by rw [← hIw, up_nk (by decide), up_eq rfl rfl]
          have wkp : aKp I Iw m := by rw [← hIw]; exact hw.2
          have wlo : aLo I Iw m (d + 1) := fun j j0 j1 => by
            rw [← hIw]
            refine ⟨?_, ?_, ?_, ?_, ?_, ?_, ?_⟩
            all_goals simp (disch := first | omega | exact Nat.le_of_ble_eq_true rfl) only [ua_eq, ua_ne, up_eq, up_fa, up_nk, tk_in, tk_out]
          clear hIw
          have hCw := aCx_k hsm hsa hC wkp
          obtain ⟨v1, v2, v3, v4, v5, z1, z2, z3, z4, z5, z6⟩ := mTk_4 (hV (i + 1))
          have hop : aSt S m Iw 10000 (aOp Iw m (aKd (mTk K V i)) 0) ∨ k = 0 := by
            by_cases hk0 : k = 0
            · exact Or.inr hk0
            · left
              refine ⟨fun A hA D Q => ?_, aOp_k⟩
              have := sg_wop (A := A) (D + 4) hm w49 (by omega) (by omega) Q
              rw [w50] at this
              exact this
          by_cases a2 : k = 0 ∨ K (i + 1) ≠ 4 ∨ 60 ≤ i + 1
          · rw [if_pos a2] at h
            cases h
            have g49 : ∀ A : mN, aMg A Iw m m 49 = 2 := fun A => by rw [aMg_f (by omega)]; exact w49
            have g48 : ∀ A : mN, aMg A Iw m m 48 = d := fun A => by rw [aMg_f (by omega)]; exact w48
            have gen : ∀ A : mN, aE0 S m (aMg A Iw m) := fun A => ⟨aMg A Iw m, fun D Q => en_no (D + 2) hm (by rw [g49]; decide) (by rw [g49]; decide) Q, aKp_r _ m⟩
            by_cases hk0 : k = 0
            · exact xRs_no (fun A hA => ⟨fun _ => gen A, fun hne => Or.inr ⟨aMg A Iw m, fun D Q => st_wno (D + 4) hm (g49 A) (Or.inr (by rw [g48]; omega)) Q, aKp_r _ m, gen A⟩⟩)
            · by_cases h4 : K (i + 1) = 4
              · have e0 : mTk K V (i + 1) = 10000 := by rw [v1 (by omega) (by omega)]; omega
                exact xRs_no (oX_o (fun h9 => by omega) (by omega) (by rw [e0]; exact hop.resolve_right hk0))
              · exact xRs_no (fun A hA => ⟨fun _ => gen A, fun hne => Or.inr ⟨aMg A Iw m, fun D Q => st_wno (D + 4) hm (g49 A) (Or.inl (fun h9 => h4 (z1 4 (by decide) (by decide) h9))) Q, aKp_r _ m, gen A⟩⟩)
          · rw [if_neg a2] at h
            have hk0 : k ≠ 0 := fun h9 => a2 (Or.inl h9)
            have h4 : K (i + 1) = 4 := by omega
            have hos := hop.resolve_right hk0
            have hon : aOn I (aOp Iw m (aKd (mTk K V i)) 0) m d (aKd (mTk K V i)) 0 := aOp_on w48 wlo
            refine xRs_st (show mTk K V (i + 1) = 10000 by rw [v1 (by omega) (by omega)]; omega) hos (by omega) (by decide) ?_
            rw [show i + 1 + 1 = i + 2 by omega]
            have hKd : (K i = 26 → aKd (mTk K V i) = 2) ∧ (K i = 27 → aKd (mTk K V i) = 3) ∧ (K i = 28 → aKd (mTk K V i) = 4) ∧ (K i = 29 → aKd (mTk K V i) = 6) := by
              unfold aKd
              rw [htw]
              refine ⟨fun e => ?_, fun e => ?_, fun e => ?_, fun e => ?_⟩ <;> rw [e] <;> decide
            refine body _ (i + 2) (aKd (mTk K V i)) res j (by omega) hk0 hon (aCx_k hsm hsa hCw hos.2) (by
              have h9 : K i = 26 ∨ K i = 27 ∨ K i = 28 ∨ K i = 29 := by omega
              rcases h9 with e | e | e | e
              · rw [hKd.1 e]; decide
              · rw [hKd.2.1 e]; decide
              · rw [hKd.2.2.1 e]; decide
              · rw [hKd.2.2.2 e]; decide) _ (fun p l J res j hE k7 k8 k9 k10 hCJ l0 hx => ?_) h
            by_cases a3 : K i = 28 ∨ K i = 29
            · rw [if_pos a3] at hx
              obtain ⟨b1, b2, b3, b4, b5, b6, b7⟩ := id hon
              obtain ⟨e1, e2, e3, ⟨e4, e5, e6⟩, n, e7⟩ := id hE
              have hkJ : J (m + 33) (d + 1) = aKd (mTk K V i) := e4.trans b4
              have hk46 : aKd (mTk K V i) = 4 ∨ aKd (mTk K V i) = 6 := by
                rcases a3 with e | e
                · exact Or.inl (hKd.2.2.1 e)
                · exact Or.inr (hKd.2.2.2 e)
              obtain ⟨u1, -, -, -, -, -, -, -, -, -, -⟩ := mTk_4 (hV l)
              have hcs : aSt S m J 10002 (aBg (mUp (mUp (aCl J m (d + 1) p) (m + 37) (d + 1) p) (m + 33) (d + 1) (J (m + 33) (d + 1) + 1)) m (d + 1) 0) := ⟨fun A hA D Q => sg_4 D hm e1 e7 (by omega) e2 (by rw [hkJ]; exact hk46) Q, aKp_t (aKp_t (aKp_t aCl_k' (aKp_u (by omega) (by omega))) (aKp_u (by omega) (by omega))) aBg_k⟩
              by_cases h6 : K l = 6
              · have ht : mTk K V l = 10002 := by rw [u1 (by omega) (by omega)]; omega
                by_cases h60 : 60 ≤ l
                · rw [if_pos (Or.inr h60)] at hx
                  cases hx
                  exact xRs_no (oX_o (fun h9 => by omega) h60 (by rw [ht]; exact hcs))
                · rw [if_neg (by omega)] at hx
                  refine xRs_st ht hcs (by omega) (by decide) ?_
                  have hlo2 : aLo I (mUp (mUp (aCl J m (d + 1) p) (m + 37) (d + 1) p) (m + 33) (d + 1) (J (m + 33) (d + 1) + 1)) m (d + 1) := fun j j0 j1 => by
                    obtain ⟨c1, c2, c3, c4, c5, c6, c7⟩ := (aLo_t b3 e3) j j0 j1
                    refine ⟨?_, ?_, ?_, ?_, ?_, ?_, ?_⟩
                    · simp (disch := first | omega | exact Nat.le_of_ble_eq_true rfl) only [ua_eq, ua_ne, up_eq, up_fa, up_nk, tk_in, tk_out, aCl_o]; exact c1
                    · simp (disch := first | omega | exact Nat.le_of_ble_eq_true rfl) only [ua_eq, ua_ne, up_eq, up_fa, up_nk, tk_in, tk_out, aCl_o]; exact c2
                    · simp (disch := first | omega | exact Nat.le_of_ble_eq_true rfl) only [ua_eq, ua_ne, up_eq, up_fa, up_nk, tk_in, tk_out, aCl_o]; exact c3
                    · simp (disch := first | omega | exact Nat.le_of_ble_eq_true rfl) only [ua_eq, ua_ne, up_eq, up_fa, up_nk, tk_in, tk_out, aCl_o]; exact c4
                    · simp (disch := first | omega | exact Nat.le_of_ble_eq_true rfl) only [ua_eq, ua_ne, up_eq, up_fa, up_nk, tk_in, tk_out, aCl_o]; exact c5
                    · simp (disch := first | omega | exact Nat.le_of_ble_eq_true rfl) only [ua_eq, ua_ne, up_eq, up_fa, up_nk, tk_in, tk_out, aCl_o]; exact c6
                    · simp (disch := first | omega | exact Nat.le_of_ble_eq_true rfl) only [ua_eq, ua_ne, up_eq, up_fa, up_nk, tk_in, tk_out, aCl_o]; exact c7
                  have hon2 : aOn I (aBg (mUp (mUp (aCl J m (d + 1) p) (m + 37) (d + 1) p) (m + 33) (d + 1) (J (m + 33) (d + 1) + 1)) m (d + 1) 0) m d (aKd (mTk K V i) + 1) 0 := aBg_on (by simp (disch := first | omega | exact Nat.le_of_ble_eq_true rfl) only [ua_eq, ua_ne, up_eq, up_fa, up_nk, tk_in, tk_out]; exact aCl_48) hlo2 (by rw [up_eq rfl rfl, hkJ])
                  have hlf2 : (aBg (mUp (mUp (aCl J m (d + 1) p) (m + 37) (d + 1) p) (m + 33) (d + 1) (J (m + 33) (d + 1) + 1)) m (d + 1) 0) (m + 37) (d + 1) = p := by
                    unfold aBg
                    simp (disch := first | omega | exact Nat.le_of_ble_eq_true rfl) only [ua_eq, ua_ne, up_eq, up_fa, up_nk, tk_in, tk_out]
                  obtain ⟨c1, c2, c3, c4, c5, c6, c7⟩ := id hon2
                  generalize hI2 : aBg (mUp (mUp (aCl J m (d + 1) p) (m + 37) (d + 1) p) (m + 33) (d + 1) (J (m + 33) (d + 1) + 1)) m (d + 1) 0 = I2 at hcs hon2 hlf2 c1 c2 c3 c4 c5 c6 c7
                  have hC2 := aCx_k hsm hsa hCJ hcs.2
                  clear hI2
                  have hpre : aPre K 3 I2 m (d + 1) 0 (l + 1) := ⟨c1, by simp only [if_neg (show ¬ (3 : Nat) = 0 by decide), if_neg (show ¬ (3 : Nat) = 1 by decide), if_neg (show ¬ (3 : Nat) = 4 by decide), if_neg (show ¬ (3 : Nat) = 2 by decide), if_neg (show ¬ (3 : Nat) = 5 by decide)]; exact ⟨c2, c5, c6, c7⟩⟩
                  match hz : zXf K V wk (sFl σ s) f 3 (k - 1) 0 (l + 1), hx with
                  | some (none, l2), hx =>
                    cases hx
                    obtain ⟨n, J2, g1, g2, g3, g4⟩ := ih 3 (k - 1) 0 (l + 1) I2 (d + 1) none _ hz (by omega) (by omega) (by omega) hC2 hpre
                    exact ⟨n, J2, g1, g2, fun u hu => (by cases hu), fun _ => g4 rfl⟩
                  | some (some q, l2), hx =>
                    obtain ⟨n2, J2, g1, g2, g3, g4⟩ := ih 3 (k - 1) 0 (l + 1) I2 (d + 1) (some q) l2 hz (by omega) (by omega) (by omega) hC2 hpre
                    have hok := g3 q rfl
                    have hok : oE I2 J2 m (d + 1) q ∧ K l2 ≠ 7 ∧ K l2 ≠ 8 ∧ K l2 ≠ 9 ∧ K l2 ≠ 10 := by
                      unfold aOk at hok
                      simp only [if_neg (show ¬ (3 : Nat) = 0 by decide), if_neg (show ¬ ((3 : Nat) = 1 ∨ (3 : Nat) = 4) by decide), if_neg (show ¬ ((3 : Nat) = 2 ∨ (3 : Nat) = 5) by decide)] at hok
                      exact hok
                    refine xRs_pre g1 ?_
                    rw [g2]
                    obtain ⟨⟨y1, y2, y3, ⟨y4, y5, y6⟩, n3, y7⟩, x7, x8, x9, x10⟩ := hok
                    have hkJ2 : J2 (m + 33) (d + 1) = aKd (mTk K V i) + 1 := y4.trans c4
                    have hlfJ2 : J2 (m + 37) (d + 1) = p := y5.trans hlf2
                    obtain ⟨r1, -, -, -, -, -, -, -, -, -, -⟩ := mTk_4 (hV l2)
                    have hx : (if K l2 ≠ 5 ∨ 60 ≤ l2 then some (none, l2) else some (some (if K i = 28 then (if q < p then q else p) else (if p < q then q else p)), l2 + 1)) = some (res, j) := hx
                    have hstep : aSt S m J2 10001 (aFin J2 m (d + 1) q (if K i = 28 then (if q < p then q else p) else (if p < q then q else p))) := by
                      refine ⟨fun A hA D Q => sg_5 D hm y1 y7 (by omega) y2 ?_ Q, aFin_k⟩
                      rw [hkJ2, hlfJ2]
                      rcases a3 with e | e
                      · left; rw [hKd.2.2.1 e, if_pos e]; exact ⟨rfl, rfl⟩
                      · right; rw [hKd.2.2.2 e, if_neg (by omega)]; exact ⟨rfl, rfl⟩
                    by_cases h5 : K l2 = 5
                    · have ht2 : mTk K V l2 = 10001 := by rw [r1 (by omega) (by omega)]; omega
                      by_cases h62 : 60 ≤ l2
                      · rw [if_pos (Or.inr h62)] at hx
                        cases hx
                        exact xRs_no (oX_o (fun h9 => by omega) h62 (by rw [ht2]; exact hstep))
                      · rw [if_neg (by omega)] at hx
                        cases hx
                        exact xRs_st ht2 hstep (by omega) (by decide) (xRs_ok (aFin_f d0 c3 y3))
                    · rw [if_pos (Or.inl h5)] at hx
                      cases hx
                      exact xRs_no (x_no hm (hV _) y1 ⟨x7, x8, x9, x10⟩ y7 (by omega) y2 (by omega) (by omega) (by omega) ⟨fun _ => h5, by omega, by omega, by omega, by omega⟩)
              · rw [if_pos (Or.inl h6)] at hx
                cases hx
                exact xRs_no (x_no hm (hV l) e1 ⟨k7, k8, k9, k10⟩ e7 (by omega) e2 (by omega) (by omega) (by omega) ⟨by omega, fun _ => h6, by omega, by omega, by omega⟩)
            · rw [if_neg a3] at hx
              refine clo _ (aKd (mTk K V i)) (if K i = 26 then sFl σ s p wk wk else sFl σ s p 0 7) p l J res j hon hE k7 k8 k9 k10 hCJ l0 ?_ hx
              have h9 : K i = 26 ∨ K i = 27 := by omega
              rcases h9 with e | e
              · right; left; exact ⟨hKd.1 e, if_pos e⟩
              · right; right; exact ⟨hKd.2.1 e, if_neg (by omega)⟩
      · rw [if_neg kw] at h
        have hop : aSt S m I 10000 (aOp I m 1 0) ∨ k = 0 := by
          by_cases hk0 : k = 0
          · exact Or.inr hk0
          · exact Or.inl ⟨fun A hA D Q => sg_open (D + 3) hm hn0 (by omega) (by omega) Q, aOp_k⟩
        by_cases a2 : k = 0 ∨ K i ≠ 4 ∨ 60 ≤ i
        · rw [if_pos a2] at h
          cases h
          by_cases hgood : k ≠ 0 ∧ K i = 4
          · have e0 : mTk K V i = 10000 := by rw [t1 (by omega) (by omega)]; omega
            exact xRs_no (oX_o (fun h9 => by omega) (by omega) (by rw [e0]; exact hop.resolve_right hgood.1))
          · refine xRs_no (fun A hA => ?_)
            have g49 : aMg A I m m 49 = I m 49 := aMg_f (by omega)
            have g48 : aMg A I m m 48 = I m 48 := aMg_f (by omega)
            have hend : aE0 S m (aMg A I m) := ⟨aMg A I m, fun D Q => en_no (D + 2) hm (by omega) (by omega) Q, aKp_r _ m⟩
            refine ⟨fun _ => hend, fun hne => Or.inr ?_⟩
            refine ⟨aMg A I m, fun D Q => st_fno (D + 3) hm (by omega) ?_ (fun h9 => k17 (q4 h9)) ?_ (fun h9 => ?_) (fun h9 => ?_) Q, aKp_r _ m, hend⟩
            · by_cases h9 : 10000 ≤ mTk K V i
              · exact h9
              · exact absurd (q5 hne (by omega)) k2
            · by_cases h9 : mTk K V i < 10014
              · exact h9
              · rcases q6 with h8 | h8
                · omega
                · exact absurd (q3 (mTk K V i - 9988) (by omega) (by omega) (by omega)) (by omega)
            · have := q1 4 (by decide) (by decide) h9
              omega
            · have := q2 23 (by decide) (by decide) h9
              omega
        · rw [if_neg a2] at h
          have hk0 : k ≠ 0 := fun h9 => a2 (Or.inl h9)
          have h4 : K i = 4 := by omega
          have hos := hop.resolve_right hk0
          have hon : aOn I (aOp I m 1 0) m d 1 0 := aOp_on h48 (aLo_r I m (d + 1))
          refine xRs_st (show mTk K V i = 10000 by rw [t1 (by omega) (by omega)]; omega) hos (by omega) (by decide) ?_
          exact body _ (i + 1) 1 res j (by omega) hk0 hon (aCx_k hsm hsa hC hos.2) (Or.inl rfl) _ (fun p l J res j hE k7 k8 k9 k10 hCJ l0 hx => clo _ 1 p p l J res j hon hE k7 k8 k9 k10 hCJ l0 (Or.inl ⟨rfl, rfl⟩) hx) h
end SV
