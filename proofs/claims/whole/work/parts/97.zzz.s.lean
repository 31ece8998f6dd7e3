/-! Setting a decree: what is common. -/
def vK (k : Int) : Prop := k = 2 ∨ k = 17 ∨ (4 ≤ k ∧ k ≤ 13) ∨ (23 ≤ k ∧ k ≤ 25) ∨ (26 ≤ k ∧ k ≤ 29)
def vJ (K : Int → Int) (a b : Int) : Prop := ∀ t : Int, a ≤ t → t < b → vK (K t)
theorem vJ_t {K : Int → Int} {a b c : Int} (h : vJ K a b) (h' : vJ K b c) : vJ K a c := fun t t0 t1 => by
  by_cases q : t < b
  · exact h t t0 q
  · exact h' t (by omega) t1
theorem vJ_1 {K : Int → Int} {a : Int} (h : vK (K a)) : vJ K a (a + 1) := fun t t0 t1 => by
  rw [show t = a by omega]; exact h
theorem vJ_0 {K : Int → Int} {a : Int} : vJ K a a := fun t t0 t1 => by omega
/-- only a decree's tokens are read -/
theorem zXf_vk {K V : Int → Int} {wk : Int} {fl : Int → Int → Int → Int} : ∀ (f c k : Nat) (v i u j : Int), zXf K V wk fl f c k v i = some (some u, j) → vJ K i j
  | 0, _, _, _, _, _, _, h => by cases h
  | f + 1, c, k, v, i, u, j, h => by
    have ih := zXf_vk (K := K) (V := V) (wk := wk) (fl := fl) f
    rw [zXf] at h
    have kk : ∀ {t s : Int}, K t = s → (s = 2 ∨ s = 17 ∨ (4 ≤ s ∧ s ≤ 13) ∨ (23 ≤ s ∧ s ≤ 25) ∨ (26 ≤ s ∧ s ≤ 29)) → vJ K t (t + 1) := fun e hs => vJ_1 (by unfold vK; rw [e]; exact hs)
    by_cases c0 : c = 0
    · rw [if_pos c0] at h
      split at h
      · rename_i e
        split at h <;> cases h
        exact kk e (by decide)
      · split at h
        · rename_i e
          split at h <;> cases h
          exact kk e (by decide)
        · split at h
          · rename_i e
            split at h
            · cases h
            · split at h
              · cases h
              · rename_i a1 a2
                obtain ⟨x, l, ha, hg⟩ := xBd_ok h
                have i1 := ih _ _ _ _ _ _ ha
                have j1 : vJ K i (i + 1) := vJ_1 (by unfold vK; omega)
                have j2 : vJ K (i + 1) (i + 1 + 1) := kk (s := 4) (by omega) (by decide)
                rw [show i + 1 + 1 = i + 2 by omega] at j2
                have jl := vJ_t j1 (vJ_t j2 i1)
                split at hg
                · split at hg
                  · cases hg
                  · rename_i a3
                    obtain ⟨x2, l2, ha2, hg2⟩ := xBd_ok hg
                    have i2 := ih _ _ _ _ _ _ ha2
                    split at hg2
                    · cases hg2
                    · rename_i a4
                      cases hg2
                      exact vJ_t jl (vJ_t (kk (s := 6) (by omega) (by decide)) (vJ_t i2 (kk (s := 5) (by omega) (by decide))))
                · split at hg
                  · cases hg
                  · rename_i a3
                    cases hg
                    exact vJ_t jl (kk (s := 5) (by omega) (by decide))
          · split at h
            · cases h
            · rename_i a1
              obtain ⟨x, l, ha, hg⟩ := xBd_ok h
              have i1 := ih _ _ _ _ _ _ ha
              split at hg
              · cases hg
              · rename_i a3
                cases hg
                exact vJ_t (kk (s := 4) (by omega) (by decide)) (vJ_t i1 (kk (s := 5) (by omega) (by decide)))
    · rw [if_neg c0] at h
      by_cases c1 : c = 1
      · rw [if_pos c1] at h
        obtain ⟨x, l, ha, hg⟩ := xBd_ok h
        exact vJ_t (ih _ _ _ _ _ _ ha) (ih _ _ _ _ _ _ hg)
      · rw [if_neg c1] at h
        by_cases c4 : c = 4
        · rw [if_pos c4] at h
          split at h
          · rename_i e
            split at h
            · cases h
            · obtain ⟨x, l, ha, hg⟩ := xBd_ok h
              exact vJ_t (vJ_1 (by unfold vK; omega)) (vJ_t (ih _ _ _ _ _ _ ha) (ih _ _ _ _ _ _ hg))
          · cases h; exact vJ_0
        · rw [if_neg c4] at h
          by_cases c2 : c = 2
          · rw [if_pos c2] at h
            obtain ⟨x, l, ha, hg⟩ := xBd_ok h
            exact vJ_t (ih _ _ _ _ _ _ ha) (ih _ _ _ _ _ _ hg)
          · rw [if_neg c2] at h
            by_cases c5 : c = 5
            · rw [if_pos c5] at h
              split at h
              · rename_i e
                split at h
                · cases h
                · obtain ⟨x, l, ha, hg⟩ := xBd_ok h
                  exact vJ_t (vJ_1 (by unfold vK; omega)) (vJ_t (ih _ _ _ _ _ _ ha) (ih _ _ _ _ _ _ hg))
              · cases h; exact vJ_0
            · rw [if_neg c5] at h
              split at h
              · rename_i e
                split at h
                · cases h
                · obtain ⟨x, l, ha, hg⟩ := xBd_ok h
                  split at hg
                  · cases hg
                  · rename_i a2
                    obtain ⟨x2, l2, ha2, hg2⟩ := xBd_ok hg
                    split at hg2
                    · cases hg2
                    · rename_i a3
                      obtain ⟨x3, l3, ha3, hg3⟩ := xBd_ok hg2
                      split at hg3
                      · cases hg3
                      · rename_i a4
                        obtain ⟨x4, l4, ha4, hg4⟩ := xBd_ok hg3
                        cases hg4
                        exact vJ_t (kk e (by decide)) (vJ_t (ih _ _ _ _ _ _ ha) (vJ_t (vJ_1 (by unfold vK; omega)) (vJ_t (ih _ _ _ _ _ _ ha2) (vJ_t (kk (s := 24) (by omega) (by decide)) (vJ_t (ih _ _ _ _ _ _ ha3) (vJ_t (kk (s := 25) (by omega) (by decide)) (ih _ _ _ _ _ _ ha4)))))))
              · exact ih _ _ _ _ _ _ h
section ZT2
variable {tx : Int → Int} {N b : Int}
theorem zTd_c {K V : Int} (h : vK K) (hV : K = 2 → 0 ≤ V ∧ V ≤ 9999) : cTk (zTd K V) = (if K = 2 then V else -K) ∧ 0 ≤ zTd K V ∧ zTd K V ≤ 10017 := by
  have hc : ∀ t : Int, cTk t = if t < 10000 then t else if t < 10010 then 9996 - t else if t < 10013 then 9987 - t else if t = 10013 then -17 else 9988 - t := fun t => rfl
  rcases h with h | h | h | h | h
  · have := hV h
    have e : zTd K V = V := if_pos h
    rw [e, hc, if_pos h, if_pos (by omega)]
    omega
  · subst h
    have e : zTd 17 V = 10013 := rfl
    rw [e, if_neg (by decide)]
    decide
  · have e : zTd K V = 9996 + K := by unfold zTd; rw [if_neg (by omega), if_neg (by omega), if_pos h]
    rw [e, hc, if_neg (show ¬ K = 2 by omega), if_neg (by omega), if_pos (by omega)]
    omega
  · have e : zTd K V = 9987 + K := by unfold zTd; rw [if_neg (by omega), if_neg (by omega), if_neg (by omega), if_pos h]
    rw [e, hc, if_neg (show ¬ K = 2 by omega), if_neg (by omega), if_neg (by omega), if_pos (by omega)]
    omega
  · have e : zTd K V = 9988 + K := by unfold zTd; rw [if_neg (by omega), if_neg (by omega), if_neg (by omega), if_neg (by omega), if_pos h]
    rw [e, hc, if_neg (show ¬ K = 2 by omega), if_neg (by omega), if_neg (by omega), if_neg (by omega), if_neg (by omega)]
    omega
/-- what was read as a decree is one -/
theorem zDr_s (n0 : 0 ≤ N) (n9 : N ≤ 900) (b : Int) (h : (zDr tx N b).1 ≠ none) (h60 : (zDr tx N b).2 ≤ 60) : (∀ i : Int, 0 ≤ i → i < (zDr tx N b).2 → cTk (zTT tx N b i) = zCd tx N (b + i) ∧ 0 ≤ zTT tx N b i ∧ zTT tx N b i ≤ 10017) ∧ sDc (fun i => cTk (zTT tx N b i)) (zDr tx N b).2 := by
  have hx := zDr_e tx N b
  generalize hz : zDr tx N b = z at h hx h60 ⊢
  obtain ⟨res, j⟩ := z
  match res, h, hx with
  | some u, h, hx =>
    have hx : rX tx N b 0 (fun _ _ _ => 0) 400 3 8 0 0 = some (some u, j) := hx
    have hv := zXf_vk 400 3 8 0 0 u j hx
    have h1 : ∀ i : Int, 0 ≤ i → i < j → cTk (zTT tx N b i) = zCd tx N (b + i) ∧ 0 ≤ zTT tx N b i ∧ zTT tx N b i ≤ 10017 := fun i i0 i1 => by
      have hk := hv i i0 i1
      rw [zTT_e]
      exact zTd_c hk (zK_b (tx := tx) n0 n9 (k := b + i)).2.2.2
    refine ⟨h1, 400, u, ?_⟩
    refine zEf_of h60 (fun i i0 i1 => ?_) (fun i i0 i1 hk => ?_) 400 3 8 0 0 u j hx (Int.le_refl 0) (Int.le_refl j)
    · unfold zSg
      rw [if_neg (by have h60 : j ≤ 60 := h60; omega)]
      show (if cTk (zTT tx N b i) < 0 then -cTk (zTT tx N b i) else 2) = zK tx N (b + i)
      rw [(h1 i i0 i1).1]
      unfold zCd
      have hk := hv i i0 i1
      have hV := (zK_b (tx := tx) n0 n9 (k := b + i)).2.2.2
      by_cases c : zK tx N (b + i) = 2
      · have := hV c
        rw [if_pos c, if_neg (by omega)]
        exact c.symm
      · have hk : vK (zK tx N (b + i)) := hk
        unfold vK at hk
        rw [if_neg c, if_pos (by omega)]
        show - -zK tx N (b + i) = zK tx N (b + i)
        omega
    · have hk : zK tx N (b + i) = 2 := hk
      show cTk (zTT tx N b i) = zV tx N (b + i)
      rw [(h1 i i0 i1).1]
      unfold zCd
      rw [if_pos hk]
end ZT2
/-- a text taken -/
def gCl (G : gT) (e : Int) : gT := (fun i => if i = 2 then 0 else if i = 3 then e else G.1 i, G.2.1, G.2.2)
theorem gCl_1 {G : gT} {e i : Int} (h : i ≠ 2) (h3 : i ≠ 3) : (gCl G e).1 i = G.1 i := by
  show (if i = 2 then 0 else if i = 3 then e else G.1 i) = _
  rw [if_neg h, if_neg h3]
theorem gCl_2 {G : gT} {e : Int} : (gCl G e).1 2 = 0 := rfl
theorem gCl_3 {G : gT} {e : Int} : (gCl G e).1 3 = e := rfl
theorem gWf_cl {G : gT} (hg : gWf G) {e : Int} : gWf (gCl G e) := by
  obtain ⟨g1, g2, g3, g4, g5, g6, g7, g8⟩ := hg
  refine ⟨g1, g2, fun k k0 k1 => ?_, fun k j k0 k1 j0 j1 => ?_, ⟨⟨Int.le_refl 0, by show (0 : Int) ≤ 900; decide⟩, fun i i0 i1 => ?_⟩, g6, g7, ?_⟩
  · have h9 := g3 k k0 k1
    have e1 : (gCl G e).1 (10 + k) = G.1 (10 + k) := gCl_1 (by omega) (by omega)
    have e2 : (gCl G e).1 (20 + k) = G.1 (20 + k) := gCl_1 (by omega) (by omega)
    rw [e1, e2]; exact h9
  · have e2 : (gCl G e).1 (20 + k) = G.1 (20 + k) := gCl_1 (by omega) (by omega)
    rw [e2] at j1
    exact g4 k j k0 k1 j0 j1
  · have i1 : i < 0 := i1
    omega
  · have e5 : (gCl G e).1 5 = G.1 5 := gCl_1 (by decide) (by decide)
    rw [e5]
    rcases g8 with g8 | g8
    · exact Or.inl g8
    · refine Or.inr ⟨g8.1, ?_⟩
      have e6 : (gCl G e).1 6 = G.1 6 := gCl_1 (by decide) (by decide)
      have e1 : (gCl G e).1 (10 + G.1 5) = G.1 (10 + G.1 5) := gCl_1 (by omega) (by omega)
      have e2 : (gCl G e).1 (20 + G.1 5) = G.1 (20 + G.1 5) := gCl_1 (by omega) (by omega)
      rw [e6, e1, e2]; exact g8.2
theorem gCh_cl {G : gT} {e : Int} (hg : gWf G) : gCh (gCl G e) = gCh G := by
  unfold gCh
  have e5 : (gCl G e).1 5 = G.1 5 := gCl_1 (by decide) (by decide)
  have e6 : (gCl G e).1 6 = G.1 6 := gCl_1 (by decide) (by decide)
  rw [e5, e6]
  by_cases c : G.1 5 = -1
  · rw [if_pos c, if_pos c]
  · rw [if_neg c, if_neg c]
    have h5 : 0 ≤ G.1 5 := by
      rcases hg.2.2.2.2.2.2.2 with q | q
      · exact absurd q c
      · exact q.1.1
    have e1 : (gCl G e).1 (10 + G.1 5) = G.1 (10 + G.1 5) := gCl_1 (by omega) (by omega)
    rw [e1]
    rfl
theorem gO_cl {G : gT} {e : Int} (hg : gWf G) : ((gCl G e).2.1 ((gCl G e).1 1) ((gCl G e).1 (10 + (gCl G e).1 1))) = (G.2.1 (G.1 1) (G.1 (10 + G.1 1))) := by
  have hc := hg.2.1.1
  have e1 : (gCl G e).1 1 = G.1 1 := gCl_1 (by decide) (by decide)
  have e2 : (gCl G e).1 (10 + G.1 1) = G.1 (10 + G.1 1) := gCl_1 (by omega) (by omega)
  rw [e1, e2]
  rfl
noncomputable def r11 (G : gT) (a : Int) : mZ × gT := if 0 ≤ a ∧ a < (G.2.1 (G.1 1) (G.1 (10 + G.1 1))) 3 then (if (G.2.1 (G.1 1) (G.1 (10 + G.1 1))) (265 + 76 * a) = 0 then (@ite (mZ × gT) (zSo1 ((G.2.2 1)) ((G.1 2))) (Classical.propDecidable _) (.inl (some (mI (zSn ((G.2.2 1)) ((G.1 2))))), gPush (gCl G (-1)) (sDcr ((G.2.1 (G.1 1) (G.1 (10 + G.1 1)))) a (zSn ((G.2.2 1)) ((G.1 2))) (zTT ((G.2.2 1)) ((G.1 2)) 0))) (.inr 1, gCl G (zP ((G.2.2 1)) ((G.1 2)) (zSn ((G.2.2 1)) ((G.1 2))).toNat))) else (.inr 0, G)) else (.inr 2, G)
section ZU2
variable {S : mH} {I : mN} {x m z : Int} {π : Int → Int → Int} {G : gT} {Q : mQ} (D : Nat)
theorem xQ_cl {I' : mN} {e : Int} (hg : gWf G) (hx : xQ S I x π G) (f : rFz I I' (x + 2359)) (h1 : I' (x + 2359) 1 = 0) (h2 : I' (x + 2359) 2 = e) : xQ S I' x π (gCl G e) := by
  obtain ⟨q1, q2, q3, q4, q5, q6, q7, q8, q9, q10, q11⟩ := hx
  have f1 := f.1
  have ee : ∀ a : Int, (a < x + 2359 ∨ x + 2364 < a) → I' a = I a := fun a ha => f1 a (by omega) (by omega) (by omega) (by omega) (by omega)
  have gn := hg.1
  have hk : ∀ (k j a : Int), 0 ≤ k → k < 3 → 0 ≤ j → j < 7 → x + (4 + 744 * k) + 106 * j ≤ a → a < x + (4 + 744 * k) + 106 * j + 106 → I' a = I a := fun k j a k0 k1 j0 j1 a0 a1 => ee a (by omega)
  have e56 : x + 2359 + 5 = x + 2364 := by omega
  refine ⟨q1, by rw [ee x (by omega)]; exact q2, fun k k0 k1 => ?_, fun k j k0 k1 j0 j1 => yOk_k (q4 k j k0 k1 j0 j1) (fun a a0 a1 => hk k j a k0 k1 j0 j1 a0 a1), fun k j k0 k1 j0 j1 => ?_, yOk_k q6 (fun a a0 a1 => ee a (by omega)), nOldQ_k q7 (fun a a0 a1 => ee a (by omega)), fun v v0 v1 => by rw [ee _ (by omega)]; exact q8 v v0 v1, ⟨h1, h2, fun i i0 i1 => ?_⟩, ?_, ?_⟩
  · have e1 : (gCl G e).1 (10 + k) = G.1 (10 + k) := gCl_1 (by omega) (by omega)
    have e2 : (gCl G e).1 (20 + k) = G.1 (20 + k) := gCl_1 (by omega) (by omega)
    rw [e1, e2, ee _ (by omega)]; exact q3 k k0 k1
  · have e2 : (gCl G e).1 (20 + k) = G.1 (20 + k) := gCl_1 (by omega) (by omega)
    have e0 : (gCl G e).1 0 = G.1 0 := gCl_1 (by decide) (by decide)
    rw [e2] at j1
    rw [e0] at k1
    have k3 : k < 3 := by omega
    have j7 : j < 7 := by have := (hg.2.2.1 k k0 k3).1; omega
    have hp' := yx_pi q1 k0 k3 j0 j7
    exact yS_k (hg.2.2.2.1 k j k0 k1 j0 j1).1 (q5 k j k0 k1 j0 j1) (fun a a0 a1 => hk k (π k j) a k0 k3 hp'.1 hp'.2 a0 a1)
  · have i1 : i < 0 := i1
    omega
  · have h9 := f.2 (fun j j0 j1 => by rw [e56]; exact q10.1 j j0 j1)
    refine ⟨fun j j0 j1 => ?_, by rw [ee (x + 2357) (by omega), ee (x + 2358) (by omega)]; exact q10.2⟩
    have := h9 j j0 j1
    rw [e56] at this
    exact this
  · have e4 : (gCl G e).1 4 = G.1 4 := gCl_1 (by decide) (by decide)
    rw [e4, ee (x + 2365) (by omega), ee (x + 2366) (by omega)]; exact q11
theorem xEnd_p {I1 I3 : mN} {S1 : mH} (f : xF I I1 x) (h : xEnd S I1 S1 I3 x) : xEnd S I S1 I3 x := ⟨fun a ha hx => ⟨((h.1 a ha hx).1).trans (f a hx), (h.1 a ha hx).2⟩, h.2⟩
end ZU2
