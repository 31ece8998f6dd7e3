/-! The office between two calls: what its cells say. -/
abbrev gT : Type := (Int → Int) × (Int → Int → sT) × (Int → Int → Int)
def sZ (σ : sT) : Prop := ∀ c : Int, c < 0 ∨ 1395 ≤ c → σ c = 0
def gWf (G : gT) : Prop := (1 ≤ (G.1 0) ∧ (G.1 0) ≤ 3) ∧ (0 ≤ (G.1 1) ∧ (G.1 1) < (G.1 0)) ∧ (∀ k : Int, 0 ≤ k → k < 3 → (0 ≤ (G.1 (10 + k)) ∧ (G.1 (10 + k)) ≤ (G.1 (20 + k)) ∧ (G.1 (20 + k)) ≤ 6) ∧ ((G.1 0) ≤ k → (G.1 (20 + k)) = 0)) ∧ (∀ k j : Int, 0 ≤ k → k < (G.1 0) → 0 ≤ j → j ≤ (G.1 (20 + k)) → sWf ((G.2.1 k j)) ∧ sZ ((G.2.1 k j))) ∧
  ((0 ≤ (G.1 2) ∧ (G.1 2) ≤ 900) ∧ ∀ i : Int, 0 ≤ i → i < (G.1 2) → 0 < (G.2.2 1) i ∧ (G.2.2 1) i ≤ 255) ∧ (∀ v : Int, 0 ≤ v → v < 48 → (G.2.2 0) v = 0 ∨ (G.2.2 0) v = 1) ∧ (0 ≤ (G.1 4) ∧ (G.1 4) ≤ 6400) ∧
  ((G.1 5) = -1 ∨ ((0 ≤ (G.1 5) ∧ (G.1 5) < (G.1 0)) ∧ (((G.1 6) = -1 ∧ 1 ≤ (G.1 (10 + ((G.1 5))))) ∨ ((G.1 6) = 1 ∧ (G.1 (10 + ((G.1 5)))) < (G.1 (20 + ((G.1 5))))))))
noncomputable def zCw (σ τ : sT) (r : Int) : Int → Int := fun w => if τ 0 ≤ w ∧ sAm σ 0 r w ≠ sAm τ 0 r w then 1 else 0
noncomputable def zCt (σ τ : sT) : Int := sm (τ 3).toNat (fun r => sm 8 (zCw σ τ r))
noncomputable def gCh (G : gT) : Int := if (G.1 5) = -1 then 0 else zCt ((G.2.1 ((G.1 5)) ((G.1 (10 + ((G.1 5)))) + (G.1 6)))) ((G.2.1 ((G.1 5)) ((G.1 (10 + ((G.1 5)))))))
/-- the letters and where each text begins -/
def zLts (f g : Int → Int) : Prop := ∀ k : Nat, k < 27 → (0 ≤ g ((k : Int) + 3) ∧ g ((k : Int) + 3) + mLen k ≤ 100 ∧ g ((k : Int) + 4) = g ((k : Int) + 3) + mLen k) ∧ ∀ j : Int, 0 ≤ j → j < mLen k → f (g ((k : Int) + 3) + j) = mTxt k j
def xQ (S : mH) (I : mN) (x : Int) (π : Int → Int → Int) (G : gT) : Prop := yX S x π ∧ (I x 1 = (G.1 0) ∧ I x 2 = (G.1 1)) ∧ (∀ k : Int, 0 ≤ k → k < 3 → I (x + (2 + 744 * k)) 1 = (G.1 (10 + k)) ∧ I (x + (2 + 744 * k)) 2 = (G.1 (20 + k)) - (G.1 (10 + k))) ∧
  (∀ k j : Int, 0 ≤ k → k < 3 → 0 ≤ j → j < 7 → yOk I (x + (4 + 744 * k) + 106 * j)) ∧ (∀ k j : Int, 0 ≤ k → k < (G.1 0) → 0 ≤ j → j ≤ (G.1 (20 + k)) → yS I (x + (4 + 744 * k) + 106 * π k j) ((G.2.1 k j))) ∧ yOk I (x + 2234) ∧ nOldQ I (x + 2341) ∧
  (∀ v : Int, 0 ≤ v → v < 48 → I (x + 2367) v = (G.2.2 0) v) ∧ (I (x + 2359) 1 = (G.1 2) ∧ I (x + 2359) 2 = (G.1 3) ∧ ∀ i : Int, 0 ≤ i → i < (G.1 2) → I (x + 2360) i = (G.2.2 1) i) ∧ ((∀ j : Int, 0 ≤ j → j < 60 → -1000000 ≤ I (x + 2364) j ∧ I (x + 2364) j ≤ 1000000) ∧ zLts (I (x + 2357)) (I (x + 2358))) ∧
  (I (x + 2365) 1 = (G.1 4) ∧ ∀ i : Int, 0 ≤ i → i < (G.1 4) → I (x + 2366) i = (G.2.2 2) i)
def xR (S : mH) (I : mN) (x : Int) (G : gT) : Prop := ∃ π : Int → Int → Int, xQ S I x π G ∧ I x 3 = gCh G
/-- a change of the office alone -/
def xF (I I' : mN) (x : Int) : Prop := ∀ a : Int, (a < x ∨ x + 2369 ≤ a) → I' a = I a
theorem xF_r (I : mN) (x : Int) : xF I I x := fun _ _ => rfl
theorem xF_t {I I' I'' : mN} {x : Int} (h : xF I I' x) (h' : xF I' I'' x) : xF I I'' x := fun a ha => (h' a ha).trans (h a ha)
theorem xF_up {I : mN} {x a k v : Int} (h0 : x ≤ a) (h1 : a < x + 2369) : xF I (mUp I a k v) x := fun b hb => up_fa (by omega)
theorem xSep1 {x k k' p : Int} (p0 : 0 ≤ p) (p1 : p < 7) : x + (2 + 744 * k') < x + (4 + 744 * k) + 106 * p ∨ x + (4 + 744 * k) + 106 * p + 106 ≤ x + (2 + 744 * k') := by
  by_cases h : k' ≤ k <;> omega
theorem xSep2 {x k k' p q a : Int} (a0 : x + (4 + 744 * k') + 106 * q ≤ a) (a1 : a < x + (4 + 744 * k') + 106 * q + 106) (p0 : 0 ≤ p) (p1 : p < 7) (q0 : 0 ≤ q) (q1 : q < 7) (h : ¬ (k' = k ∧ q = p)) : a < x + (4 + 744 * k) + 106 * p ∨ x + (4 + 744 * k) + 106 * p + 106 ≤ a := by
  by_cases h1 : k' < k
  · omega
  · by_cases h2 : k < k'
    · omega
    · obtain rfl : k' = k := by omega
      by_cases h3 : q < p <;> omega
theorem xOut {x k c q a : Int} (a0 : x + (4 + 744 * k) + 106 * q ≤ a) (a1 : a < x + (4 + 744 * k) + 106 * q + 106) (k0 : 0 ≤ k) (k1 : k < 3) (q0 : 0 ≤ q) (q1 : q < 7) : a ≠ x + (2 + 744 * c) := by
  by_cases h : c ≤ k <;> omega
theorem xOut1 {x k c q a : Int} (a0 : x + (4 + 744 * k) + 106 * q ≤ a) (a1 : a < x + (4 + 744 * k) + 106 * q + 106) (k0 : 0 ≤ k) (k1 : k < 3) (q0 : 0 ≤ q) (q1 : q < 7) : a ≠ x + (2 + 744 * c) + 1 := by
  by_cases h : c ≤ k <;> omega
section XQ
variable {S : mH} {I : mN} {x : Int} {π : Int → Int → Int} {G : gT} {Q : mQ} (D : Nat)
theorem gJ_b (hg : gWf G) : (0 ≤ (G.1 1) ∧ (G.1 1) < 3 ∧ (G.1 1) < (G.1 0)) ∧ (0 ≤ (G.1 (10 + G.1 1)) ∧ (G.1 (10 + G.1 1)) ≤ (G.1 (20 + ((G.1 1)))) ∧ (G.1 (20 + ((G.1 1)))) ≤ 6) := by
  obtain ⟨g1, g2, g3, -⟩ := hg
  have h3 : (G.1 1) < 3 := by omega
  have := (g3 ((G.1 1)) g2.1 h3).1
  exact ⟨⟨g2.1, h3, g2.2⟩, this⟩
theorem gO_w (hg : gWf G) : sWf ((G.2.1 (G.1 1) (G.1 (10 + G.1 1)))) ∧ sZ ((G.2.1 (G.1 1) (G.1 (10 + G.1 1)))) := by
  have h := gJ_b hg
  exact hg.2.2.2.1 ((G.1 1)) ((G.1 (10 + G.1 1))) h.1.1 h.1.2.2 h.2.1 h.2.2.1
theorem xQ_g (hg : gWf G) (h : xQ S I x π G) {I' : mN} {k j : Int} (k0 : 0 ≤ k) (k1 : k < 3) (j0 : 0 ≤ j) (j1 : j < 7)
    (hf : ∀ a : Int, (a < (x + (4 + 744 * k) + 106 * π k j) ∨ (x + (4 + 744 * k) + 106 * π k j) + 106 ≤ a) → (a < x + 2234 ∨ x + 2356 ≤ a) → a ≠ x + 2368 → I' a = I a)
    (ho : yOk I' ((x + (4 + 744 * k) + 106 * π k j))) (hs : k < (G.1 0) → j ≤ (G.1 (20 + k)) → yS I' ((x + (4 + 744 * k) + 106 * π k j)) ((G.2.1 k j))) (ht : yOk I' (x + 2234)) (hq : nOldQ I' (x + 2341)) : xQ S I' x π G := by
  obtain ⟨h1, h2, h3, h4, h5, h6, h7, h8, h9, h10, h11⟩ := h
  have hp := yx_pi h1 k0 k1 j0 j1
  refine ⟨h1, ?_, fun k' q0 q1 => ?_, fun k' j' q0 q1 q2 q3 => ?_, fun k' j' q0 q1 q2 q3 => ?_, ht, hq, ?_, ?_, ?_, ?_⟩
  · rw [hf x (by omega) (by omega) (by omega)]; exact h2
  · rw [hf (x + (2 + 744 * k')) (by first | omega | exact xSep1 (by omega) (by omega)) (by omega) (by omega)]; exact h3 k' q0 q1
  · by_cases c : k' = k ∧ j' = π k j
    · rw [c.1, c.2]; exact ho
    · refine yOk_k (h4 k' j' q0 q1 q2 q3) (fun a a0 a1 => hf a (by first | omega | exact xSep2 a0 a1 (by omega) (by omega) (by omega) (by omega) (by omega)) (by omega) (by omega))
  · by_cases c : k' = k ∧ j' = j
    · obtain ⟨rfl, rfl⟩ := c
      exact hs q1 q3
    · have g3 := hg.2.2.1 k' q0 (by have := hg.1.2; omega)
      have j7 : j' < 7 := by have := g3.1.2.2; omega
      have k3 : k' < 3 := by have := hg.1.2; omega
      have hp' := yx_pi h1 q0 k3 q2 j7
      have hne : k' = k → π k' j' ≠ π k j := fun e e2 => by
        subst e
        exact c ⟨rfl, yx_inj h1 q0 k3 q2 j7 j0 j1 e2⟩
      exact yS_k (hg.2.2.2.1 k' j' q0 q1 q2 q3).1 (h5 k' j' q0 q1 q2 q3) (fun a a0 a1 => hf a (xSep2 a0 a1 hp.1 hp.2 hp'.1 hp'.2 (fun e => hne e.1 e.2)) (by omega) (by omega))
  · rw [hf (x + 2367) (by omega) (by omega) (by omega)]; exact h8
  · rw [hf (x + 2359) (by omega) (by omega) (by omega), hf (x + 2360) (by omega) (by omega) (by omega)]; exact h9
  · rw [hf (x + 2364) (by omega) (by omega) (by omega), hf (x + 2357) (by omega) (by omega) (by omega), hf (x + 2358) (by omega) (by omega) (by omega)]; exact h10
  · rw [hf (x + 2365) (by omega) (by omega) (by omega), hf (x + 2366) (by omega) (by omega) (by omega)]; exact h11
/-- the same of the trial, the network and what lies behind -/
theorem xQ_t (hg : gWf G) (h : xQ S I x π G) {I' : mN} (hf : ∀ a : Int, (a < x + 2234 ∨ x + 2356 ≤ a) → a ≠ x + 2368 → I' a = I a) (ht : yOk I' (x + 2234)) (hq : nOldQ I' (x + 2341)) : xQ S I' x π G := by
  have hj := gJ_b hg
  have hp := yx_pi h.1 hj.1.1 hj.1.2.1 hj.2.1 (show (G.1 (10 + G.1 1)) < 7 by omega)
  refine xQ_g hg h hj.1.1 hj.1.2.1 hj.2.1 (show (G.1 (10 + G.1 1)) < 7 by omega) (fun a _ a2 a3 => hf a a2 a3) ?_ (fun _ _ => ?_) ht hq
  · exact yOk_k (h.2.2.2.1 ((G.1 1)) (π ((G.1 1)) ((G.1 (10 + G.1 1)))) hj.1.1 hj.1.2.1 hp.1 hp.2) (fun a a0 a1 => hf a (by omega) (by omega))
  · exact yS_k (gO_w hg).1 (h.2.2.2.2.1 ((G.1 1)) ((G.1 (10 + G.1 1))) hj.1.1 hj.1.2.2 hj.2.1 hj.2.2.1) (fun a a0 a1 => hf a (by omega) (by omega))
theorem xQ_ok (hg : gWf G) (h : xQ S I x π G) {k j : Int} (k0 : 0 ≤ k) (k1 : k < 3) (j0 : 0 ≤ j) (j1 : j < 7) : yB S ((x + (4 + 744 * k) + 106 * π k j)) ∧ yOk I ((x + (4 + 744 * k) + 106 * π k j)) ∧ (x + 4 + 744 * k ≤ (x + (4 + 744 * k) + 106 * π k j) ∧ (x + (4 + 744 * k) + 106 * π k j) + 106 ≤ x + 746 + 744 * k) := by
  have hp := yx_pi h.1 k0 k1 j0 j1
  refine ⟨yx_B h.1 k0 k1 hp.1 hp.2, h.2.2.2.1 k (π k j) k0 k1 hp.1 hp.2, ?_, ?_⟩ <;> omega
theorem p_planX {s : Int} (hg : gWf G) (h : xQ S I x π G) {k j b : Int} (hb : (x + (4 + 744 * k) + 106 * π k j) = b) (k0 : 0 ≤ k) (k1 : k < (G.1 0)) (j0 : 0 ≤ j) (j1 : j ≤ (G.1 (20 + k))) (s0 : 0 ≤ s) (s1 : s < 3)
    (kk : ∀ I' : mN, xQ S I' x π G → yFn I I' (x + 2341) (x + 2340) b → I' (b + 4) s = 1 → yS I' b ((G.2.1 k j)) → Q (.inl none) I' S) : mRun (D + 40) 37 [mR (x + 2341), mR b, mI s] I S Q := by
  subst hb
  have k3 : k < 3 := by have := hg.1.2; omega
  have j7 : j < 7 := by have := (hg.2.2.1 k k0 k3).1; omega
  obtain ⟨hB, ho, hb0, hb1⟩ := xQ_ok hg h k0 k3 j0 j7
  have hs := h.2.2.2.2.1 k j k0 k1 j0 j1
  refine p_planS D (by omega) (yx_n h.1) hB (by omega) (by omega) (hg.2.2.2.1 k j k0 k1 j0 j1).1 ho hs h.2.2.2.2.2.2.1 s0 s1 (fun I' f ho' hs' hO' h1 => ?_)
  exact kk I' (xQ_g hg h k0 k3 j0 j7 (fun a a1 a2 a3 => f a (by omega) (by omega) a1) ho' (fun _ _ => hs') (yOk_k h.2.2.2.2.2.1 (fun a a0 a1 => f a (by omega) (by omega) (by omega))) hO') f h1 hs'
theorem p_wayX (hg : gWf G) (h : xQ S I x π G) {k j b : Int} (hb : (x + (4 + 744 * k) + 106 * π k j) = b) (k0 : 0 ≤ k) (k1 : k < (G.1 0)) (j0 : 0 ≤ j) (j1 : j ≤ (G.1 (20 + k)))
    (kk : ∀ I' : mN, xQ S I' x π G → yFn I I' (x + 2341) (x + 2340) b → I' b 8 = 1 → yS I' b ((G.2.1 k j)) → Q (.inl none) I' S) : mRun (D + 41) 40 [mR (x + 2341), mR b] I S Q := by
  subst hb
  have k3 : k < 3 := by have := hg.1.2; omega
  have j7 : j < 7 := by have := (hg.2.2.1 k k0 k3).1; omega
  obtain ⟨hB, ho, hb0, hb1⟩ := xQ_ok hg h k0 k3 j0 j7
  have hs := h.2.2.2.2.1 k j k0 k1 j0 j1
  refine p_wayS D (by omega) (yx_n h.1) hB (by omega) (by omega) (hg.2.2.2.1 k j k0 k1 j0 j1).1 ho hs h.2.2.2.2.2.2.1 (fun I' f ho' hs' hO' h1 => ?_)
  exact kk I' (xQ_g hg h k0 k3 j0 j7 (fun a a1 a2 a3 => f a (by omega) (by omega) a1) ho' (fun _ _ => hs') (yOk_k h.2.2.2.2.2.1 (fun a a0 a1 => f a (by omega) (by omega) (by omega))) hO') f h1 hs'
theorem p_planT {s : Int} {τ : sT} (hg : gWf G) (h : xQ S I x π G) (hτ : sWf τ) (hs : yS I (x + 2234) τ) (s0 : 0 ≤ s) (s1 : s < 3)
    (kk : ∀ I' : mN, xQ S I' x π G → yFn I I' (x + 2341) (x + 2340) (x + 2234) → I' (x + 2234 + 4) s = 1 → yS I' (x + 2234) τ → Q (.inl none) I' S) : mRun (D + 40) 37 [mR (x + 2341), mR (x + 2234), mI s] I S Q := by
  refine p_planS D (by omega) (yx_n h.1) (yx_T h.1) (by omega) (by omega) hτ h.2.2.2.2.2.1 hs h.2.2.2.2.2.2.1 s0 s1 (fun I' f ho' hs' hO' h1 => ?_)
  exact kk I' (xQ_t hg h (fun a a1 a2 => f a (by omega) (by omega) (by omega)) ho' hO') f h1 hs'
theorem yFn_x {n e b : Int} {I' : mN} (h : yFn I I' n e b) (hn : n = x + 2341) (he : e = x + 2340) (h0 : x ≤ b) (h1 : b + 106 ≤ x + 2369) : xF I I' x := fun a ha => h a (by omega) (by omega) (by omega)
theorem yS_plan1 {b s : Int} {σ : sT} (h : yS I b σ) (hp : I (b + 4) s = 1) (s0 : 0 ≤ s) (s1 : s < 3) {r w : Int} (r0 : 0 ≤ r) (r1 : r < σ 3) (w0 : 0 ≤ w) (w1 : w < 8) : I (b + (56 + 5 * r) + 3) (s * 8 + w) = sAm σ s r w := by
  by_cases c : σ 0 ≤ w
  · exact h.2.2.2.2.1 s s0 s1 hp r w r0 r1 c w1
  · unfold sAm
    rw [if_pos ⟨r0, r1⟩, if_pos (by omega)]
    exact (h.2.2.2.1 r r0 r1).2.2.2.1 s w s0 s1 w0 (by omega) w1
theorem r_givenS {b s r w : Int} {σ : sT} (hB : yB S b) (hw : sWf σ) (h : yS I b σ) (hp : I (b + 4) s = 1) (s0 : 0 ≤ s) (s1 : s < 3) (r0 : 0 ≤ r) (w0 : 0 ≤ w) (w1 : w < 8) : mRun (D + 1) 15 [mR b, mI s, mI r, mI w] I S Q = Q (.inl (some (mI (sAm σ s r w)))) I S := by
  have e3 := h.1.2.2.2
  have h3 := hw.1.2.2.2
  rw [r_given D hB (by omega) s0 s1 r0 w0 w1]
  congr 4
  by_cases c : r < I b 3
  · rw [if_pos c]; exact yS_plan1 h hp s0 s1 r0 (by omega) w0 w1
  · rw [if_neg c]
    unfold sAm
    rw [if_neg (by omega)]
theorem r_Brnow (h : yX S x π) {k u : Int} (k0 : 0 ≤ k) (k1 : k < 3) (hu : I (x + (2 + 744 * k)) 1 = u) (u0 : 0 ≤ u) (u1 : u < 7) : mRun (D + 1) 22 [mR (x + (2 + 744 * k))] I S Q = Q (.inl (some (mR ((x + (4 + 744 * k) + 106 * π k u))))) I S := by
  simp (disch := first | omega | exact Nat.le_of_ble_eq_true rfl | (simp (disch := omega) only [yx_k h, yx_0 h, yx_4 h, yx_5 h, yx_6 h, yx_7 h, yx_8 h, yx_9 h, yx_10 h, yx_k1 h, yx_l1 h, yx_b h, yx_bk h, yx_bs h, yx_sk h, yx_sl h, yx_s h, yx_e h, yx_k9 h, yx_l9 h, yx_k10 h, yx_l10 h, hu] <;> omega)) only [w_iconst, w_bipush, w_sipush, w_ldc_s, w_ldcw_s, w_ldc_i, w_ldcw_i, w_lconst, w_fconst, w_dconst, w_iload, w_iload_n, w_aload, w_aload_n, w_dload, w_istore, w_istore_n, w_astore_r, w_astore_s, w_astore_n_r, w_astore_n_s, w_dstore, w_iinc, w_iadd, w_isub, w_imul, w_iand, w_iushr, v_idiv, v_irem, w_ineg, w_i2l, w_i2c, w_i2f, w_i2d, v_f2d, w_lcmp, w_dcmp, v_fdiv, v_ddiv, w_dup_i, w_dup_r, w_dup2, w_dup_x2, w_pop_i, w_pop_r, w_goto, w_switch, w_ret_i, v_ret_z, v_ret_c, w_ret_a, w_ret_s, w_ret_f, w_ret_d, w_ret_v, v_iaload, v_baload, v_caload, v_laload, v_aaload, v_iastore, v_bastore, v_castore, v_lastore, v_aastore, v_alen, v_newa, v_anewa, w_new, w_throw, w_dead, v_getf_i, v_getf_z, v_getf_r, v_putf_i, v_putf_z, v_putf_r, w_call0, w_call1, w_callv1, w_calli1, w_callt1, w_call2, w_callv2, w_calli2, w_callt2, w_call3, w_callv3, w_calli3, w_call4, w_callv4, w_calli4, w_call5, w_callv5, w_calli5, w_call6, w_callv6, w_calli6, w_call7, w_callv7, w_calli7, w_call8, w_callv8, w_calli8, c_if0_eq_t, c_if0_eq_f, c_if2_eq_t, c_if2_eq_f, c_if0_ne_t, c_if0_ne_f, c_if2_ne_t, c_if2_ne_f, c_if0_lt_t, c_if0_lt_f, c_if2_lt_t, c_if2_lt_f, c_if0_ge_t, c_if0_ge_f, c_if2_ge_t, c_if2_ge_f, c_if0_gt_t, c_if0_gt_f, c_if2_gt_t, c_if2_gt_f, c_if0_le_t, c_if0_le_f, c_if2_le_t, c_if2_le_f, w_nil, uI_s, uA_r, uA_s, uD_d, mPut_0, mCl_own, mCv_go, mCl_min, mCl_cpy, mCv_obj, mAct_len, mAct_chrc, mAft_v, mAft_n, mAft_x, mGet_0, mSet_0, mGet_1, mSet_1, mGet_2, mSet_2, mGet_3, mSet_3, mGet_4, mSet_4, mGet_5, mSet_5, mGet_6, mSet_6, mGet_7, mSet_7, mGet_8, mSet_8, mGet_9, mSet_9, mGet_10, mSet_10, mGet_11, mSet_11, mGet_12, mSet_12, mGet_13, mSet_13, e_Br_now, a_Br_now_0, bk_Br_now_0, yx_k h, yx_0 h, yx_4 h, yx_5 h, yx_6 h, yx_7 h, yx_8 h, yx_9 h, yx_10 h, yx_k1 h, yx_l1 h, yx_b h, yx_bk h, yx_bs h, yx_sk h, yx_sl h, yx_s h, yx_e h, yx_k9 h, yx_l9 h, yx_k10 h, yx_l10 h, hu]
theorem r_now (hg : gWf G) (h : xQ S I x π G) : mRun (D + 2) 173 [mR x] I S Q = Q (.inl (some (mR ((x + (4 + 744 * ((G.1 1))) + 106 * π ((G.1 1)) ((G.1 (10 + G.1 1)))))))) I S := by
  obtain ⟨⟨c0, c1, c2⟩, u0, u1, u2⟩ := gJ_b hg
  have h1 := h.1
  have hc := h.2.1.2
  have hb : ∀ Q : mQ, mRun (D + 1) 22 [mR (x + (2 + 744 * (G.1 1)))] I S Q = Q (.inl (some (mR ((x + (4 + 744 * ((G.1 1))) + 106 * π ((G.1 1)) ((G.1 (10 + G.1 1)))))))) I S := fun Q => r_Brnow D h1 c0 c1 (h.2.2.1 ((G.1 1)) c0 c1).1 u0 (by omega)
  simp (disch := first | omega | exact Nat.le_of_ble_eq_true rfl | (simp (disch := omega) only [yx_k h1, yx_0 h1, yx_4 h1, yx_5 h1, yx_6 h1, yx_7 h1, yx_8 h1, yx_9 h1, yx_10 h1, yx_k1 h1, yx_l1 h1, yx_b h1, yx_bk h1, yx_bs h1, yx_sk h1, yx_sl h1, yx_s h1, yx_e h1, yx_k9 h1, yx_l9 h1, yx_k10 h1, yx_l10 h1, hc] <;> omega)) only [w_iconst, w_bipush, w_sipush, w_ldc_s, w_ldcw_s, w_ldc_i, w_ldcw_i, w_lconst, w_fconst, w_dconst, w_iload, w_iload_n, w_aload, w_aload_n, w_dload, w_istore, w_istore_n, w_astore_r, w_astore_s, w_astore_n_r, w_astore_n_s, w_dstore, w_iinc, w_iadd, w_isub, w_imul, w_iand, w_iushr, v_idiv, v_irem, w_ineg, w_i2l, w_i2c, w_i2f, w_i2d, v_f2d, w_lcmp, w_dcmp, v_fdiv, v_ddiv, w_dup_i, w_dup_r, w_dup2, w_dup_x2, w_pop_i, w_pop_r, w_goto, w_switch, w_ret_i, v_ret_z, v_ret_c, w_ret_a, w_ret_s, w_ret_f, w_ret_d, w_ret_v, v_iaload, v_baload, v_caload, v_laload, v_aaload, v_iastore, v_bastore, v_castore, v_lastore, v_aastore, v_alen, v_newa, v_anewa, w_new, w_throw, w_dead, v_getf_i, v_getf_z, v_getf_r, v_putf_i, v_putf_z, v_putf_r, w_call0, w_call1, w_callv1, w_calli1, w_callt1, w_call2, w_callv2, w_calli2, w_callt2, w_call3, w_callv3, w_calli3, w_call4, w_callv4, w_calli4, w_call5, w_callv5, w_calli5, w_call6, w_callv6, w_calli6, w_call7, w_callv7, w_calli7, w_call8, w_callv8, w_calli8, c_if0_eq_t, c_if0_eq_f, c_if2_eq_t, c_if2_eq_f, c_if0_ne_t, c_if0_ne_f, c_if2_ne_t, c_if2_ne_f, c_if0_lt_t, c_if0_lt_f, c_if2_lt_t, c_if2_lt_f, c_if0_ge_t, c_if0_ge_f, c_if2_ge_t, c_if2_ge_f, c_if0_gt_t, c_if0_gt_f, c_if2_gt_t, c_if2_gt_f, c_if0_le_t, c_if0_le_f, c_if2_le_t, c_if2_le_f, w_nil, uI_s, uA_r, uA_s, uD_d, mPut_0, mCl_own, mCv_go, mCl_min, mCl_cpy, mCv_obj, mAct_len, mAct_chrc, mAft_v, mAft_n, mAft_x, mGet_0, mSet_0, mGet_1, mSet_1, mGet_2, mSet_2, mGet_3, mSet_3, mGet_4, mSet_4, mGet_5, mSet_5, mGet_6, mSet_6, mGet_7, mSet_7, mGet_8, mSet_8, mGet_9, mSet_9, mGet_10, mSet_10, mGet_11, mSet_11, mGet_12, mSet_12, mGet_13, mSet_13, e_RS_now, a_RS_now_0, bk_RS_now_0, yx_k h1, yx_0 h1, yx_4 h1, yx_5 h1, yx_6 h1, yx_7 h1, yx_8 h1, yx_9 h1, yx_10 h1, yx_k1 h1, yx_l1 h1, yx_b h1, yx_bk h1, yx_bs h1, yx_sk h1, yx_sl h1, yx_s h1, yx_e h1, yx_k9 h1, yx_l9 h1, yx_k10 h1, yx_l10 h1, hc, hb]
theorem r_before (hg : gWf G) (h : xQ S I x π G) (hu : 1 ≤ (G.1 (10 + G.1 1))) : mRun (D + 2) 175 [mR x] I S Q = Q (.inl (some (mR ((x + (4 + 744 * ((G.1 1))) + 106 * π ((G.1 1)) ((G.1 (10 + G.1 1)) - 1)))))) I S := by
  obtain ⟨⟨c0, c1, c2⟩, u0, u1, u2⟩ := gJ_b hg
  have h1 := h.1
  have hc := h.2.1.2
  have hv := (h.2.2.1 ((G.1 1)) c0 c1).1
  have hb : ∀ Q : mQ, mRun (D + 1) 23 [mR (x + (2 + 744 * (G.1 1)))] I S Q = Q (.inl (some (mR ((x + (4 + 744 * ((G.1 1))) + 106 * π ((G.1 1)) ((G.1 (10 + G.1 1)) - 1)))))) I S := fun Q => by
    have hv' : I (x + (2 + 744 * (G.1 1))) 1 = (G.1 (10 + G.1 1)) := hv
    simp (disch := first | omega | exact Nat.le_of_ble_eq_true rfl | (simp (disch := omega) only [yx_k h1, yx_0 h1, yx_4 h1, yx_5 h1, yx_6 h1, yx_7 h1, yx_8 h1, yx_9 h1, yx_10 h1, yx_k1 h1, yx_l1 h1, yx_b h1, yx_bk h1, yx_bs h1, yx_sk h1, yx_sl h1, yx_s h1, yx_e h1, yx_k9 h1, yx_l9 h1, yx_k10 h1, yx_l10 h1, hv'] <;> omega)) only [w_iconst, w_bipush, w_sipush, w_ldc_s, w_ldcw_s, w_ldc_i, w_ldcw_i, w_lconst, w_fconst, w_dconst, w_iload, w_iload_n, w_aload, w_aload_n, w_dload, w_istore, w_istore_n, w_astore_r, w_astore_s, w_astore_n_r, w_astore_n_s, w_dstore, w_iinc, w_iadd, w_isub, w_imul, w_iand, w_iushr, v_idiv, v_irem, w_ineg, w_i2l, w_i2c, w_i2f, w_i2d, v_f2d, w_lcmp, w_dcmp, v_fdiv, v_ddiv, w_dup_i, w_dup_r, w_dup2, w_dup_x2, w_pop_i, w_pop_r, w_goto, w_switch, w_ret_i, v_ret_z, v_ret_c, w_ret_a, w_ret_s, w_ret_f, w_ret_d, w_ret_v, v_iaload, v_baload, v_caload, v_laload, v_aaload, v_iastore, v_bastore, v_castore, v_lastore, v_aastore, v_alen, v_newa, v_anewa, w_new, w_throw, w_dead, v_getf_i, v_getf_z, v_getf_r, v_putf_i, v_putf_z, v_putf_r, w_call0, w_call1, w_callv1, w_calli1, w_callt1, w_call2, w_callv2, w_calli2, w_callt2, w_call3, w_callv3, w_calli3, w_call4, w_callv4, w_calli4, w_call5, w_callv5, w_calli5, w_call6, w_callv6, w_calli6, w_call7, w_callv7, w_calli7, w_call8, w_callv8, w_calli8, c_if0_eq_t, c_if0_eq_f, c_if2_eq_t, c_if2_eq_f, c_if0_ne_t, c_if0_ne_f, c_if2_ne_t, c_if2_ne_f, c_if0_lt_t, c_if0_lt_f, c_if2_lt_t, c_if2_lt_f, c_if0_ge_t, c_if0_ge_f, c_if2_ge_t, c_if2_ge_f, c_if0_gt_t, c_if0_gt_f, c_if2_gt_t, c_if2_gt_f, c_if0_le_t, c_if0_le_f, c_if2_le_t, c_if2_le_f, w_nil, uI_s, uA_r, uA_s, uD_d, mPut_0, mCl_own, mCv_go, mCl_min, mCl_cpy, mCv_obj, mAct_len, mAct_chrc, mAft_v, mAft_n, mAft_x, mGet_0, mSet_0, mGet_1, mSet_1, mGet_2, mSet_2, mGet_3, mSet_3, mGet_4, mSet_4, mGet_5, mSet_5, mGet_6, mSet_6, mGet_7, mSet_7, mGet_8, mSet_8, mGet_9, mSet_9, mGet_10, mSet_10, mGet_11, mSet_11, mGet_12, mSet_12, mGet_13, mSet_13, e_Br_before, a_Br_before_0, bk_Br_before_0, a_Br_before_20, bk_Br_before_20, a_Br_before_21, bk_Br_before_21, yx_k h1, yx_0 h1, yx_4 h1, yx_5 h1, yx_6 h1, yx_7 h1, yx_8 h1, yx_9 h1, yx_10 h1, yx_k1 h1, yx_l1 h1, yx_b h1, yx_bk h1, yx_bs h1, yx_sk h1, yx_sl h1, yx_s h1, yx_e h1, yx_k9 h1, yx_l9 h1, yx_k10 h1, yx_l10 h1, hv', wr]
  simp (disch := first | omega | exact Nat.le_of_ble_eq_true rfl | (simp (disch := omega) only [yx_k h1, yx_0 h1, yx_4 h1, yx_5 h1, yx_6 h1, yx_7 h1, yx_8 h1, yx_9 h1, yx_10 h1, yx_k1 h1, yx_l1 h1, yx_b h1, yx_bk h1, yx_bs h1, yx_sk h1, yx_sl h1, yx_s h1, yx_e h1, yx_k9 h1, yx_l9 h1, yx_k10 h1, yx_l10 h1, hc] <;> omega)) only [w_iconst, w_bipush, w_sipush, w_ldc_s, w_ldcw_s, w_ldc_i, w_ldcw_i, w_lconst, w_fconst, w_dconst, w_iload, w_iload_n, w_aload, w_aload_n, w_dload, w_istore, w_istore_n, w_astore_r, w_astore_s, w_astore_n_r, w_astore_n_s, w_dstore, w_iinc, w_iadd, w_isub, w_imul, w_iand, w_iushr, v_idiv, v_irem, w_ineg, w_i2l, w_i2c, w_i2f, w_i2d, v_f2d, w_lcmp, w_dcmp, v_fdiv, v_ddiv, w_dup_i, w_dup_r, w_dup2, w_dup_x2, w_pop_i, w_pop_r, w_goto, w_switch, w_ret_i, v_ret_z, v_ret_c, w_ret_a, w_ret_s, w_ret_f, w_ret_d, w_ret_v, v_iaload, v_baload, v_caload, v_laload, v_aaload, v_iastore, v_bastore, v_castore, v_lastore, v_aastore, v_alen, v_newa, v_anewa, w_new, w_throw, w_dead, v_getf_i, v_getf_z, v_getf_r, v_putf_i, v_putf_z, v_putf_r, w_call0, w_call1, w_callv1, w_calli1, w_callt1, w_call2, w_callv2, w_calli2, w_callt2, w_call3, w_callv3, w_calli3, w_call4, w_callv4, w_calli4, w_call5, w_callv5, w_calli5, w_call6, w_callv6, w_calli6, w_call7, w_callv7, w_calli7, w_call8, w_callv8, w_calli8, c_if0_eq_t, c_if0_eq_f, c_if2_eq_t, c_if2_eq_f, c_if0_ne_t, c_if0_ne_f, c_if2_ne_t, c_if2_ne_f, c_if0_lt_t, c_if0_lt_f, c_if2_lt_t, c_if2_lt_f, c_if0_ge_t, c_if0_ge_f, c_if2_ge_t, c_if2_ge_f, c_if0_gt_t, c_if0_gt_f, c_if2_gt_t, c_if2_gt_f, c_if0_le_t, c_if0_le_f, c_if2_le_t, c_if2_le_f, w_nil, uI_s, uA_r, uA_s, uD_d, mPut_0, mCl_own, mCv_go, mCl_min, mCl_cpy, mCv_obj, mAct_len, mAct_chrc, mAft_v, mAft_n, mAft_x, mGet_0, mSet_0, mGet_1, mSet_1, mGet_2, mSet_2, mGet_3, mSet_3, mGet_4, mSet_4, mGet_5, mSet_5, mGet_6, mSet_6, mGet_7, mSet_7, mGet_8, mSet_8, mGet_9, mSet_9, mGet_10, mSet_10, mGet_11, mSet_11, mGet_12, mSet_12, mGet_13, mSet_13, e_RS_before, a_RS_before_0, bk_RS_before_0, yx_k h1, yx_0 h1, yx_4 h1, yx_5 h1, yx_6 h1, yx_7 h1, yx_8 h1, yx_9 h1, yx_10 h1, yx_k1 h1, yx_l1 h1, yx_b h1, yx_bk h1, yx_bs h1, yx_sk h1, yx_sl h1, yx_s h1, yx_e h1, yx_k9 h1, yx_l9 h1, yx_k10 h1, yx_l10 h1, hc, hb]
end XQ
