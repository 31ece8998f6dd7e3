/-! The class's plan and way of a basin that holds a state. -/
theorem zL_cg {bs bs' : Int → Int} {cap td : Int} : ∀ (k : Nat), (∀ w : Int, td ≤ w → w ≤ td + k → bs w = bs' w) → zL bs cap td k = zL bs' cap td k
  | 0, h => h td (Int.le_refl _) (by omega)
  | k + 1, h => by
    show bs (td + (k + 1)) + zMn (zL bs cap td k) cap = bs' (td + (k + 1)) + zMn (zL bs' cap td k) cap
    rw [zL_cg k (fun w w0 w1 => h w w0 (by omega)), h (td + (k + 1)) (by omega) (by omega)]
section YY
variable {n e b s : Int} {S : mH} {Q : mQ} (D : Nat) {σ : sT} {I : mN}
/-- what planning may change -/
def yFn (I I' : mN) (n e b : Int) : Prop := ∀ a : Int, (a < n ∨ n + 15 ≤ a) → a ≠ e → (a < b ∨ b + 106 ≤ a) → I' a = I a
theorem yFn_t {I I' I'' : mN} (h : yFn I I' n e b) (h' : yFn I' I'' n e b) : yFn I I'' n e b := fun a a1 a2 a3 => (h' a a1 a2 a3).trans (h a a1 a2 a3)
theorem yS_po (h : yS I b σ) {i : Int} (i0 : 0 ≤ i) (i1 : i < σ 3) : zPo I b i = sPo σ i := (h.2.2.2.1 i i0 i1).1.1
theorem yS_plan {am : Int → Int → Int} (hw : sWf σ) (h : yS I b σ) (s0 : 0 ≤ s) (s1 : s < 3) (hp : zPlan (yNet I b s) (I b 3).toNat (I b 0) (yRk I b) (zPo I b) (sAk σ s) am) : sPlan σ s am := by
  have h3 := hw.1.2.2.2
  unfold sPlan
  rw [h.1.2.2.2, h.1.1] at hp
  exact zPlan_cg (yS_ag hw h s0 s1) (fun o o0 o1 => yS_rk hw h o0 (by omega)) (fun o o0 o1 => yS_po h o0 (by omega)) (fun _ _ _ _ _ _ _ => rfl) (fun _ _ _ _ _ _ _ => rfl) hp
theorem p_planS (hE : e < n ∨ n + 15 ≤ e) (hn : yNe S n e) (hB : yB S b) (hd : b + 106 ≤ n ∨ n + 15 ≤ b) (he : e < b ∨ b + 106 ≤ e) (hw : sWf σ) (ho : yOk I b) (h : yS I b σ) (hO : nOldQ I n) (s0 : 0 ≤ s) (s1 : s < 3)
    (k : ∀ I' : mN, yFn I I' n e b → yOk I' b → yS I' b σ → nOldQ I' n → I' (b + 4) s = 1 → Q (.inl none) I' S) : mRun (D + 40) 37 [mR n, mR b, mI s] I S Q := by
  have hbd := ho.1
  have h3 := hw.1.2.2.2
  have h0 := hw.1.1
  rcases ho.2.2.2.1 s s0 s1 with hp | hp
  · refine p_plan (D + 35) hE hn hB hd he hbd s0 s1 hp hO (yS_nAsk D hn.2.2.1 hB he hw ho h s0 s1) (fun r w r0 r1 w0 w1 => ?_) (fun r r0 r1 => ?_) (fun I' hD => ?_)
    · rw [h.1.2.2.2] at r1
      rw [h.1.1] at w0
      exact sAk_bd hw r0 r1 (by omega) w1
    · have := ho.2.2.1 r r0 r1
      have := hbd.1.2.1
      dsimp only [zPo]
      exact ⟨by omega, by omega⟩
    · obtain ⟨⟨-, -, -, -, hO'⟩, -, -, -, -, d6, d7, d8, d9⟩ := hD
      have hP := yS_plan hw h s0 s1 d6
      have eA : ∀ i w : Int, 0 ≤ i → i < σ 3 → σ 0 ≤ w → w < 8 → I' (b + (56 + 5 * i) + 3) (s * 8 + w) = sAm σ s i w := fun i w i0 i1 w0 w1 => (sAm_eq (by omega) hP i0 i1 w0 (by omega) w1).symm
      have eb : I' b = I b := d7 b (by omega) (by omega) (by omega) (fun i _ _ => by omega)
      have e0 : I b 0 = σ 0 := h.1.1
      have e3 : I b 3 = σ 3 := h.1.2.2.2
      have ho' : yOk I' b := by
        obtain ⟨k1, k2, k3, k4, k5⟩ := ho
        obtain ⟨g1, g2, g3, g4⟩ := k1
        refine ⟨⟨by rw [eb]; exact g1, fun p p0 p1 => ?_, fun r r0 r1 => ?_, fun r r0 r1 => ?_⟩, fun r r0 r1 => ?_, fun r r0 r1 => ?_, fun s' q0 q1 => ?_, ?_⟩
        · rw [d7 (b + (5 + 4 * p)) (by omega) (by omega) (by omega) (fun i _ _ => by omega), d7 (b + (5 + 4 * p) + 1) (by omega) (by omega) (by omega) (fun i _ _ => by omega), d7 (b + (5 + 4 * p) + 3) (by omega) (by omega) (by omega) (fun i _ _ => by omega)]; exact g2 p p0 p1
        · rw [d7 (b + (29 + 3 * r)) (by omega) (by omega) (by omega) (fun i _ _ => by omega), d7 (b + (29 + 3 * r) + 1) (by omega) (by omega) (by omega) (fun i _ _ => by omega), d7 (b + (29 + 3 * r) + 2) (by omega) (by omega) (by omega) (fun i _ _ => by omega)]; exact g3 r r0 r1
        · rw [eb] at r1 ⊢
          have g9 := g1.2.2.1
          rw [d7 (b + (29 + 3 * r)) (by omega) (by omega) (by omega) (fun i _ _ => by omega)]; exact g4 r r0 r1
        · obtain ⟨l1, l2, l3, l4⟩ := k2 r r0 r1
          rw [d7 (b + (56 + 5 * r)) (by omega) (by omega) (by omega) (fun i _ _ => by omega), d7 (b + (56 + 5 * r) + 4) (by omega) (by omega) (by omega) (fun i _ _ => by omega)]
          refine ⟨l1, l2, l3, fun j j0 j1 => ?_⟩
          by_cases c : r < I b 3 → s * 8 + I b 0 ≤ j → s * 8 + 8 ≤ j
          · rw [d9 r r0 r1 j c]; exact l4 j j0 j1
          · have c1 : r < I b 3 := Classical.byContradiction (fun q => c (fun q' => absurd q' q))
            have c2 : s * 8 + I b 0 ≤ j := Classical.byContradiction (fun q => c (fun _ q' => absurd q' q))
            have c3 : j < s * 8 + 8 := Classical.byContradiction (fun q => c (fun _ _ => by omega))
            have h9 := eA r (j - s * 8) r0 (by omega) (by omega) (by omega)
            rw [show s * 8 + (j - s * 8) = j by omega] at h9
            rw [h9]
            exact sAm_bd hw s0 s1 (by omega) (by omega)
        · rw [eb] at r1 ⊢
          have g9 := g1.2.2.2
          rw [d7 (b + (56 + 5 * r)) (by omega) (by omega) (by omega) (fun i _ _ => by omega)]; exact k3 r r0 r1
        · rw [d8]
          unfold zU
          by_cases c : s' = s
          · rw [if_pos c]; exact Or.inr rfl
          · rw [if_neg c]; exact k4 s' q0 q1
        · rw [eb, d8]
          rcases k5 with k5 | k5
          · exact Or.inl k5
          · refine Or.inr ⟨k5.1, ?_⟩
            unfold zU
            by_cases c : (0 : Int) = s
            · rw [if_pos c]
            · rw [if_neg c]; exact k5.2
      refine k I' (fun a a1 a2 a3 => d7 a a1 a2 (by omega) (fun i _ _ => by omega)) ho' ?_ hO' (by rw [d8]; exact if_pos rfl)
      obtain ⟨y1, y2, y3, y4, y5, y6⟩ := h
      have w1 := hw.1.2.1
      have w2 := hw.1.2.2.1
      refine ⟨by rw [eb]; exact y1, fun p p0 p1 => ?_, fun r r0 r1 => ?_, fun i i0 i1 => ?_, fun s' q0 q1 hs i w i0 i1 t0 t1 => ?_, fun h8 => ⟨fun r w r0 r1 t0 t1 => ?_, fun p w p0 p1 t0 t1 => ?_⟩⟩
      · rw [d7 (b + (5 + 4 * p)) (by omega) (by omega) (by omega) (fun i _ _ => by omega), d7 (b + (5 + 4 * p) + 1) (by omega) (by omega) (by omega) (fun i _ _ => by omega), d7 (b + (5 + 4 * p) + 2) (by omega) (by omega) (by omega) (fun i _ _ => by omega), d7 (b + (5 + 4 * p) + 3) (by omega) (by omega) (by omega) (fun i _ _ => by omega)]; exact y2 p p0 p1
      · rw [d7 (b + (29 + 3 * r)) (by omega) (by omega) (by omega) (fun i _ _ => by omega), d7 (b + (29 + 3 * r) + 1) (by omega) (by omega) (by omega) (fun i _ _ => by omega), d7 (b + (29 + 3 * r) + 2) (by omega) (by omega) (by omega) (fun i _ _ => by omega)]; exact y3 r r0 r1
      · obtain ⟨l1, l2, l3, l4, l5⟩ := y4 i i0 i1
        rw [d7 (b + (56 + 5 * i)) (by omega) (by omega) (by omega) (fun i _ _ => by omega), d7 (b + (56 + 5 * i) + 1) (by omega) (by omega) (by omega) (fun i _ _ => by omega), d7 (b + (56 + 5 * i) + 2) (by omega) (by omega) (by omega) (fun i _ _ => by omega), d7 (b + (56 + 5 * i) + 4) (by omega) (by omega) (by omega) (fun i _ _ => by omega)]
        exact ⟨l1, l2, l3, fun s' w q0 q1 w0 w1 => by rw [d9 i i0 (by omega) (s' * 8 + w) (by omega)]; exact l4 s' w q0 q1 w0 w1, l5⟩
      · by_cases c : s' = s
        · subst c; exact eA i w i0 i1 t0 t1
        · rw [d8] at hs
          unfold zU at hs
          rw [if_neg c] at hs
          rw [d9 i i0 (by omega) (s' * 8 + w) (by omega)]
          exact y5 s' q0 q1 hs i w i0 i1 t0 t1
      · rw [eb] at h8; rw [d7 (b + (29 + 3 * r) + 2) (by omega) (by omega) (by omega) (fun i _ _ => by omega)]; exact (y6 h8).1 r w r0 r1 t0 t1
      · rw [eb] at h8; rw [d7 (b + (5 + 4 * p) + 1) (by omega) (by omega) (by omega) (fun i _ _ => by omega), d7 (b + (5 + 4 * p) + 2) (by omega) (by omega) (by omega) (fun i _ _ => by omega)]; exact (y6 h8).2 p w p0 p1 t0 t1
  · rw [show D + 40 = (D + 39) + 1 from rfl, r_plan_0 (D + 39) hn hB s0 s1 hp]
    exact k I (fun _ _ _ _ => rfl) ho h hO hp
theorem p_wayS (hE : e < n ∨ n + 15 ≤ e) (hn : yNe S n e) (hB : yB S b) (hd : b + 106 ≤ n ∨ n + 15 ≤ b) (he : e < b ∨ b + 106 ≤ e) (hw : sWf σ) (ho : yOk I b) (h : yS I b σ) (hO : nOldQ I n)
    (k : ∀ I' : mN, yFn I I' n e b → yOk I' b → yS I' b σ → nOldQ I' n → I' b 8 = 1 → Q (.inl none) I' S) : mRun (D + 41) 40 [mR n, mR b] I S Q := by
  rcases ho.2.2.2.2 with hp | hp
  · generalize hK : mUp I (b + 4) 0 0 = K
    have kne : ∀ a : Int, a ≠ b + 4 → K a = I a := fun a ha => by rw [← hK, up_fa ha]
    have kb : K b = I b := kne b (by omega)
    have k4 : ∀ s : Int, 0 ≤ s → s < 3 → (K (b + 4) s = 0 ∨ K (b + 4) s = 1) ∧ (K (b + 4) s = 1 → I (b + 4) s = 1) := fun s q0 q1 => by
      by_cases c : s = 0
      · have : K (b + 4) s = 0 := by rw [← hK, c, up_eq rfl rfl]
        exact ⟨Or.inl this, fun h9 => by omega⟩
      · have : K (b + 4) s = I (b + 4) s := by rw [← hK, up_nk c]
        rw [this]
        exact ⟨ho.2.2.2.1 s q0 q1, fun h9 => h9⟩
    have hoK : yOk K b := by
      obtain ⟨⟨g1, g2, g3, g4⟩, k2, k3, -, k5⟩ := ho
      refine ⟨⟨by rw [kb]; exact g1, fun p p0 p1 => ?_, fun r r0 r1 => ?_, fun r r0 r1 => ?_⟩, fun r r0 r1 => ?_, fun r r0 r1 => ?_, fun s' q0 q1 => (k4 s' q0 q1).1, by rw [kb]; exact Or.inl hp⟩
      · rw [kne (b + (5 + 4 * p)) (by omega), kne (b + (5 + 4 * p) + 1) (by omega), kne (b + (5 + 4 * p) + 3) (by omega)]; exact g2 p p0 p1
      · rw [kne (b + (29 + 3 * r)) (by omega), kne (b + (29 + 3 * r) + 1) (by omega), kne (b + (29 + 3 * r) + 2) (by omega)]; exact g3 r r0 r1
      · rw [kb] at r1 ⊢
        rw [kne (b + (29 + 3 * r)) (by omega)]; exact g4 r r0 r1
      · rw [kne (b + (56 + 5 * r)) (by omega), kne (b + (56 + 5 * r) + 3) (by omega), kne (b + (56 + 5 * r) + 4) (by omega)]; exact k2 r r0 r1
      · rw [kb] at r1 ⊢
        rw [kne (b + (56 + 5 * r)) (by omega)]; exact k3 r r0 r1
    have hK' : yS K b σ := by
      obtain ⟨y1, y2, y3, y4, y5, y6⟩ := h
      refine ⟨by rw [kb]; exact y1, fun p p0 p1 => ?_, fun r r0 r1 => ?_, fun i i0 i1 => ?_, fun s' q0 q1 hs i w i0 i1 t0 t1 => ?_, fun h8 => ⟨fun r w r0 r1 t0 t1 => ?_, fun p w p0 p1 t0 t1 => ?_⟩⟩
      · rw [kne (b + (5 + 4 * p)) (by omega), kne (b + (5 + 4 * p) + 1) (by omega), kne (b + (5 + 4 * p) + 2) (by omega), kne (b + (5 + 4 * p) + 3) (by omega)]; exact y2 p p0 p1
      · rw [kne (b + (29 + 3 * r)) (by omega), kne (b + (29 + 3 * r) + 1) (by omega), kne (b + (29 + 3 * r) + 2) (by omega)]; exact y3 r r0 r1
      · rw [kne (b + (56 + 5 * i)) (by omega), kne (b + (56 + 5 * i) + 1) (by omega), kne (b + (56 + 5 * i) + 2) (by omega), kne (b + (56 + 5 * i) + 3) (by omega), kne (b + (56 + 5 * i) + 4) (by omega)]; exact y4 i i0 i1
      · rw [kne (b + (56 + 5 * i) + 3) (by omega)]; exact y5 s' q0 q1 ((k4 s' q0 q1).2 hs) i w i0 i1 t0 t1
      · rw [kb] at h8; rw [kne (b + (29 + 3 * r) + 2) (by omega)]; exact (y6 h8).1 r w r0 r1 t0 t1
      · rw [kb] at h8; rw [kne (b + (5 + 4 * p) + 1) (by omega), kne (b + (5 + 4 * p) + 2) (by omega)]; exact (y6 h8).2 p w p0 p1 t0 t1
    have hOK : nOldQ K n := by
      unfold nOldQ at hO ⊢
      rw [kne n (by omega), kne (n + 10) (by omega), kne (n + 11) (by omega)]; exact hO
    have h3 := hw.1.2.2.2
    have h0 := hw.1.1
    have w1 := hw.1.2.1
    have w2 := hw.1.2.2.1
    have hbd := hoK.1
    have e0 : K b 0 = σ 0 := hK'.1.1
    have e1 : K b 1 = σ 1 := hK'.1.2.1
    have e2 : K b 2 = σ 2 := hK'.1.2.2.1
    have e3 : K b 3 = σ 3 := hK'.1.2.2.2
    refine p_findWay (ask := sAk σ 0) (D + 35) hK.symm hE hn hB hd he hbd (fun r r0 r1 j j0 j1 => (hoK.2.1 r r0 r1).2.2.2 j j0 (by omega)) hp hOK (yS_nAsk D hn.2.2.1 hB he hw hoK hK' (Int.le_refl 0) (by decide)) (fun r w r0 r1 w0 w1 => ?_) (fun r r0 r1 => ?_) (fun I' hD => ?_)
    · rw [e3] at r1
      rw [e0] at w0
      exact sAk_bd hw r0 r1 (by omega) w1
    · have := hoK.2.2.1 r r0 r1
      have := hbd.1.2.1
      dsimp only [zPo]
      exact ⟨by omega, by omega⟩
    · obtain ⟨d1, d2, d3, ⟨I3, I1, q1, q2, q3, q4, q5, q6, q7, q8⟩, d5, d6, d7, d8, d9, d10⟩ := hD
      have hP := yS_plan hw hK' (Int.le_refl 0) (by decide) d1
      have eA : ∀ i w : Int, 0 ≤ i → i < σ 3 → σ 0 ≤ w → w < 8 → I' (b + (56 + 5 * i) + 3) (0 * 8 + w) = sAm σ 0 i w := fun i w i0 i1 w0 w1 => (sAm_eq (by omega) hP i0 i1 w0 (by omega) w1).symm
      have hW : zWay (sNet σ 0) (sDm σ (σ 3) (σ 0)) (fun c => I' (b + (29 + 3 * (c / 8)) + 2) (c % 8)) := by
        have h9 := zAg_way (yS_ag hw hK' (Int.le_refl 0) (by decide)) d2
        have e9 : zD (K b 3).toNat (K b 0) (yRk K b) (zPo K b) (zAm I' b 0) (K b 3) (K b 0) = sDm σ (σ 3) (σ 0) := by
          rw [e3, e0]
          exact zD_cg (fun o o0 o1 => yS_rk hw hK' o0 (by omega)) (fun o o0 o1 => yS_po hK' o0 (by omega)) (fun o t o0 o1 t0 t1 t2 => eA o t o0 (by omega) t0 t2)
        rw [e9] at h9
        exact h9
      have eS : ∀ r w : Int, 0 ≤ r → r < σ 2 → σ 0 ≤ w → w < 8 → I' (b + (29 + 3 * r) + 2) w = sSe σ r w := fun r w r0 r1 t0 t1 => by
        have g1 : (r * 8 + w) / 8 = r := by omega
        have g2 : (r * 8 + w) % 8 = w := by omega
        unfold sSe
        rw [if_neg (by omega)]
        by_cases hl : (sNet σ 0).1 (r * 8 + w) = true
        · rw [if_pos hl]
          have h9 := sWy_eq hW (a := r * 8 + w) (by omega) (by omega) hl
          rw [h9]
          show _ = I' (b + (29 + 3 * ((r * 8 + w) / 8)) + 2) ((r * 8 + w) % 8)
          rw [g1, g2]
        · rw [if_neg hl]
          have h9 := (d3 (r * 8 + w) (by omega) (by omega) (by omega) (by omega)).2
          rw [g1, g2] at h9
          refine h9 ?_
          have h8 := ((yS_ag hw hK' (s := 0) (Int.le_refl 0) (by decide)).1 (r * 8 + w) (by omega) (by omega)).1
          rw [h8]
          exact Bool.eq_false_iff.mpr hl
      obtain ⟨n1, n2, n3, n4⟩ := q2
      have b1 : I1 b = K b := q4
      have eBs : ∀ p w : Int, 0 ≤ p → p < σ 1 → σ 0 ≤ w → w < 8 → yBs I1 n b p w = sBs σ p w := fun p w p0 p1 t0 t1 => by
        unfold yBs sBs
        rw [q5 (p * 8 + w) (by omega) (by omega), yS_su hw hK' (Int.le_refl 0) (by decide) (by omega) (by omega), b1, e2, e3, e0]
        congr 1
        · congr 1
          refine sm_congr (fun r r0 r1 => ?_)
          obtain ⟨⟨a0, a1, a2⟩, -⟩ := hK'.2.2.1 r r0 (by omega)
          unfold yIn
          rw [(q7 r r0 (by omega)).1, (q7 r r0 (by omega)).2, a1, a2]
          by_cases c : σ (17 + 11 * r) = p ∧ σ 0 ≤ w - σ (18 + 11 * r)
          · rw [if_pos c, if_pos c]
            have := (hw.2.2.1 r r0 (by omega)).1
            exact eS r _ r0 (by omega) c.2 (by omega)
          · rw [if_neg c, if_neg c]
        · congr 1
          · refine sm_congr (fun r r0 r1 => ?_)
            have a0 := (hK'.2.2.2.1 r r0 (by omega)).1.1
            unfold yAo
            rw [(q8 r r0 (by omega)).1, (q8 r r0 (by omega)).2, a0]
            by_cases c : σ (259 + 76 * r) = p
            · rw [if_pos c, if_pos c]
              have h9 := eA r w r0 (by omega) t0 t1
              rw [show (0 : Int) * 8 + w = w by omega] at h9
              exact h9
            · rw [if_neg c, if_neg c]
          · refine sm_congr (fun r r0 r1 => ?_)
            obtain ⟨⟨a0, a1, a2⟩, -⟩ := hK'.2.2.1 r r0 (by omega)
            unfold yOu
            rw [(q7 r r0 (by omega)).1, (q7 r r0 (by omega)).2, a0]
            by_cases c : σ (16 + 11 * r) = p
            · rw [if_pos c, if_pos c]
              exact eS r w r0 (by omega) t0 t1
            · rw [if_neg c, if_neg c]
      have eLp : ∀ p w : Int, 0 ≤ p → p < σ 1 → σ 0 ≤ w → w < 8 → zLp I1 n b p w = sLp σ p w ∧ I1 (b + (5 + 4 * p)) 0 = σ (4 + 2 * p) := fun p w p0 p1 t0 t1 => by
        have ec : I1 (b + (5 + 4 * p)) 0 = σ (4 + 2 * p) := by rw [(q6 p p0 (by omega)).1]; exact (hK'.2.1 p p0 p1).1
        refine ⟨?_, ec⟩
        unfold zLp sLp
        rw [ec, b1, e0]
        exact zL_cg _ (fun w' u0 u1 => eBs p w' p0 p1 u0 (by omega))
      have eI3 : ∀ a : Int, a ≠ b → I' a = I3 a := fun a ha => by rw [q1, up_fa ha]
      have eSt : ∀ p w : Int, 0 ≤ p → p < σ 1 → σ 0 ≤ w → w < 8 → I' (b + (5 + 4 * p) + 1) (w + 1) = sSt σ p (w + 1) ∧ I' (b + (5 + 4 * p) + 2) w = sRa σ p w := fun p w p0 p1 t0 t1 => by
        obtain ⟨l1, l2⟩ := eLp p w p0 p1 t0 t1
        obtain ⟨m1, m2⟩ := n2 p w ⟨⟨p0, by rw [b1, e1]; exact p1⟩, ⟨by rw [b1, e0]; exact t0, t1⟩, Or.inl t1⟩
        rw [l1, l2] at m1 m2
        rw [eI3 _ (by omega), eI3 _ (by omega), m1, m2]
        unfold sSt sRa
        rw [if_neg (by omega), if_neg (by omega), if_neg (by omega), show w + 1 - 1 = w by omega]
        exact ⟨rfl, rfl⟩
      have eOld : ∀ p j : Int, 0 ≤ p → p < 6 → ((j ≤ σ 0 ∨ σ 1 ≤ p) → I' (b + (5 + 4 * p) + 1) j = K (b + (5 + 4 * p) + 1) j) ∧ ((j < σ 0 ∨ σ 1 ≤ p) → I' (b + (5 + 4 * p) + 2) j = K (b + (5 + 4 * p) + 2) j) := fun p j p0 p1 => by
        rw [eI3 _ (by omega), eI3 _ (by omega), ← (q6 p p0 p1).2.1, ← (q6 p p0 p1).2.2]
        refine ⟨fun hj => n3 p p0 p1 j (fun h9 => ?_), fun hj => n4 p p0 p1 j (fun h9 => ?_)⟩
        · obtain ⟨⟨-, u1⟩, ⟨u2, -⟩, -⟩ := h9
          rw [b1] at u1 u2
          omega
        · obtain ⟨⟨-, u1⟩, ⟨u2, -⟩, -⟩ := h9
          rw [b1] at u1 u2
          omega
      have f0 : ∀ k : Int, k ≠ 8 → I' b k = K b k := fun k hk => by rw [d9]; exact if_neg hk
      have fP : ∀ p : Int, 0 ≤ p → p < 6 → I' (b + (5 + 4 * p)) = K (b + (5 + 4 * p)) ∧ I' (b + (5 + 4 * p) + 3) = K (b + (5 + 4 * p) + 3) := fun p p0 p1 => ⟨d10 _ (by omega) (by omega) (by omega) (by omega) (fun i _ _ => by omega) (fun i _ _ => by omega) (fun i _ _ => by omega), d10 _ (by omega) (by omega) (by omega) (by omega) (fun i _ _ => by omega) (fun i _ _ => by omega) (fun i _ _ => by omega)⟩
      have fR : ∀ r : Int, 0 ≤ r → r < 9 → I' (b + (29 + 3 * r)) = K (b + (29 + 3 * r)) ∧ I' (b + (29 + 3 * r) + 1) = K (b + (29 + 3 * r) + 1) := fun r r0 r1 => ⟨d10 _ (by omega) (by omega) (by omega) (by omega) (fun i _ _ => by omega) (fun i _ _ => by omega) (fun i _ _ => by omega), d10 _ (by omega) (by omega) (by omega) (by omega) (fun i _ _ => by omega) (fun i _ _ => by omega) (fun i _ _ => by omega)⟩
      have fI : ∀ i : Int, 0 ≤ i → i < 10 → I' (b + (56 + 5 * i)) = K (b + (56 + 5 * i)) ∧ I' (b + (56 + 5 * i) + 1) = K (b + (56 + 5 * i) + 1) ∧ I' (b + (56 + 5 * i) + 2) = K (b + (56 + 5 * i) + 2) ∧ I' (b + (56 + 5 * i) + 4) = K (b + (56 + 5 * i) + 4) := fun i i0 i1 => ⟨d10 _ (by omega) (by omega) (by omega) (by omega) (fun i _ _ => by omega) (fun i _ _ => by omega) (fun i _ _ => by omega), d10 _ (by omega) (by omega) (by omega) (by omega) (fun i _ _ => by omega) (fun i _ _ => by omega) (fun i _ _ => by omega), d10 _ (by omega) (by omega) (by omega) (by omega) (fun i _ _ => by omega) (fun i _ _ => by omega) (fun i _ _ => by omega), d10 _ (by omega) (by omega) (by omega) (by omega) (fun i _ _ => by omega) (fun i _ _ => by omega) (fun i _ _ => by omega)⟩
      have f4 : ∀ s : Int, 0 ≤ s → s < 3 → (I' (b + 4) s = 0 ∨ I' (b + 4) s = 1) ∧ (s ≠ 0 → I' (b + 4) s = K (b + 4) s) := fun s q0 q1 => by
        rw [d8]
        unfold zU
        by_cases c : s = 0
        · rw [if_pos c]; exact ⟨Or.inr rfl, fun h9 => absurd c h9⟩
        · rw [if_neg c]; exact ⟨(k4 s q0 q1).1, fun _ => rfl⟩
      refine k I' (fun a a1 a2 a3 => ?_) ?_ ?_ d5 (by rw [d9]; exact if_pos rfl)
      · rw [d10 a a1 a2 (by omega) (by omega) (fun i _ _ => by omega) (fun i _ _ => by omega) (fun i _ _ => by omega)]
        exact kne a (by omega)
      · obtain ⟨⟨g1, g2, g3, g4⟩, k2, k3, -, k5⟩ := hoK
        refine ⟨⟨?_, fun p p0 p1 => ?_, fun r r0 r1 => ?_, fun r r0 r1 => ?_⟩, fun r r0 r1 => ?_, fun r r0 r1 => ?_, fun s' q0 q1 => (f4 s' q0 q1).1, ?_⟩
        · rw [f0 0 (by decide), f0 1 (by decide), f0 2 (by decide), f0 3 (by decide)]; exact g1
        · rw [(fP p p0 p1).1, (fP p p0 p1).2]
          refine ⟨(g2 p p0 p1).1, fun j j0 j1 => ?_, (g2 p p0 p1).2.2⟩
          by_cases c : j ≤ σ 0 ∨ σ 1 ≤ p
          · rw [(eOld p j p0 p1).1 c]; exact (g2 p p0 p1).2.1 j j0 j1
          · have h9 := (eSt p (j - 1) p0 (by omega) (by omega) (by omega)).1
            rw [show j - 1 + 1 = j by omega] at h9
            rw [h9]
            exact sSt_bd hw p0 p1 j0 (by omega)
        · rw [(fR r r0 r1).1, (fR r r0 r1).2]
          refine ⟨(g3 r r0 r1).1, fun j j0 j1 => ⟨((g3 r r0 r1).2 j j0 j1).1, ?_⟩⟩
          by_cases c : r < K b 2 → K b 0 ≤ j → 8 ≤ j
          · rw [d6 r r0 r1 j c]; exact ((g3 r r0 r1).2 j j0 j1).2
          · have c1 : r < K b 2 := Classical.byContradiction (fun q => c (fun q' => absurd q' q))
            have c2 : K b 0 ≤ j := Classical.byContradiction (fun q => c (fun _ q' => absurd q' q))
            rw [eS r j r0 (by omega) (by omega) j1]
            exact sSe_bd hw r0 r1 j0 j1
        · rw [f0 2 (by decide)] at r1
          have g9 := g1.2.2.1
          rw [(fR r r0 (by omega)).1, f0 1 (by decide)]; exact g4 r r0 r1
        · obtain ⟨l1, l2, l3, l4⟩ := k2 r r0 r1
          rw [(fI r r0 r1).1, (fI r r0 r1).2.2.2]
          refine ⟨l1, l2, l3, fun j j0 j1 => ?_⟩
          by_cases c : r < K b 3 → K b 0 ≤ j → 8 ≤ j
          · rw [d7 r r0 r1 j c]; exact l4 j j0 j1
          · have c1 : r < K b 3 := Classical.byContradiction (fun q => c (fun q' => absurd q' q))
            have c2 : K b 0 ≤ j := Classical.byContradiction (fun q => c (fun _ q' => absurd q' q))
            have c3 : j < 8 := Classical.byContradiction (fun q => c (fun _ _ => by omega))
            have h9 := eA r j r0 (by omega) (by omega) (by omega)
            rw [show (0 : Int) * 8 + j = j by omega] at h9
            rw [h9]
            exact sAm_bd hw (Int.le_refl 0) (by decide) (by omega) (by omega)
        · rw [f0 3 (by decide)] at r1
          have g9 := g1.2.2.2
          rw [(fI r r0 (by omega)).1, f0 1 (by decide)]; exact k3 r r0 r1
        · rw [d9, d8]; exact Or.inr ⟨if_pos rfl, if_pos rfl⟩
      · obtain ⟨y1, y2, y3, y4, y5, y6⟩ := hK'
        refine ⟨?_, fun p p0 p1 => ?_, fun r r0 r1 => ?_, fun i i0 i1 => ?_, fun s' q0 q1 hs i w i0 i1 t0 t1 => ?_, fun h8 => ⟨fun r w r0 r1 t0 t1 => eS r w r0 r1 t0 t1, fun p w p0 p1 t0 t1 => eSt p w p0 p1 t0 t1⟩⟩
        · rw [f0 0 (by decide), f0 1 (by decide), f0 2 (by decide), f0 3 (by decide)]; exact y1
        · obtain ⟨l1, l2, l3, l4⟩ := y2 p p0 p1
          rw [(fP p p0 (by omega)).1, (fP p p0 (by omega)).2]
          refine ⟨l1, ?_, fun w t0 t1 t2 => ?_, l4⟩
          · rw [(eOld p (σ 0) p0 (by omega)).1 (Or.inl (Int.le_refl _))]; exact l2
          · rw [(eOld p w p0 (by omega)).1 (Or.inl (by omega)), (eOld p w p0 (by omega)).2 (Or.inl t1)]; exact l3 w t0 t1 t2
        · obtain ⟨l1, l2, l3⟩ := y3 r r0 r1
          rw [(fR r r0 (by omega)).1, (fR r r0 (by omega)).2]
          exact ⟨l1, l2, fun w t0 t1 t2 => by rw [d6 r r0 (by omega) w (by omega)]; exact l3 w t0 t1 t2⟩
        · obtain ⟨l1, l2, l3, l4, l5⟩ := y4 i i0 i1
          obtain ⟨u1, u2, u3, u4⟩ := fI i i0 (by omega)
          rw [u1, u2, u3, u4]
          exact ⟨l1, l2, l3, fun s' w q0 q1 w0 w1 => by rw [d7 i i0 (by omega) (s' * 8 + w) (by omega)]; exact l4 s' w q0 q1 w0 w1, l5⟩
        · by_cases c : s' = 0
          · subst c; exact eA i w i0 i1 t0 t1
          · rw [(f4 s' q0 q1).2 c] at hs
            rw [d7 i i0 (by omega) (s' * 8 + w) (by omega)]
            exact y5 s' q0 q1 hs i w i0 i1 t0 t1
  · rw [show D + 41 = (D + 40) + 1 from rfl, r_findWay_0 (D + 40) hn hB hp.1]
    exact k I (fun _ _ _ _ => rfl) ho h hO hp.1
end YY
