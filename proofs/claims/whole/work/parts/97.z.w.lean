/-! The witness, by the office. -/
section XS
variable {n e b : Int} {S : mH} {I0 : mN} {N0 : zNet} {rk : Int → Int}
theorem nQ_8 {N : zNet} {f st dr : Int → Int} {I I' : mN} {node : Int} (h : nQ N f st dr I n node) (e0 : I' n = I n) (e10 : I' (n + 10) = I (n + 10)) (e11 : I' (n + 11) = I (n + 11)) (e12 : I' (n + 12) = I (n + 12)) (e13 : I' (n + 13) = I (n + 13)) : nQ N f st dr I' n node := by
  unfold nQ at h ⊢
  rw [e0, e10, e11, e12, e13]; exact h
theorem xSeen {I' : mN} {k w node v : Int} (hn : yNe S n e) (h : nWq I' n e I0 b N0 rk k w node) (hno : ¬ zFeas N0 (zAt (zD (I0 b 3).toNat (I0 b 0) rk (zPo I0 b) (zAm I0 b 0) k (w + 1)) node 1)) (n0 : 0 ≤ node) (n1 : node < 48) (v0 : 0 ≤ v) (v1 : v < 48) :
    (I' (n + 10) v = 0 ∨ I' (n + 10) v = 1) ∧ (I' (n + 10) v = 1 ↔ zFeas N0 (zAt (zAt (zD (I0 b 3).toNat (I0 b 0) rk (zPo I0 b) (zAm I0 b 0) k (w + 1)) node 1) v (-1))) := by
  obtain ⟨I, hW, hfr, hq, hcl⟩ := h
  obtain ⟨hS, eN, e1, h6, h9, -, -⟩ := hW
  obtain ⟨⟨s1, s2, s3, s4⟩, ⟨s5, s5'⟩, s6, s7, s8⟩ := id hS
  generalize hD : zD (I0 b 3).toNat (I0 b 0) rk (zPo I0 b) (zAm I0 b 0) k (w + 1) = Dm at hno hcl s6 ⊢
  refine ⟨hq.2.2.2.1 v v0 v1, fun hv => ?_, fun hf => ?_⟩
  · obtain ⟨j, j0, j1, hj⟩ := hq.2.2.2.2.2.1 v v0 v1 hv
    have f1 := hfr.1
    generalize hJ : mUp I' (n + 8) v 1 = J
    have jne : ∀ a : Int, a ≠ n + 8 → J a = I' a := fun a ha => by rw [← hJ, up_fa ha]
    have j8 : J (n + 8) v = 1 := by rw [← hJ, up_eq rfl rfl]
    have hqJ := nQ_8 hq (jne n (by omega)) (jne _ (by omega)) (jne _ (by omega)) (jne _ (by omega)) (jne _ (by omega))
    rw [← eN] at hqJ
    have hj1 : j < J n 13 := by rw [jne n (by omega)]; exact j1
    have hj2 : J (n + 11) j = v := by rw [jne _ (by omega)]; exact hj
    have g : ∀ a : Int, a ≠ n → a ≠ n + 8 → a ≠ n + 10 → a ≠ n + 11 → a ≠ n + 12 → a ≠ n + 13 → J a = I a := fun a a0 a8 a1 a2 a3 a4 => by rw [jne a a8, f1 a a0 a1 a2 a3 a4]
    have hfix : nFix J n (I n 1) (I (n + 1)) (I (n + 2)) (I (n + 3)) (I (n + 4)) (I (n + 5)) (I (n + 6)) (J (n + 8)) (I (n + 9)) := ⟨by rw [jne n (by omega), hfr.2 1 (by decide)], g _ (by omega) (by omega) (by omega) (by omega) (by omega) (by omega), g _ (by omega) (by omega) (by omega) (by omega) (by omega) (by omega), g _ (by omega) (by omega) (by omega) (by omega) (by omega) (by omega), g _ (by omega) (by omega) (by omega) (by omega) (by omega) (by omega), g _ (by omega) (by omega) (by omega) (by omega) (by omega) (by omega), g _ (by omega) (by omega) (by omega) (by omega) (by omega) (by omega), rfl, g _ (by omega) (by omega) (by omega) (by omega) (by omega) (by omega)⟩
    have hrun := p_push (Q := fun _ _ _ => zFeas N0 (zAt (zAt Dm node 1) v (-1))) (su := I (n + 7)) (most := 1) (src := v) (node := node) 0 hn s1 hfix hqJ (fun a a0 a1 => (s2 a a0 a1).2) s5 j0 hj1 hj2 (by rw [j8]; decide) (by rw [j8]; decide) (Int.le_refl 1) (by decide) (h9 node n0 n1) (fun un g' I9 u1 u2 u3 _ _ hc hex _ => by
      rw [← eN]
      refine ⟨g', hc, fun u q0 q1 => ?_⟩
      have h1 : zEx (nN I n) g' u = zEx (nN I n) (I (n + 5)) u + ((if node = u then un else 0) - (if v = u then un else 0)) := hex u
      obtain ⟨h2, h3, -⟩ := s6 u q0 q1
      obtain rfl : un = 1 := by omega
      rw [h1]
      unfold zAt
      by_cases c1 : u = node
      · by_cases c2 : u = v
        · rw [if_pos c2, if_pos c1, if_pos c1.symm, if_pos c2.symm]; omega
        · rw [if_neg c2, if_pos c1, if_pos c1.symm, if_neg (fun q => c2 q.symm)]; omega
      · by_cases c2 : u = v
        · rw [if_pos c2, if_neg c1, if_neg (fun q => c1 q.symm), if_pos c2.symm]; omega
        · rw [if_neg c2, if_neg c1, if_neg (fun q => c1 q.symm), if_neg (fun q => c2 q.symm)]; omega)
    obtain ⟨-, -, -, h, -⟩ := mRun_det _ _ _ _ _ _ hrun
    exact h
  · apply Classical.byContradiction
    intro hv
    have hcl := hcl hno
    have hwf : zWf N0 := by rw [← eN]; exact nWf_zWf s1 (fun a q0 q1 => (s2 a q0 q1).1)
    rw [eN] at s6
    have hnode : nDR (I (n + 9)) (I' (n + 10)) node = true := by
      have h8 := (hq.2.2.2.2.1 0 (Int.le_refl 0) (by have := hq.1.1; omega)).2
      rw [hq.2.1] at h8
      exact decide_eq_true (Or.inr h8)
    have hvf : nDR (I (n + 9)) (I' (n + 10)) v = false := decide_eq_false (fun q => by
      rcases q with q | q
      · exact q (h9 v v0 v1)
      · exact hv q)
    have ea : zAt (zAt Dm node 1) v (-1) = zAt (zAt Dm v (-1)) node 1 := funext (fun u => by
      unfold zAt
      by_cases c1 : u = node
      · by_cases c2 : u = v
        · rw [if_pos c2, if_pos c1, if_pos c1, if_pos c2]; omega
        · rw [if_neg c2, if_pos c1, if_pos c1, if_neg c2]
      · by_cases c2 : u = v
        · rw [if_pos c2, if_neg c1, if_neg c1, if_pos c2]
        · rw [if_neg c2, if_neg c1, if_neg c1, if_neg c2])
    rw [ea] at hf
    refine zFull hwf (fun a a0 a1 hl q1 q2 => (hcl.2 a a0 a1 hl (h6 a a0 a1)).1 q1 q2) (fun a a0 a1 hl q1 q2 => (hcl.2 a a0 a1 hl (h6 a a0 a1)).2 q2 q1) (fun u u0 u1 hu => ?_) n0 n1 hnode (by decide) hf
    have q9 := hcl.1 u u0 u1 hu
    obtain ⟨g1, g2, -⟩ := s6 u u0 u1
    have huv : u ≠ v := fun q => by rw [q, hvf] at hu; cases hu
    unfold zAt
    rw [if_neg huv]; omega
end XS
theorem zAg_tr {N N' N'' : zNet} (h : zAg N N') (h' : zAg N' N'') : zAg N N'' := ⟨fun a a0 a1 => ⟨(h.1 a a0 a1).1.trans (h'.1 a a0 a1).1, fun hl => by
  obtain ⟨e1, e2⟩ := h.1 a a0 a1
  obtain ⟨g1, g2, g3⟩ := e2 hl
  obtain ⟨k1, k2, k3⟩ := (h'.1 a a0 a1).2 (e1.symm.trans hl)
  exact ⟨g1.trans k1, g2.trans k2, g3.trans k3⟩⟩, fun v v0 v1 => (h.2 v v0 v1).trans (h'.2 v v0 v1)⟩
/-- the network is loaded with a state's -/
def nLd9 (I : mN) (n : Int) (σ : sT) : Prop := zAg (nN I n) (sNet σ 0) ∧ nWf (I n 1) (I (n + 1)) (I (n + 2)) (I (n + 3)) ∧ ∀ a : Int, 0 ≤ a → a < 120 → 0 ≤ I (n + 4) a ∧ I (n + 4) a ≤ 1000
section XT
variable {S : mH} {I : mN} {x : Int} {π : Int → Int → Int} {G : gT} {Q : mQ} (D : Nat)
theorem p_witX {a c b : Int} (hg : gWf G) (h : xQ S I x π G) (hb : (x + (4 + 744 * ((G.1 1))) + 106 * π ((G.1 1)) ((G.1 (10 + G.1 1)))) = b) (a0 : 0 ≤ a) (a1 : a < (G.2.1 (G.1 1) (G.1 (10 + G.1 1))) 3) (c0 : (G.2.1 (G.1 1) (G.1 (10 + G.1 1))) 0 ≤ c) (c1 : c < 8) (hsh : sAm ((G.2.1 (G.1 1) (G.1 (10 + G.1 1)))) 0 a c < sAk ((G.2.1 (G.1 1) (G.1 (10 + G.1 1)))) 0 a c)
    (kk : ∀ I' : mN, xQ S I' x π G → xF I I' x → I' x = I x → (∀ v : Int, 0 ≤ v → v < 48 → (I' (x + 2341 + 10) v = 0 ∨ I' (x + 2341 + 10) v = 1) ∧ (I' (x + 2341 + 10) v = 1 ↔ sWt ((G.2.1 (G.1 1) (G.1 (10 + G.1 1)))) a c v)) → nLd9 I' (x + 2341) ((G.2.1 (G.1 1) (G.1 (10 + G.1 1)))) → Q (.inl none) I' S) : mRun (D + 41) 45 [mR (x + 2341), mR b, mI a, mI c] I S Q := by
  have cc := gJ_b hg
  have hw := (gO_w hg).1
  have hv := hw.1
  obtain ⟨hB, ho, hb0, hb1⟩ := xQ_ok hg h cc.1.1 cc.1.2.1 cc.2.1 (show (G.1 (10 + G.1 1)) < 7 by omega)
  have h1 := h.1
  rw [hb] at hB ho hb0 hb1
  refine p_findWitness (D := D + 35) (PJ := fun J => xQ S J x π G ∧ yFn I J (x + 2341) (x + 2340) b ∧ J (b + 4) 0 = 1 ∧ yS J b ((G.2.1 (G.1 1) (G.1 (10 + G.1 1))))) (ask := sAk ((G.2.1 (G.1 1) (G.1 (10 + G.1 1)))) 0) (yx_n h1) hB (by omega) (by omega) a0 c1 (fun Q' hQ' => p_planX D hg h hb cc.1.1 cc.1.2.2 cc.2.1 cc.2.2.1 (by decide) (by decide) (fun I1 hx1 f1 e1 s1 => hQ' I1 ⟨hx1, f1, e1, s1⟩)) (fun J hJ => ?_) (fun J N0 I' hJ hag hq hW => ?_)
  · obtain ⟨hx, hf, hp, hs⟩ := hJ
    obtain ⟨-, hoJ, -, -⟩ := xQ_ok hg hx cc.1.1 cc.1.2.1 cc.2.1 (show (G.1 (10 + G.1 1)) < 7 by omega)
    rw [hb] at hoJ
    have hA : ∀ o t : Int, 0 ≤ o → o < (G.2.1 (G.1 1) (G.1 (10 + G.1 1))) 3 → 0 ≤ t → t < 8 → zAm J b 0 o t = sAm ((G.2.1 (G.1 1) (G.1 (10 + G.1 1)))) 0 o t := fun o t o0 o1 t0 t1 => yS_plan1 hs hp (by decide) (by decide) o0 o1 t0 t1
    refine ⟨hoJ.1, hx.2.2.2.2.2.2.1, ?_, fun r r0 r1 => ?_, fun o t o0 o1 t0 t1 => ?_, by rw [hs.1.2.2.2]; exact a1, by rw [hs.1.1]; exact c0⟩
    · rw [hs.1.2.2.2, hs.1.1]
      have hP := sPlan_all hw (show (0 : Int) ≤ 0 by decide) (show (0 : Int) < 3 by decide)
      unfold sPlan at hP
      exact zPlan_cg (zAg_symm (yS_ag hw hs (by decide) (by decide))) (fun o o0 o1 => (yS_rk hw hs o0 (by omega)).symm) (fun o o0 o1 => (yS_po hs o0 (by omega)).symm) (fun o t o0 o1 t0 t1 t2 => (hA o t o0 (by omega) t1 t2).symm) (fun _ _ _ _ _ _ _ => rfl) hP
    · have := hoJ.2.2.1 r r0 r1
      have := hoJ.1.1.2.1
      dsimp only [zPo]
      exact ⟨by omega, by omega⟩
    · rw [hs.1.2.2.2] at o1
      rw [hs.1.1] at t0
      rw [hA o t o0 o1 (by omega) t1]
      exact (sAm_bd hw (by decide) (by decide) (by omega) t1).2
  · obtain ⟨hx, hf, hp, hs⟩ := hJ
    have hA : ∀ o t : Int, 0 ≤ o → o < (G.2.1 (G.1 1) (G.1 (10 + G.1 1))) 3 → 0 ≤ t → t < 8 → zAm J b 0 o t = sAm ((G.2.1 (G.1 1) (G.1 (10 + G.1 1)))) 0 o t := fun o t o0 o1 t0 t1 => yS_plan1 hs hp (by decide) (by decide) o0 o1 t0 t1
    have hyg := yS_ag hw hs (show (0 : Int) ≤ 0 by decide) (show (0 : Int) < 3 by decide)
    have fe : ∀ D : Int → Int, zFeas N0 D ↔ zFeas (sNet ((G.2.1 (G.1 1) (G.1 (10 + G.1 1)))) 0) D := fun D => ⟨fun q => zAg_feas hyg (zAg_feas hag q), fun q => zAg_feas (zAg_symm hag) (zAg_feas (zAg_symm hyg) q)⟩
    have hD : zD (J b 3).toNat (J b 0) (yRk J b) (zPo J b) (zAm J b 0) (yRk J b a) (c + 1) = sDm ((G.2.1 (G.1 1) (G.1 (10 + G.1 1)))) (sRk ((G.2.1 (G.1 1) (G.1 (10 + G.1 1)))) a) (c + 1) := by
      unfold sDm
      rw [hs.1.2.2.2, hs.1.1, yS_rk hw hs a0 a1]
      exact zD_cg (fun o o0 o1 => yS_rk hw hs o0 (by omega)) (fun o o0 o1 => yS_po hs o0 (by omega)) (fun o t o0 o1 t0 t1 t2 => hA o t o0 (by omega) t1 t2)
    have hnode : zPo J b a * 8 + c = 8 * (G.2.1 (G.1 1) (G.1 (10 + G.1 1))) (259 + 76 * a) + c := by
      have e := yS_po hs a0 a1
      have e2 : sPo ((G.2.1 (G.1 1) (G.1 (10 + G.1 1)))) a = (G.2.1 (G.1 1) (G.1 (10 + G.1 1))) (259 + 76 * a) := rfl
      rw [e, e2]; omega
    have hpl : 0 ≤ (G.2.1 (G.1 1) (G.1 (10 + G.1 1))) (259 + 76 * a) ∧ (G.2.1 (G.1 1) (G.1 (10 + G.1 1))) (259 + 76 * a) < 6 := by
      have q := hx.2.2.2.1
      obtain ⟨-, hoJ, -, -⟩ := xQ_ok hg hx cc.1.1 cc.1.2.1 cc.2.1 (show (G.1 (10 + G.1 1)) < 7 by omega)
      rw [hb] at hoJ
      have q1 := hoJ.2.2.1 a a0 (by rw [hs.1.2.2.2]; exact a1)
      have q2 := hoJ.1.1.2.1
      have e : zPo J b a = (G.2.1 (G.1 1) (G.1 (10 + G.1 1))) (259 + 76 * a) := yS_po hs a0 a1
      dsimp only [zPo] at e
      omega
    have hno := (sAm_feas hw a0 a1 c0 c1).2 hsh
    have e9 : ∀ q : Int, (q < x + 2341 ∨ x + 2341 + 15 ≤ q) → q ≠ x + 2340 → I' q = J q := hW.2.2.2.2.2.2
    have hx' : xQ S I' x π G := xQ_t hg hx (fun q q1 q2 => e9 q (by omega) (by omega)) (yOk_k hx.2.2.2.2.2.1 (fun q q0 q1 => e9 q (by omega) (by omega))) hW.1.2.2.2.2
    refine kk I' hx' (fun q hq => ?_) ?_ (fun v v0 v1 => ?_) ⟨by rw [hW.2.1]; exact zAg_tr hag hyg, hW.1.1.1, hW.1.1.2.1⟩
    · rw [e9 q (by omega) (by omega)]
      exact hf q (by omega) (by omega) (by omega)
    · rw [e9 x (by omega) (by omega)]
      exact hf x (by omega) (by omega) (by omega)
    · have hs9 := xSeen (v := v) (yx_n h1) hq (by rw [hD, hnode, fe]; exact hno) (by rw [hnode]; omega) (by rw [hnode]; omega) v0 v1
      rw [hD, hnode, fe] at hs9
      exact hs9
end XT
