/-! No witness fails. -/
section WW
variable {n e b : Int} {S : mH} {Q : mQ} (D : Nat) {I0 : mN} {N0 : zNet} {ask : Int → Int → Int}
/-- after the search for an amount that is short: the water into the reached nodes is what is taken there -/
theorem nWq_hold {I : mN} {rt wk : Int} (h0 : 0 ≤ I0 b 0) (hb3 : 0 ≤ I0 b 3 ∧ I0 b 3 ≤ 10) (hE : e < n ∨ n + 15 ≤ e) (hd : b + 106 ≤ n ∨ n + 15 ≤ b) (he : e < b ∨ b + 106 ≤ e) (hpo : ∀ r : Int, 0 ≤ r → r < I0 b 3 → 0 ≤ zPo I0 b r ∧ zPo I0 b r < 6) (rt0 : 0 ≤ rt) (rt1 : rt < I0 b 3) (wk0 : 0 ≤ wk) (wk1 : wk < 8) (hq : nWq I n e I0 b N0 (yRk I0 b) (yRk I0 b rt) wk (zPo I0 b rt * 8 + wk)) (hW : nWi I n e I0 b N0 (yRk I0 b) (yRk I0 b rt) (wk + 1)) (hno : ¬ zFeas N0 (zAt (zD (I0 b 3).toNat (I0 b 0) (yRk I0 b) (zPo I0 b) (zAm I0 b 0) (yRk I0 b rt) (wk + 1)) (zPo I0 b rt * 8 + wk) 1)) :
    sm 48 (zWs (I (n + 7)) (I (n + 10))) + sm 15 (zWt (I n 1) (I (n + 1)) (I (n + 2)) (I (n + 3)) (I (n + 4)) (I (n + 10))) = sm (I b 3).toNat (yTs I b rt wk (I (n + 10))) := by
  obtain ⟨I1, hW1, hfr, hQ, hcl⟩ := hq
  have hcl := hcl hno
  obtain ⟨hS1, e2, e3, e4, e5, e6, e7⟩ := id hW1
  obtain ⟨⟨s1, s2, s3, s4⟩, s5, s6, s7, s8⟩ := hW.1
  have g : ∀ a : Int, a ≠ n → a ≠ n + 10 → a ≠ n + 11 → a ≠ n + 12 → a ≠ n + 13 → I a = I1 a := hfr.1
  have hre : ∀ v : Int, 0 ≤ v → v < 48 → (nDR (I1 (n + 9)) (I (n + 10)) v = true ↔ I (n + 10) v ≠ 0) := fun v v0 v1 => by
    have h9 := hQ.2.2.2.1 v v0 v1
    have h8 := e5 v v0 v1
    unfold nDR
    rw [decide_eq_true_iff]
    omega
  rw [← g (n + 5) (by omega) (by omega) (by omega) (by omega) (by omega), ← g (n + 6) (by omega) (by omega) (by omega) (by omega) (by omega), ← g (n + 8) (by omega) (by omega) (by omega) (by omega) (by omega), ← hW.2.1] at hcl
  rw [zInto (st := I (n + 6)) (sp := I (n + 8)) (f := I (n + 5)) (χ := nDR (I1 (n + 9)) (I (n + 10))) (Dm := zD (I0 b 3).toNat (I0 b 0) (yRk I0 b) (zPo I0 b) (zAm I0 b 0) (yRk I0 b rt) (wk + 1)) s1 (fun a a0 a1 => (s2 a a0 a1).1) (fun a a0 a1 => hW.2.2.2.1 a a0 a1) s6 hcl hre, zS_D (fun o q0 q1 => hpo o q0 (by omega))]
  have eb : I b = I0 b := hW.2.2.2.2.2.2 b (by omega) (by omega)
  rw [eb]
  refine sm_congr (fun o o0 o1 => sm_congr (fun t t0 t1 => ?_))
  have eA : I (b + (56 + 5 * o) + 3) = I0 (b + (56 + 5 * o) + 3) := hW.2.2.2.2.2.2 _ (by omega) (by omega)
  have eo : I (b + (56 + 5 * o)) = I0 (b + (56 + 5 * o)) := hW.2.2.2.2.2.2 _ (by omega) (by omega)
  have er : I (b + (56 + 5 * rt)) = I0 (b + (56 + 5 * rt)) := hW.2.2.2.2.2.2 _ (by omega) (by omega)
  have hp := hpo o o0 (by omega)
  have hreo := hre (8 * zPo I0 b o + t) (by omega) (by omega)
  have hnode : I (b + (56 + 5 * o)) 0 * 8 + t = 8 * zPo I0 b o + t := by rw [eo]; show zPo I0 b o * 8 + t = _; omega
  have ham : zAm I0 b 0 o t = I (b + (56 + 5 * o) + 3) t := by rw [eA]; show I0 _ (0 * 8 + t) = _; rw [show 0 * 8 + t = t by omega]
  have hold : zOld (zYr I b) (zRt I b) o rt ↔ zOld (zYr I0 b) (zRt I0 b) o rt := by
    simp only [zOld, zYr, zRt, eo, er]
  have hiff := zRank_iff (n := (I0 b 3).toNat) (yr := zYr I0 b) (rt := zRt I0 b) (a := o) (b := rt) o0 o1 rt0 (by omega)
  have heq : yRk I0 b o = yRk I0 b rt ↔ o = rt := ⟨fun h => zRank_inj o0 o1 rt0 (by omega) h, fun h => by rw [h]⟩
  have hlt : yRk I0 b o < yRk I0 b rt ↔ zOld (zYr I b) (zRt I b) o rt := hiff.trans hold.symm
  show _ = yTi I b rt wk (I (n + 10)) o t
  unfold yTi
  rw [hnode, eb, ham]
  have hc : (I0 b 0 ≤ t ∧ (yRk I0 b o < yRk I0 b rt ∨ (yRk I0 b o = yRk I0 b rt ∧ t < wk + 1)) ∧ nDR (I1 (n + 9)) (I (n + 10)) (8 * zPo I0 b o + t) = true) ↔ (I0 b 0 ≤ t ∧ t ≤ yLs I b rt wk o ∧ I (n + 10) (8 * zPo I0 b o + t) ≠ 0) := by
    rw [hreo, hlt, heq]
    unfold yLs
    by_cases h1 : o = rt
    · rw [if_pos h1]
      have hir : ¬ zOld (zYr I b) (zRt I b) o rt := by rw [h1]; exact zOld_ir
      constructor
      · rintro ⟨g1, g2, g3⟩
        refine ⟨g1, ?_, g3⟩
        rcases g2 with g2 | g2
        · exact absurd g2 hir
        · omega
      · rintro ⟨g1, g2, g3⟩
        exact ⟨g1, Or.inr ⟨h1, by omega⟩, g3⟩
    · rw [if_neg h1]
      by_cases h2 : zOld (zYr I b) (zRt I b) o rt
      · rw [if_pos h2]
        constructor
        · rintro ⟨g1, -, g3⟩
          exact ⟨g1, by omega, g3⟩
        · rintro ⟨g1, -, g3⟩
          exact ⟨g1, Or.inl h2, g3⟩
      · rw [if_neg h2]
        constructor
        · rintro ⟨g1, g2, g3⟩
          rcases g2 with g2 | g2
          · exact absurd g2 h2
          · exact absurd g2.1 h1
        · rintro ⟨g1, g2, g3⟩
          omega
  by_cases h9 : I0 b 0 ≤ t ∧ t ≤ yLs I b rt wk o ∧ I (n + 10) (8 * zPo I0 b o + t) ≠ 0
  · rw [if_pos h9, if_pos (hc.mpr h9)]
  · rw [if_neg h9, if_neg (fun h8 => h9 (hc.mp h8))]
end WW
