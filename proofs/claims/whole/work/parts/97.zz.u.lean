/-! A week passes: the state. -/
noncomputable def pGv (σ : sT) (k : Int) : sT := fun c => if 1067 ≤ c ∧ c < 1067 + 8 * k ∧ (c - 1067) % 8 = σ 0 then sAm σ 0 ((c - 1067) / 8) (σ 0) else if 1147 ≤ c ∧ c < 1147 + 8 * k ∧ (c - 1147) % 8 = σ 0 then sAk σ 0 ((c - 1147) / 8) (σ 0) else if 262 ≤ c ∧ c < 262 + 76 * k ∧ (c - 262) % 76 = 0 then σ c - σ (c - 1) * sAm σ 0 ((c - 262) / 76) (σ 0) else σ c
noncomputable def pAr (σ : sT) (c : Int) : Int → Int := fun r => if σ (17 + 11 * r) = (c - 1019) / 8 ∧ σ 0 + σ (18 + 11 * r) = (c - 1019) % 8 ∧ 0 < σ (18 + 11 * r) then sSe σ r (σ 0) else 0
noncomputable def pSd (σ : sT) (k : Nat) (B : sT) : sT := fun c => if 1227 ≤ c ∧ c < 1227 + 8 * (k : Int) ∧ (c - 1227) % 8 = σ 0 then sSe σ ((c - 1227) / 8) (σ 0) else if 1019 ≤ c ∧ c < 1067 then B c + sm k (pAr σ c) else B c
noncomputable def pSt (σ : sT) (k : Int) (B : sT) : sT := fun c => if 1299 ≤ c ∧ c < 1299 + 8 * k ∧ (c - 1299) % 8 = σ 0 then σ (5 + 2 * ((c - 1299) / 8)) else if 1347 ≤ c ∧ c < 1347 + 8 * k ∧ (c - 1347) % 8 = σ 0 then sRa σ ((c - 1347) / 8) (σ 0) else if 5 ≤ c ∧ c < 5 + 2 * k ∧ (c - 5) % 2 = 0 then sSt σ ((c - 5) / 2) (σ 0 + 1) else B c
noncomputable def sPass (σ : sT) : sT := zU (pSt σ (σ 1) (pSd σ (σ 2).toNat (pGv σ (σ 3)))) 0 (σ 0 + 1)
section PV
variable {σ : sT} {c : Int}
theorem p_v0 : sPass σ 0 = σ 0 + 1 := zU_eq rfl
theorem p_lo (h0 : 1 ≤ c) (h1 : c < 262) (h : c < 5 ∨ 5 + 2 * σ 1 ≤ c ∨ (c - 5) % 2 ≠ 0) : sPass σ c = σ c := by
  unfold sPass
  rw [zU_ne (by omega)]
  unfold pSt
  rw [if_neg (by omega), if_neg (by omega), if_neg (by omega)]
  unfold pSd
  rw [if_neg (by omega), if_neg (by omega)]
  unfold pGv
  rw [if_neg (by omega), if_neg (by omega), if_neg (by omega)]
theorem p_st {p : Int} (p0 : 0 ≤ p) (p1 : p < σ 1) (p6 : p < 6) : sPass σ (5 + 2 * p) = sSt σ p (σ 0 + 1) := by
  unfold sPass
  rw [zU_ne (by omega)]
  unfold pSt
  rw [if_neg (by omega), if_neg (by omega), if_pos (by omega), show (5 + 2 * p - 5) / 2 = p by omega]
theorem p_ri (hs1 : σ 1 ≤ 6) (h0 : 259 ≤ c) (h1 : c < 1019) (h : c < 262 ∨ 262 + 76 * σ 3 ≤ c ∨ (c - 262) % 76 ≠ 0) : sPass σ c = σ c := by
  unfold sPass
  rw [zU_ne (by omega)]
  unfold pSt
  rw [if_neg (by omega), if_neg (by omega), if_neg (by omega)]
  unfold pSd
  rw [if_neg (by omega), if_neg (by omega)]
  unfold pGv
  rw [if_neg (by omega), if_neg (by omega), if_neg (by omega)]
theorem p_ba (hs1 : σ 1 ≤ 6) {i : Int} (i0 : 0 ≤ i) (i1 : i < σ 3) (i2 : i < 10) : sPass σ (262 + 76 * i) = σ (262 + 76 * i) - σ (261 + 76 * i) * sAm σ 0 i (σ 0) := by
  unfold sPass
  rw [zU_ne (by omega)]
  unfold pSt
  rw [if_neg (by omega), if_neg (by omega), if_neg (by omega)]
  unfold pSd
  rw [if_neg (by omega), if_neg (by omega)]
  unfold pGv
  rw [if_neg (by omega), if_neg (by omega), if_pos (by omega), show (262 + 76 * i - 262) / 76 = i by omega, show 262 + 76 * i - 1 = 261 + 76 * i by omega]
theorem p_ar (hs1 : σ 1 ≤ 6) (hs3 : σ 3 ≤ 10) (h0 : 1019 ≤ c) (h1 : c < 1067) : sPass σ c = σ c + sm (σ 2).toNat (pAr σ c) := by
  unfold sPass
  rw [zU_ne (by omega)]
  unfold pSt
  rw [if_neg (by omega), if_neg (by omega), if_neg (by omega)]
  unfold pSd
  rw [if_neg (by omega), if_pos (by omega)]
  unfold pGv
  rw [if_neg (by omega), if_neg (by omega), if_neg (by omega)]
theorem p_go (hs1 : σ 1 ≤ 6) (hs3 : σ 3 ≤ 10) {i j : Int} (i0 : 0 ≤ i) (i1 : i < 10) (j0 : 0 ≤ j) (j1 : j < 8) : sPass σ (1067 + 8 * i + j) = if i < σ 3 ∧ j = σ 0 then sAm σ 0 i j else σ (1067 + 8 * i + j) := by
  unfold sPass
  rw [zU_ne (by omega)]
  unfold pSt
  rw [if_neg (by omega), if_neg (by omega), if_neg (by omega)]
  unfold pSd
  rw [if_neg (by omega), if_neg (by omega)]
  unfold pGv
  by_cases c : i < σ 3 ∧ j = σ 0
  · rw [if_pos (by omega), if_pos c, show (1067 + 8 * i + j - 1067) / 8 = i by omega, c.2]
  · rw [if_neg (by omega), if_neg c, if_neg (by omega), if_neg (by omega)]
theorem p_as (hs1 : σ 1 ≤ 6) (hs3 : σ 3 ≤ 10) {i j : Int} (i0 : 0 ≤ i) (i1 : i < 10) (j0 : 0 ≤ j) (j1 : j < 8) : sPass σ (1147 + 8 * i + j) = if i < σ 3 ∧ j = σ 0 then sAk σ 0 i j else σ (1147 + 8 * i + j) := by
  unfold sPass
  rw [zU_ne (by omega)]
  unfold pSt
  rw [if_neg (by omega), if_neg (by omega), if_neg (by omega)]
  unfold pSd
  rw [if_neg (by omega), if_neg (by omega)]
  unfold pGv
  rw [if_neg (by omega)]
  by_cases c : i < σ 3 ∧ j = σ 0
  · rw [if_pos (by omega), if_pos c, show (1147 + 8 * i + j - 1147) / 8 = i by omega, c.2]
  · rw [if_neg (by omega), if_neg c, if_neg (by omega)]
theorem p_se (hs1 : σ 1 ≤ 6) (hs2 : 0 ≤ σ 2 ∧ σ 2 ≤ 9) (hs3 : σ 3 ≤ 10) {i j : Int} (i0 : 0 ≤ i) (i1 : i < 9) (j0 : 0 ≤ j) (j1 : j < 8) : sPass σ (1227 + 8 * i + j) = if i < σ 2 ∧ j = σ 0 then sSe σ i j else σ (1227 + 8 * i + j) := by
  unfold sPass
  rw [zU_ne (by omega)]
  unfold pSt
  rw [if_neg (by omega), if_neg (by omega), if_neg (by omega)]
  unfold pSd
  by_cases c : i < σ 2 ∧ j = σ 0
  · rw [if_pos (by omega), if_pos c, show (1227 + 8 * i + j - 1227) / 8 = i by omega, c.2]
  · rw [if_neg (by omega), if_neg c, if_neg (by omega)]
    unfold pGv
    rw [if_neg (by omega), if_neg (by omega), if_neg (by omega)]
theorem p_sto (hs1 : 0 ≤ σ 1 ∧ σ 1 ≤ 6) (hs2 : σ 2 ≤ 9) (hs3 : σ 3 ≤ 10) {i j : Int} (i0 : 0 ≤ i) (i1 : i < 6) (j0 : 0 ≤ j) (j1 : j < 8) : sPass σ (1299 + 8 * i + j) = if i < σ 1 ∧ j = σ 0 then σ (5 + 2 * i) else σ (1299 + 8 * i + j) := by
  unfold sPass
  rw [zU_ne (by omega)]
  unfold pSt
  by_cases c : i < σ 1 ∧ j = σ 0
  · rw [if_pos (by omega), if_pos c, show (1299 + 8 * i + j - 1299) / 8 = i by omega]
  · rw [if_neg (by omega), if_neg c, if_neg (by omega), if_neg (by omega)]
    unfold pSd
    rw [if_neg (by omega), if_neg (by omega)]
    unfold pGv
    rw [if_neg (by omega), if_neg (by omega), if_neg (by omega)]
theorem p_ra (hs1 : 0 ≤ σ 1 ∧ σ 1 ≤ 6) (hs2 : σ 2 ≤ 9) (hs3 : σ 3 ≤ 10) {i j : Int} (i0 : 0 ≤ i) (i1 : i < 6) (j0 : 0 ≤ j) (j1 : j < 8) : sPass σ (1347 + 8 * i + j) = if i < σ 1 ∧ j = σ 0 then sRa σ i j else σ (1347 + 8 * i + j) := by
  unfold sPass
  rw [zU_ne (by omega)]
  unfold pSt
  rw [if_neg (by omega)]
  by_cases c : i < σ 1 ∧ j = σ 0
  · rw [if_pos (by omega), if_pos c, show (1347 + 8 * i + j - 1347) / 8 = i by omega, c.2]
  · rw [if_neg (by omega), if_neg c, if_neg (by omega)]
    unfold pSd
    rw [if_neg (by omega), if_neg (by omega)]
    unfold pGv
    rw [if_neg (by omega), if_neg (by omega), if_neg (by omega)]
theorem p_hi (hs1 : σ 1 ≤ 6) (hs2 : σ 2 ≤ 9) (hs3 : σ 3 ≤ 10) (h : c < 0 ∨ 1395 ≤ c) : sPass σ c = σ c := by
  unfold sPass
  rw [zU_ne (by omega)]
  unfold pSt
  rw [if_neg (by omega), if_neg (by omega), if_neg (by omega)]
  unfold pSd
  rw [if_neg (by omega), if_neg (by omega)]
  unfold pGv
  rw [if_neg (by omega), if_neg (by omega), if_neg (by omega)]
end PV
section PW
variable {σ : sT}
theorem sAm_ask {s i w : Int} (hw : sWf σ) (s0 : 0 ≤ s) (s1 : s < 3) (i0 : 0 ≤ i) (i1 : i < σ 3) (w0 : σ 0 ≤ w) (w1 : w < 8) : sAm σ s i w ≤ sAk σ s i w := by
  have hP := sPlan_all hw s0 s1
  have h0 := hw.1.1
  unfold sPlan at hP
  exact (hP i w i0 (by omega) w0 (by omega) w1).1.2
theorem sAk_20 {s i w : Int} (hw : sWf σ) (i0 : 0 ≤ i) (i1 : i < σ 3) (w0 : σ 0 ≤ w) (w1 : w < 8) : sAk σ s i w ≤ 20 ∧ (σ (262 + 76 * i) < 0 → sAk σ s i w = 0) := by
  have h0 := hw.1.1
  have ha := (sWf_I hw i0 i1).2.2.2.2.2.2.2.2.2.2 w (by omega) w1
  unfold sAk
  rw [if_neg (by omega)]
  unfold zAkd
  refine ⟨?_, fun hb => if_pos (Or.inr hb)⟩
  split
  · decide
  · split
    · omega
    · split
      · decide
      · split <;> omega
theorem sZ_pass (hw : sWf σ) (hz : sZ σ) : sZ (sPass σ) := fun c hc => by
  have hb := hw.1
  rw [p_hi hb.2.1.2 hb.2.2.1.2 hb.2.2.2.2 hc]
  exact hz c hc
theorem sC5_pass (hw : sWf σ) (h : sC5 σ) : sC5 (sPass σ) := fun r j r0 r1 j0 j1 => by
  have hb := hw.1
  rw [p_lo (by omega) (by omega) (by omega)]
  exact h r j r0 r1 j0 j1
theorem sWf_pass (hw : sWf σ) (h8 : σ 0 < 8) : sWf (sPass σ) := by
  obtain ⟨⟨⟨b0, b0'⟩, ⟨b1, b1'⟩, ⟨b2, b2'⟩, b3, b3'⟩, w1, w2, w3, w4, w5, w6, w7, w8⟩ := id hw
  have v0 := p_v0 (σ := σ)
  have e1 : sPass σ 1 = σ 1 := p_lo (by decide) (by decide) (by omega)
  have e2 : sPass σ 2 = σ 2 := p_lo (by decide) (by decide) (by omega)
  have e3 : sPass σ 3 = σ 3 := p_lo (by decide) (by decide) (by omega)
  have eC : ∀ p : Int, 0 ≤ p → p < 6 → sPass σ (4 + 2 * p) = σ (4 + 2 * p) := fun p p0 p1 => p_lo (by omega) (by omega) (by omega)
  have eF : ∀ s p j : Int, 0 ≤ s → s < 3 → 0 ≤ p → p < 6 → 0 ≤ j → j < 8 → sPass σ (115 + 48 * s + 8 * p + j) = σ (115 + 48 * s + 8 * p + j) := fun s p j s0 s1 p0 p1 j0 j1 => p_lo (by omega) (by omega) (by omega)
  have eR : ∀ r k : Int, 0 ≤ r → r < 9 → 0 ≤ k → k < 11 → sPass σ (16 + 11 * r + k) = σ (16 + 11 * r + k) := fun r k r0 r1 k0 k1 => p_lo (by omega) (by omega) (by omega)
  have eR1 : ∀ r : Int, 0 ≤ r → r < 9 → sPass σ (17 + 11 * r) = σ (17 + 11 * r) := fun r r0 r1 => p_lo (by omega) (by omega) (by omega)
  have eR2 : ∀ r : Int, 0 ≤ r → r < 9 → sPass σ (18 + 11 * r) = σ (18 + 11 * r) := fun r r0 r1 => p_lo (by omega) (by omega) (by omega)
  have eG : ∀ i k : Int, 0 ≤ i → i < 10 → 0 ≤ k → k < 76 → k ≠ 3 → sPass σ (259 + 76 * i + k) = σ (259 + 76 * i + k) := fun i k i0 i1 k0 k1 k3 => p_ri b1' (by omega) (by omega) (by omega)
  refine ⟨⟨by rw [v0]; omega, by rw [e1]; exact ⟨b1, b1'⟩, by rw [e2]; exact ⟨b2, b2'⟩, by rw [e3]; exact ⟨b3, b3'⟩⟩, fun p p0 p1 => ?_, fun r r0 r1 => ?_, fun r r0 r1 => ?_, fun i i0 i1 => ?_, fun p w p0 p1 q0 q1 => ?_, fun p p0 p1 => ?_, fun r r0 r1 => ?_, fun i i0 i1 => ?_⟩
  · obtain ⟨c1, c2, c3, c4⟩ := w1 p p0 p1
    refine ⟨by rw [eC p p0 p1]; exact c1, ?_, fun j j0 j1 => ?_, fun s j s0 s1 j0 j1 => by rw [eF s p j s0 s1 p0 p1 j0 j1]; exact c4 s j s0 s1 j0 j1⟩
    · by_cases c : p < σ 1
      · rw [p_st p0 c p1]; exact sSt_bd hw p0 p1 (by omega) (by omega)
      · rw [p_lo (by omega) (by omega) (by omega)]; exact c2
    · rw [p_sto ⟨b1, b1'⟩ b2' b3' p0 p1 j0 j1]
      split
      · exact c2
      · exact c3 j j0 j1
  · obtain ⟨c1, c2⟩ := w2 r r0 r1
    refine ⟨by rw [eR2 r r0 r1]; exact c1, fun j j0 j1 => ⟨?_, ?_⟩⟩
    · rw [p_lo (by omega) (by omega) (by omega)]; exact (c2 j j0 j1).1
    · rw [p_se b1' ⟨b2, b2'⟩ b3' r0 r1 j0 j1]
      split
      · exact sSe_bd hw r0 r1 j0 j1
      · exact (c2 j j0 j1).2
  · rw [e2] at r1
    have h9 := eR r 0 r0 (by omega) (by decide) (by decide)
    rw [Int.add_zero] at h9
    rw [h9, eR1 r r0 (by omega), e1]; exact w3 r r0 r1
  · rw [e3] at i1
    have i2 : i < 10 := by omega
    obtain ⟨a0, a1, a2, a3, a4, a5, a6, a7, a8, a9, a10⟩ := w4 i i0 i1
    have g := fun k k0 k1 k3 => eG i k i0 i2 k0 k1 k3
    have g0 := g 0 (by decide) (by decide) (by decide)
    have g1 := g 1 (by decide) (by decide) (by decide)
    have g2 := g 2 (by decide) (by decide) (by decide)
    have g4 := g 4 (by decide) (by decide) (by decide)
    have g5 := g 5 (by decide) (by decide) (by decide)
    have g6 := g 6 (by decide) (by decide) (by decide)
    have g7 := g 7 (by decide) (by decide) (by decide)
    rw [Int.add_zero] at g0
    rw [show 259 + 76 * i + 1 = 260 + 76 * i by omega] at g1
    rw [show 259 + 76 * i + 2 = 261 + 76 * i by omega] at g2
    rw [show 259 + 76 * i + 4 = 263 + 76 * i by omega] at g4
    rw [show 259 + 76 * i + 5 = 264 + 76 * i by omega] at g5
    rw [show 259 + 76 * i + 6 = 265 + 76 * i by omega] at g6
    rw [show 259 + 76 * i + 7 = 266 + 76 * i by omega] at g7
    have gt : ∀ k : Int, 0 ≤ k → k < 60 → sPass σ (275 + 76 * i + k) = σ (275 + 76 * i + k) := fun k k0 k1 => p_ri b1' (by omega) (by omega) (by omega)
    refine ⟨by rw [g0, e1]; exact a0, by rw [g1]; exact a1, by rw [g2]; exact a2, ?_, by rw [g4]; exact a4, by rw [g5]; exact a5, by rw [g6]; exact a6, by rw [g7]; exact a7, fun k k0 k1 => by rw [gt k k0 k1]; exact a8 k k0 k1, fun hne => ?_, fun j j0 j1 => ⟨?_, ?_, ?_⟩⟩
    · rw [p_ba b1' i0 i1 i2]
      have q1 := sAm_ask (s := 0) hw (by decide) (by decide) i0 i1 (Int.le_refl _) h8
      have q2 := sAk_20 (s := 0) hw i0 i1 (Int.le_refl _) h8
      have q3 := sAm_bd (s := 0) (r := i) (w := σ 0) hw (by decide) (by decide) b0 h8
      have q4 : 0 ≤ σ (261 + 76 * i) * sAm σ 0 i (σ 0) := Int.mul_nonneg a2.1 q3.1
      have q5 : σ (261 + 76 * i) * sAm σ 0 i (σ 0) ≤ 9 * 20 := Int.mul_le_mul a2.2 (by omega) q3.1 (by decide)
      by_cases c : σ (262 + 76 * i) < 0
      · have q6 := q2.2 c
        rw [show sAm σ 0 i (σ 0) = 0 by omega, Int.mul_zero]
        omega
      · omega
    · rw [g7] at hne ⊢
      refine sDc_cg (fun k k0 k1 k2 => ?_) (a9 hne)
      show cTk _ = cTk _
      rw [gt k k0 k2]
    · rw [p_ri b1' (by omega) (by omega) (by omega)]; exact (a10 j j0 j1).1
    · rw [p_go b1' b3' i0 i2 j0 j1]
      split
      · exact sAm_bd hw (by decide) (by decide) j0 j1
      · exact (a10 j j0 j1).2.1
    · rw [p_as b1' b3' i0 i2 j0 j1]
      split
      · exact sAk_bd hw i0 i1 j0 j1
      · exact (a10 j j0 j1).2.2
  · rw [v0] at q0 ⊢
    rw [e2, p_ar b1' b3' (by omega) (by omega), w5 p w p0 p1 (by omega) q1, ← sm_add]
    refine sm_congr (fun r r0 r1 => ?_)
    have r9 : r < 9 := by omega
    have ht := (w2 r r0 r9).1
    unfold pAr
    rw [eR1 r r0 r9, eR2 r r0 r9, show (1019 + 8 * p + w - 1019) / 8 = p by omega, show (1019 + 8 * p + w - 1019) % 8 = w by omega]
    by_cases c1 : σ (17 + 11 * r) = p
    · by_cases c2 : w - σ (18 + 11 * r) < σ 0
      · by_cases c3 : 0 ≤ w - σ (18 + 11 * r)
        · rw [if_pos ⟨c1, c3, c2⟩, if_neg (by omega), if_pos ⟨c1, c3, by omega⟩, p_se b1' ⟨b2, b2'⟩ b3' r0 r9 c3 (by omega), if_neg (by omega), Int.add_zero]
        · rw [if_neg (by omega), if_neg (by omega), if_neg (by omega)]; rfl
      · by_cases c3 : w - σ (18 + 11 * r) = σ 0
        · rw [if_neg (by omega), if_pos ⟨c1, by omega, by omega⟩, if_pos ⟨c1, by omega, by omega⟩, c3, p_se b1' ⟨b2, b2'⟩ b3' r0 r9 b0 h8, if_pos ⟨by omega, rfl⟩, Int.zero_add]
        · rw [if_neg (by omega), if_neg (by omega), if_neg (by omega)]; rfl
    · rw [if_neg (fun q => c1 q.1), if_neg (fun q => c1 q.1), if_neg (fun q => c1 q.1)]; rfl
  · rw [e1] at p0
    obtain ⟨c1, c2, c3⟩ := w6 p p0 p1
    refine ⟨by rw [eC p (by omega) p1]; exact c1, by rw [p_lo (by omega) (by omega) (by omega)]; exact c2, fun j j0 j1 => ⟨?_, ?_, fun s s0 s1 => by rw [eF s p j s0 s1 (by omega) p1 j0 j1]; exact (c3 j j0 j1).2.2 s s0 s1⟩⟩
    · rw [p_sto ⟨b1, b1'⟩ b2' b3' (by omega) p1 j0 j1, if_neg (by omega)]; exact (c3 j j0 j1).1
    · rw [p_ra ⟨b1, b1'⟩ b2' b3' (by omega) p1 j0 j1, if_neg (by omega)]; exact (c3 j j0 j1).2.1
  · rw [e2] at r0
    obtain ⟨c1, c2⟩ := w7 r r0 r1
    refine ⟨fun j j0 j1 => by rw [eR r j (by omega) r1 j0 j1]; exact c1 j j0 j1, fun j j0 j1 => ?_⟩
    rw [p_se b1' ⟨b2, b2'⟩ b3' (by omega) r1 j0 j1, if_neg (by omega)]; exact c2 j j0 j1
  · rw [e3] at i0
    obtain ⟨c1, c2⟩ := w8 i i0 i1
    refine ⟨fun j j0 j1 => ?_, fun j j0 j1 => ⟨?_, ?_⟩⟩
    · rw [p_ri b1' (by omega) (by omega) (by omega)]; exact c1 j j0 j1
    · rw [p_go b1' b3' (by omega) i1 j0 j1, if_neg (by omega)]; exact (c2 j j0 j1).1
    · rw [p_as b1' b3' (by omega) i1 j0 j1, if_neg (by omega)]; exact (c2 j j0 j1).2
end PW
