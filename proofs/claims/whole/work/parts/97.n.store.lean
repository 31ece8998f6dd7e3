/-! What is left is not less than what the plan stores: no storage is below nothing. -/
section SN
variable {σ : sT} {f : Int → Int} {p w : Int}
theorem sNet_to (c j : Int) (j0 : 0 ≤ j) (j1 : j < 8) : (sNet σ 0).2.2.1 (c * 8 + j) = sTo σ c * 8 + j + sTm σ c := by
  show sTo σ ((c * 8 + j) / 8) * 8 + (c * 8 + j) % 8 + sTm σ ((c * 8 + j) / 8) = _
  rw [show (c * 8 + j) / 8 = c by omega, show (c * 8 + j) % 8 = j by omega]
theorem sNet_fr (c j : Int) (j0 : 0 ≤ j) (j1 : j < 8) : (sNet σ 0).2.1 (c * 8 + j) = sFr σ c * 8 + j := by
  show sFr σ ((c * 8 + j) / 8) * 8 + (c * 8 + j) % 8 = _
  rw [show (c * 8 + j) / 8 = c by omega, show (c * 8 + j) % 8 = j by omega]
abbrev sTerm (σ : sT) (f : Int → Int) (v a : Int) : Int := if (sNet σ 0).1 a = true then (if (sNet σ 0).2.2.1 a = v then f a else 0) - (if (sNet σ 0).2.1 a = v then f a else 0) else 0
theorem sCh {c : Int} (hw : sWf σ) (c0 : 0 ≤ c) (c1 : c < 9) (p0 : 0 ≤ p) (p1 : p < 6) (w0 : σ 0 ≤ w) (w1 : w < 8) : sm 8 (fun j => sTerm σ f (p * 8 + w) (c * 8 + j)) = (if c < σ 2 ∧ σ (17 + 11 * c) = p ∧ σ 0 ≤ w - σ (18 + 11 * c) then f (c * 8 + (w - σ (18 + 11 * c))) else 0) - (if c < σ 2 ∧ σ (16 + 11 * c) = p ∧ w + σ (18 + 11 * c) < 8 then f (c * 8 + w) else 0) := by
  have hb := hw.1.1
  obtain ⟨⟨t0, t1⟩, -⟩ := hw.2.2.1 c c0 c1
  have hlive : ∀ j : Int, 0 ≤ j → j < 8 → ((sNet σ 0).1 (c * 8 + j) = true ↔ (c < σ 2 ∧ σ 0 ≤ j ∧ j + σ (18 + 11 * c) < 8)) := fun j j0 j1 => by
    rw [show c * 8 + j = 8 * c + j by omega]; exact sNet_r (s := 0) hw c0 c1 j0 j1
  by_cases hc : c < σ 2
  · obtain ⟨⟨f0, f1⟩, ⟨g0, g1⟩, -⟩ := hw.2.2.2.1 c c0 hc
    have h1 := hw.1.2.1
    have e1 : sTo σ c = σ (17 + 11 * c) := by unfold sTo; rw [if_pos c1, if_pos hc]
    have e2 : sFr σ c = σ (16 + 11 * c) := by unfold sFr; rw [if_pos c1, if_pos hc]
    have e3 : sTm σ c = σ (18 + 11 * c) := by unfold sTm; rw [if_pos c1]
    have hs : sm 8 (fun j => sTerm σ f (p * 8 + w) (c * 8 + j)) = sm 8 (fun j => (if (σ 0 ≤ j ∧ j + σ (18 + 11 * c) < 8) ∧ σ (17 + 11 * c) = p ∧ j = w - σ (18 + 11 * c) then f (c * 8 + j) else 0) - (if (σ 0 ≤ j ∧ j + σ (18 + 11 * c) < 8) ∧ σ (16 + 11 * c) = p ∧ j = w then f (c * 8 + j) else 0)) := by
      refine sm_congr (fun j j0 j1 => ?_)
      have j8 : j < 8 := by omega
      unfold sTerm
      rw [sNet_to c j j0 j8, sNet_fr c j j0 j8, e1, e2, e3]
      have hl := hlive j j0 j8
      by_cases hh : σ 0 ≤ j ∧ j + σ (18 + 11 * c) < 8
      · rw [if_pos (hl.mpr ⟨hc, hh⟩)]
        congr 1
        · by_cases q : σ (17 + 11 * c) * 8 + j + σ (18 + 11 * c) = p * 8 + w
          · rw [if_pos q, if_pos (by omega)]
          · rw [if_neg q, if_neg (by omega)]
        · by_cases q : σ (16 + 11 * c) * 8 + j = p * 8 + w
          · rw [if_pos q, if_pos (by omega)]
          · rw [if_neg q, if_neg (by omega)]
      · rw [if_neg (fun h9 => hh (hl.mp h9).2), if_neg (fun h9 => hh h9.1), if_neg (fun h9 => hh h9.1)]; rfl
    rw [hs, sm_sub]
    congr 1
    · by_cases q : c < σ 2 ∧ σ (17 + 11 * c) = p ∧ σ 0 ≤ w - σ (18 + 11 * c)
      · rw [if_pos q, sm_one (k := w - σ (18 + 11 * c)) (by omega) (by omega) (fun i i0 i1 hi => if_neg (fun h9 => hi h9.2.2)), if_pos ⟨by omega, q.2.1, rfl⟩]
      · rw [if_neg q]
        exact sm_zero (fun i i0 i1 => if_neg (fun h9 => q ⟨hc, h9.2.1, by omega⟩))
    · by_cases q : c < σ 2 ∧ σ (16 + 11 * c) = p ∧ w + σ (18 + 11 * c) < 8
      · rw [if_pos q, sm_one (k := w) (by omega) (by omega) (fun i i0 i1 hi => if_neg (fun h9 => hi h9.2.2)), if_pos ⟨by omega, q.2.1, rfl⟩]
      · rw [if_neg q]
        exact sm_zero (fun i i0 i1 => if_neg (fun h9 => q ⟨hc, h9.2.1, by omega⟩))
  · rw [if_neg (fun h9 => hc h9.1), if_neg (fun h9 => hc h9.1)]
    exact sm_zero (fun j j0 j1 => if_neg (fun h9 => hc ((hlive j j0 (by omega)).mp h9).1))
theorem sCp {q : Int} (hw : sWf σ) (q0 : 0 ≤ q) (q1 : q < 6) (p0 : 0 ≤ p) (p1 : p < σ 1) (w0 : σ 0 ≤ w) (w1 : w < 8) : sm 8 (fun j => sTerm σ f (p * 8 + w) ((9 + q) * 8 + j)) = if q = p then (if σ 0 < w then f (72 + p * 8 + (w - 1)) else 0) - (if w + 1 < 8 then f (72 + p * 8 + w) else 0) else 0 := by
  have hb := hw.1
  have hlive : ∀ j : Int, 0 ≤ j → j < 8 → ((sNet σ 0).1 ((9 + q) * 8 + j) = true ↔ (q < σ 1 ∧ σ 0 ≤ j ∧ j + 1 < 8)) := fun j j0 j1 => by
    rw [show (9 + q) * 8 + j = 72 + 8 * q + j by omega]; exact sNet_p (s := 0) q0 q1 j0 j1
  by_cases hq : q < σ 1
  · have e1 : sTo σ (9 + q) = q := by unfold sTo; rw [if_neg (by omega), if_pos (by omega)]; omega
    have e2 : sFr σ (9 + q) = q := by unfold sFr; rw [if_neg (by omega), if_pos (by omega)]; omega
    have e3 : sTm σ (9 + q) = 1 := by unfold sTm; rw [if_neg (by omega)]
    have hs : sm 8 (fun j => sTerm σ f (p * 8 + w) ((9 + q) * 8 + j)) = sm 8 (fun j => (if (σ 0 ≤ j ∧ j + 1 < 8) ∧ q = p ∧ j = w - 1 then f (72 + q * 8 + j) else 0) - (if (σ 0 ≤ j ∧ j + 1 < 8) ∧ q = p ∧ j = w then f (72 + q * 8 + j) else 0)) := by
      refine sm_congr (fun j j0 j1 => ?_)
      have j8 : j < 8 := by omega
      unfold sTerm
      rw [sNet_to (9 + q) j j0 j8, sNet_fr (9 + q) j j0 j8, e1, e2, e3]
      have hl := hlive j j0 j8
      by_cases hh : σ 0 ≤ j ∧ j + 1 < 8
      · rw [if_pos (hl.mpr ⟨hq, hh⟩), show (9 + q) * 8 + j = 72 + q * 8 + j by omega]
        congr 1
        · by_cases z : q * 8 + j + 1 = p * 8 + w
          · rw [if_pos z, if_pos (by omega)]
          · rw [if_neg z, if_neg (by omega)]
        · by_cases z : q * 8 + j = p * 8 + w
          · rw [if_pos z, if_pos (by omega)]
          · rw [if_neg z, if_neg (by omega)]
      · rw [if_neg (fun h9 => hh (hl.mp h9).2), if_neg (fun h9 => hh h9.1), if_neg (fun h9 => hh h9.1)]; rfl
    rw [hs, sm_sub]
    by_cases hqp : q = p
    · subst hqp
      rw [if_pos rfl]
      congr 1
      · by_cases z : σ 0 < w
        · rw [if_pos z, sm_one (k := w - 1) (by omega) (by omega) (fun i i0 i1 hi => if_neg (fun h9 => hi h9.2.2)), if_pos ⟨by omega, rfl, rfl⟩]
        · rw [if_neg z]
          exact sm_zero (fun i i0 i1 => if_neg (fun h9 => by omega))
      · by_cases z : w + 1 < 8
        · rw [if_pos z, sm_one (k := w) (by omega) (by omega) (fun i i0 i1 hi => if_neg (fun h9 => hi h9.2.2)), if_pos ⟨by omega, rfl, rfl⟩]
        · rw [if_neg z]
          exact sm_zero (fun i i0 i1 => if_neg (fun h9 => by omega))
    · rw [if_neg hqp, sm_zero (fun i i0 i1 => if_neg (fun h9 => hqp h9.2.1)), sm_zero (fun i i0 i1 => if_neg (fun h9 => hqp h9.2.1))]; rfl
  · rw [if_neg (by omega)]
    exact sm_zero (fun j j0 j1 => if_neg (fun h9 => hq ((hlive j j0 (by omega)).mp h9).1))
theorem sIn_e (hw : sWf σ) (p0 : 0 ≤ p) (p1 : p < σ 1) (w0 : σ 0 ≤ w) (w1 : w < 8) (hf : ∀ c : Int, 0 ≤ c → c < 72 → (sNet σ 0).1 c = true → f c = sWy σ c) : zIn (sNet σ 0) f (p * 8 + w) = sm (σ 2).toNat (sTi σ p w) - sm (σ 2).toNat (sTo' σ p w) + (if σ 0 < w then f (72 + p * 8 + (w - 1)) else 0) - (if w + 1 < 8 then f (72 + p * 8 + w) else 0) := by
  have hb := hw.1
  have e0 : zIn (sNet σ 0) f (p * 8 + w) = sm 15 (fun c => sm 8 (fun j => sTerm σ f (p * 8 + w) (c * 8 + j))) := by
    show sm (8 * 15) (sTerm σ f (p * 8 + w)) = _
    exact sm_mul _ 15
  rw [e0, sm_split 9 6]
  have e2 : sm 6 (fun i => (fun c => sm 8 (fun j => sTerm σ f (p * 8 + w) (c * 8 + j))) (((9 : Nat) : Int) + i)) = (if σ 0 < w then f (72 + p * 8 + (w - 1)) else 0) - (if w + 1 < 8 then f (72 + p * 8 + w) else 0) := by
    rw [sm_one (k := p) p0 (by omega) (fun i i0 i1 hi => ?_)]
    · have h9 := sCp (f := f) (q := p) hw p0 (by omega) p0 p1 w0 w1
      rw [if_pos rfl] at h9
      exact h9
    · have h9 := sCp (f := f) (q := i) hw i0 (by omega) p0 p1 w0 w1
      rw [if_neg hi] at h9
      exact h9
  have e1 : sm 9 (fun c => sm 8 (fun j => sTerm σ f (p * 8 + w) (c * 8 + j))) = sm (σ 2).toNat (sTi σ p w) - sm (σ 2).toNat (sTo' σ p w) := by
    rw [sm_congr (g := fun c => (if c < σ 2 ∧ σ (17 + 11 * c) = p ∧ σ 0 ≤ w - σ (18 + 11 * c) then f (c * 8 + (w - σ (18 + 11 * c))) else 0) - (if c < σ 2 ∧ σ (16 + 11 * c) = p ∧ w + σ (18 + 11 * c) < 8 then f (c * 8 + w) else 0)) (fun c c0 c1 => sCh hw c0 c1 p0 (by omega) w0 w1)]
    rw [sm_tail (k := (σ 2).toNat) 9 (by omega) (fun i i0 i1 => by rw [if_neg (by omega), if_neg (by omega)]; rfl), sm_sub]
    refine congr (congrArg HSub.hSub ?_) ?_
    · refine sm_congr (fun r r0 r1 => ?_)
      have hr : r < σ 2 := by omega
      have ht := (hw.2.2.1 r r0 (by omega)).1
      unfold sTi
      by_cases q : σ (17 + 11 * r) = p ∧ σ 0 ≤ w - σ (18 + 11 * r)
      · rw [if_pos q, if_pos ⟨hr, q⟩]
        have hl : (sNet σ 0).1 (r * 8 + (w - σ (18 + 11 * r))) = true := by
          rw [show r * 8 + (w - σ (18 + 11 * r)) = 8 * r + (w - σ (18 + 11 * r)) by omega]
          exact (sNet_r (s := 0) hw r0 (by omega) (by omega) (by omega)).mpr ⟨hr, q.2, by omega⟩
        rw [hf _ (by omega) (by omega) hl]
        unfold sSe
        rw [if_neg (by omega), if_pos hl]
      · rw [if_neg q, if_neg (fun h9 => q h9.2)]
    · refine sm_congr (fun r r0 r1 => ?_)
      have hr : r < σ 2 := by omega
      unfold sTo'
      have hlv := sNet_r (s := 0) hw r0 (show r < 9 by omega) (show 0 ≤ w by omega) w1
      rw [show 8 * r + w = r * 8 + w by omega] at hlv
      by_cases q : σ (16 + 11 * r) = p
      · rw [if_pos q]
        unfold sSe
        rw [if_neg (show ¬ w < σ 0 by omega)]
        by_cases q2 : w + σ (18 + 11 * r) < 8
        · have hl := hlv.mpr ⟨hr, w0, q2⟩
          rw [if_pos ⟨hr, q, q2⟩, if_pos hl, hf _ (by omega) (by omega) hl]
        · rw [if_neg (fun h9 => q2 h9.2.2), if_neg (fun h9 => q2 (hlv.mp h9).2.2)]
      · rw [if_neg q, if_neg (fun h9 => q h9.2.1)]
  rw [e1]
  have e3 : ∀ x y : Int, x + (y - 0) = x + y := fun x y => by omega
  rw [e2]
  omega
theorem sDm_e (hw : sWf σ) (p0 : 0 ≤ p) (w0 : σ 0 ≤ w) (w1 : w < 8) : sDm σ (σ 3) (σ 0) (p * 8 + w) = sm (σ 3).toNat (sTa σ p w) := by
  have hb := hw.1
  unfold sDm zD
  refine sm_congr (fun o o0 o1 => ?_)
  have hr := (sRk_ran hw o0 o1).2
  have hp := (hw.2.2.2.2.1 o o0 (by omega)).1
  unfold sTa
  by_cases q : σ (259 + 76 * o) = p
  · rw [if_pos q, sm_one (k := w) (by omega) (by omega) (fun i i0 i1 hi => if_neg (fun h9 => hi ?_)), if_pos ⟨w0, Or.inl (by omega), by show 8 * σ (259 + 76 * o) + w = _; omega⟩]
    have h8 : 8 * σ (259 + 76 * o) + i = p * 8 + w := h9.2.2
    omega
  · rw [if_neg q]
    refine sm_zero (fun i i0 i1 => if_neg (fun h9 => q ?_))
    have h8 : 8 * σ (259 + 76 * o) + i = p * 8 + w := h9.2.2
    omega
theorem sFlow (hw : sWf σ) : ∃ f : Int → Int, zFl (sNet σ 0) f (sDm σ (σ 3) (σ 0)) ∧ ∀ c : Int, 0 ≤ c → c < 72 → (sNet σ 0).1 c = true → f c = sWy σ c := by
  obtain ⟨y, h1, f, h2, h3⟩ := zWay_ex (sFeas_dm hw) (sNet_zWf hw).2.2 128
  have hy : zWay (sNet σ 0) (sDm σ (σ 3) (σ 0)) y := fun a a0 a1 hl => h1 a a0 a1 hl (by unfold zKy; omega)
  exact ⟨f, h2, fun c c0 c1 hc => by rw [h3 c c0 c1 hc (by unfold zKy; omega), sWy_eq hy c0 c1 hc]⟩
theorem sLp_ge (hw : sWf σ) (h2 : zFl (sNet σ 0) f (sDm σ (σ 3) (σ 0))) (h3 : ∀ c : Int, 0 ≤ c → c < 72 → (sNet σ 0).1 c = true → f c = sWy σ c) (p0 : 0 ≤ p) (p1 : p < σ 1) : ∀ (k : Nat), σ 0 + k < 8 → (if σ 0 + k + 1 < 8 then f (72 + p * 8 + (σ 0 + k)) else 0) ≤ sLp σ p (σ 0 + k)
  | 0, hk => by
    have hb := hw.1
    have e := sIn_e hw p0 p1 (Int.le_refl (σ 0)) (by omega) h3
    have hd := sDm_e hw p0 (Int.le_refl (σ 0)) (by omega)
    have hx := h2.2 (p * 8 + σ 0) (by omega) (by omega)
    have hz : zEx (sNet σ 0) f (p * 8 + σ 0) = sSu σ 0 (p * 8 + σ 0) + zIn (sNet σ 0) f (p * 8 + σ 0) := rfl
    rw [show σ 0 + ((0 : Nat) : Int) = σ 0 by omega, sLp_0, sBs_e]
    rw [if_neg (show ¬ σ 0 < σ 0 by omega)] at e
    omega
  | k + 1, hk => by
    have hb := hw.1
    have ih := sLp_ge hw h2 h3 p0 p1 k (by omega)
    rw [if_pos (by omega)] at ih
    have w0 : σ 0 ≤ σ 0 + k + 1 := by omega
    have w1 : σ 0 + k + 1 < 8 := by omega
    have e := sIn_e hw p0 p1 w0 w1 h3
    have hd := sDm_e hw p0 w0 w1
    have hx := h2.2 (p * 8 + (σ 0 + k + 1)) (by omega) (by omega)
    have hz : zEx (sNet σ 0) f (p * 8 + (σ 0 + k + 1)) = sSu σ 0 (p * 8 + (σ 0 + k + 1)) + zIn (sNet σ 0) f (p * 8 + (σ 0 + k + 1)) := rfl
    rw [show σ 0 + ((k + 1 : Nat) : Int) = σ 0 + k + 1 by omega, sLp_s (by omega), sBs_e]
    rw [if_pos (show σ 0 < σ 0 + k + 1 by omega), show σ 0 + k + 1 - 1 = σ 0 + k by omega] at e
    have hcap : f (72 + p * 8 + (σ 0 + k)) ≤ σ (4 + 2 * p) := by
      have hl : (sNet σ 0).1 (72 + p * 8 + (σ 0 + k)) = true := by
        rw [show 72 + p * 8 + (σ 0 + k) = 72 + 8 * p + (σ 0 + k) by omega]
        exact (sNet_p (s := 0) p0 (by omega) (by omega) (by omega)).mpr ⟨p1, by omega, by omega⟩
      have h9 := (h2.1 _ (by omega) (by omega) hl).2
      have e9 : (sNet σ 0).2.2.2.1 (72 + p * 8 + (σ 0 + k)) = σ (4 + 2 * p) := by
        show sRm σ (72 + p * 8 + (σ 0 + k)) = _
        unfold sRm
        rw [if_neg (by omega), show (72 + p * 8 + (σ 0 + k)) / 8 - 9 = p by omega]
      omega
    have hm : f (72 + p * 8 + (σ 0 + k)) ≤ zMn (sLp σ p (σ 0 + k)) (σ (4 + 2 * p)) := by
      unfold zMn
      split <;> omega
    omega
theorem sLp_nn (hw : sWf σ) (p0 : 0 ≤ p) (p1 : p < 6) (w0 : σ 0 ≤ w) (w1 : w < 8) : 0 ≤ sLp σ p w := by
  have hb := hw.1
  by_cases hp : p < σ 1
  · obtain ⟨f, h2, h3⟩ := sFlow hw
    have h := sLp_ge hw h2 h3 p0 hp (w - σ 0).toNat (by omega)
    rw [show σ 0 + (((w - σ 0).toNat : Nat) : Int) = w by omega] at h
    have h9 : 0 ≤ (if w + 1 < 8 then f (72 + p * 8 + w) else 0) := by
      split
      · rename_i hc
        refine (h2.1 (72 + p * 8 + w) (by omega) (by omega) ?_).1
        rw [show 72 + p * 8 + w = 72 + 8 * p + w by omega]
        exact (sNet_p (s := 0) p0 (by omega) (by omega) (by omega)).mpr ⟨hp, w0, hc⟩
      · exact Int.le_refl 0
    omega
  · have hz : ∀ w : Int, σ 0 ≤ w → w < 8 → sBs σ p w = 0 := fun w q0 q1 => by
      rw [sBs_e]
      have e1 : sSu σ 0 (p * 8 + w) = 0 := by unfold sSu; rw [if_pos (by omega)]
      have e2 : sm (σ 2).toNat (sTi σ p w) = 0 := sm_zero (fun r r0 r1 => if_neg (fun h9 => by have := (hw.2.2.2.1 r r0 (by omega)).2.1; omega))
      have e3 : sm (σ 2).toNat (sTo' σ p w) = 0 := sm_zero (fun r r0 r1 => if_neg (fun h9 => by have := (hw.2.2.2.1 r r0 (by omega)).1; omega))
      have e4 : sm (σ 3).toNat (sTa σ p w) = 0 := sm_zero (fun r r0 r1 => if_neg (fun h9 => by have := (hw.2.2.2.2.1 r r0 (by omega)).1; omega))
      omega
    have hc := (hw.2.1 p p0 p1).1
    have main : ∀ k : Nat, σ 0 + k < 8 → 0 ≤ sLp σ p (σ 0 + k) := by
      intro k
      induction k with
      | zero => intro hk; rw [show σ 0 + ((0 : Nat) : Int) = σ 0 by omega, sLp_0, hz _ (Int.le_refl _) (by omega)]; exact Int.le_refl 0
      | succ k ih =>
        intro hk
        rw [show σ 0 + ((k + 1 : Nat) : Int) = σ 0 + k + 1 by omega, sLp_s (by omega), hz _ (by omega) (by omega)]
        have := ih (by omega)
        unfold zMn
        split <;> omega
    have := main (w - σ 0).toNat (by omega)
    rw [show σ 0 + (((w - σ 0).toNat : Nat) : Int) = w by omega] at this
    exact this
theorem sSt_bd (hw : sWf σ) (p0 : 0 ≤ p) (p1 : p < 6) (w0 : 0 ≤ w) (w1 : w ≤ 8) : 0 ≤ sSt σ p w ∧ sSt σ p w ≤ 1000 := by
  obtain ⟨g1, g2, g3, -⟩ := hw.2.1 p p0 p1
  have hb := hw.1.1
  unfold sSt
  split
  · exact g3 w w0 (by omega)
  · split
    · exact g2
    · have := sLp_nn hw p0 p1 (w := w - 1) (by omega) (by omega)
      unfold zMn
      split <;> omega
end SN
