/-! A closed set holds an amount down: the water into it is what is taken in it. -/
theorem zS_D {n : Nat} {td : Int} {rk pl : Int → Int} {am : Int → Int → Int} {k w : Int} {χ : Int → Bool} (hpl : ∀ o : Int, 0 ≤ o → o < n → 0 ≤ pl o ∧ pl o < 6) : zS χ (zD n td rk pl am k w) = sm n (fun o => sm 8 (fun t => if td ≤ t ∧ (rk o < k ∨ (rk o = k ∧ t < w)) ∧ χ (8 * pl o + t) = true then am o t else 0)) := by
  have e1 : zS χ (zD n td rk pl am k w) = sm 48 (fun v => sm n (fun o => sm 8 (fun t => if χ v = true then (if td ≤ t ∧ (rk o < k ∨ (rk o = k ∧ t < w)) ∧ 8 * pl o + t = v then am o t else 0) else 0))) := by
    unfold zS zD
    refine sm_congr (fun v _ _ => ?_)
    by_cases h : χ v = true
    · rw [if_pos h]
      exact sm_congr (fun o _ _ => sm_congr (fun t _ _ => by rw [if_pos h]))
    · rw [if_neg h]
      exact (sm_zero (fun o _ _ => sm_zero (fun t _ _ => by rw [if_neg h]))).symm
  rw [e1, sm_swap 48 n (fun o v => sm 8 (fun t => if χ v = true then (if td ≤ t ∧ (rk o < k ∨ (rk o = k ∧ t < w)) ∧ 8 * pl o + t = v then am o t else 0) else 0))]
  refine sm_congr (fun o o0 o1 => ?_)
  rw [sm_swap 48 8 (fun t v => if χ v = true then (if td ≤ t ∧ (rk o < k ∨ (rk o = k ∧ t < w)) ∧ 8 * pl o + t = v then am o t else 0) else 0)]
  refine sm_congr (fun t t0 t1 => ?_)
  obtain ⟨p0, p1⟩ := hpl o o0 o1
  rw [sm_one (k := 8 * pl o + t) (by omega) (by omega) (fun v v0 v1 hv => ?_)]
  · by_cases hc : td ≤ t ∧ (rk o < k ∨ (rk o = k ∧ t < w)) ∧ χ (8 * pl o + t) = true
    · rw [if_pos hc, if_pos hc.2.2, if_pos ⟨hc.1, hc.2.1, rfl⟩]
    · rw [if_neg hc]
      by_cases hχ : χ (8 * pl o + t) = true
      · rw [if_pos hχ, if_neg (fun h9 => hc ⟨h9.1, h9.2.1, hχ⟩)]
      · rw [if_neg hχ]
  · by_cases hχ : χ v = true
    · rw [if_pos hχ, if_neg (fun h9 => hv h9.2.2.symm)]
    · rw [if_neg hχ]
theorem zInto {td : Int} {fr to tm rm su f st sp Dm A : Int → Int} {χ : Int → Bool} (hw : nWf td fr to tm) (hr : ∀ a : Int, 0 ≤ a → a < 120 → 0 ≤ rm a) (hs : ∀ a : Int, 0 ≤ a → a < 120 → st a = 0) (hsp : nSp (zN td fr to tm rm su) f sp Dm) (hcl : nClo (zN td fr to tm rm su) f st sp χ) (hA : ∀ v : Int, 0 ≤ v → v < 48 → (χ v = true ↔ A v ≠ 0)) :
    sm 48 (zWs su A) + sm 15 (zWt td fr to tm rm A) = zS χ Dm := by
  have hwf := nWf_zWf (su := su) hw hr
  have h1 : zS χ Dm = zS χ (zEx (zN td fr to tm rm su) f) := by
    refine sm_congr (fun v v0 v1 => ?_)
    by_cases h : χ v = true
    · rw [if_pos h, if_pos h]
      have h9 := hcl.1 v v0 v1 h
      obtain ⟨g1, g2, -⟩ := hsp v v0 v1
      omega
    · rw [if_neg h, if_neg h]
  rw [h1, zS_ex hwf]
  have h2 : sm 48 (zWs su A) = zS χ (zN td fr to tm rm su).2.2.2.2 := by
    refine sm_congr (fun v v0 v1 => ?_)
    show (if A v = 0 then 0 else su v) = if χ v = true then su v else 0
    by_cases h : χ v = true
    · rw [if_pos h, if_neg ((hA v v0 v1).mp h)]
    · rw [if_neg h]
      by_cases h9 : A v = 0
      · rw [if_pos h9]
      · exact absurd ((hA v v0 v1).mpr h9) h
  have h3 : sm 15 (zWt td fr to tm rm A) = sm 120 (fun a => if (zN td fr to tm rm su).1 a = true then (if χ ((zN td fr to tm rm su).2.2.1 a) = true then f a else 0) - (if χ ((zN td fr to tm rm su).2.1 a) = true then f a else 0) else 0) := by
    rw [show (120 : Nat) = 8 * 15 from rfl, sm_mul]
    refine sm_congr (fun c c0 c1 => sm_congr (fun w w0 w1 => ?_))
    have a0 : 0 ≤ c * 8 + w := by omega
    have a1 : c * 8 + w < 120 := by omega
    have ec : (c * 8 + w) / 8 = c := by omega
    have ew : (c * 8 + w) % 8 = w := by omega
    have eh : (zN td fr to tm rm su).2.2.1 (c * 8 + w) = to c * 8 + w + tm c := by show to ((c * 8 + w) / 8) * 8 + (c * 8 + w) % 8 + tm ((c * 8 + w) / 8) = _; rw [ec, ew]
    have et : (zN td fr to tm rm su).2.1 (c * 8 + w) = fr c * 8 + w := by show fr ((c * 8 + w) / 8) * 8 + (c * 8 + w) % 8 = _; rw [ec, ew]
    show zWr td fr to tm rm A c w = _
    unfold zWr
    by_cases hl : (zN td fr to tm rm su).1 (c * 8 + w) = true
    · have hl2 := hl
      rw [zN_lv, ec, ew] at hl2
      obtain ⟨l1, l2, l3⟩ := hl2
      obtain ⟨⟨t0, t1⟩, d0, d1⟩ := nWf_ends hw _ a0 a1 hl
      obtain ⟨k1, k2⟩ := hcl.2 _ a0 a1 hl (hs _ a0 a1)
      rw [et] at t0 t1
      rw [eh] at d0 d1
      rw [if_pos hl, eh, et]
      rw [eh, et] at k1 k2
      have i1 := hA _ d0 d1
      have i2 := hA _ t0 t1
      cases hh : χ (to c * 8 + w + tm c) with
      | true =>
        have j1 : A (to c * 8 + w + tm c) ≠ 0 := i1.mp hh
        cases ht : χ (fr c * 8 + w) with
        | true =>
          have j2 : A (fr c * 8 + w) ≠ 0 := i2.mp ht
          rw [if_neg (fun h9 => j2 h9.2.2.2.2), if_pos rfl]; omega
        | false =>
          have j2 : A (fr c * 8 + w) = 0 := Classical.byContradiction (fun h9 => by rw [i2.mpr h9] at ht; cases ht)
          rw [if_pos ⟨l1, l2, l3, j1, j2⟩, if_pos rfl, if_neg (by decide), k1 hh ht]
          show rm (c * 8 + w) = rm (c * 8 + w) - 0
          omega
      | false =>
        have j1 : A (to c * 8 + w + tm c) = 0 := Classical.byContradiction (fun h9 => by rw [i1.mpr h9] at hh; cases hh)
        rw [if_neg (fun h9 => h9.2.2.2.1 j1), if_neg (by decide)]
        cases ht : χ (fr c * 8 + w) with
        | true => rw [if_pos rfl, k2 ht hh]; omega
        | false => rw [if_neg (by decide)]; omega
    · rw [if_neg hl, if_neg (fun h9 => hl (by rw [zN_lv, ec, ew]; exact ⟨h9.1, h9.2.1, h9.2.2.1⟩))]
  rw [h2, h3]
