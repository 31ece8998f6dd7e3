/-! A plan that is found up to a place of the order. -/
def zPl (N : zNet) (n : Nat) (td : Int) (rk pl : Int → Int) (ask am : Int → Int → Int) (k w : Int) : Prop := ∀ o t : Int, 0 ≤ o → o < n → td ≤ t → 0 ≤ t → t < 8 → (rk o < k ∨ (rk o = k ∧ t < w)) → (0 ≤ am o t ∧ am o t ≤ ask o t) ∧ zFeas N (zD n td rk pl am (rk o) (t + 1)) ∧ (am o t < ask o t → ¬ zFeas N (zAt (zD n td rk pl am (rk o) (t + 1)) (8 * pl o + t) 1))
section ZL
variable {N : zNet} {n : Nat} {td : Int} {rk pl : Int → Int} {ask am am' : Int → Int → Int} {k w : Int}
theorem zPl_congr (h : zPl N n td rk pl ask am k w) (he : ∀ o t : Int, 0 ≤ o → o < n → td ≤ t → 0 ≤ t → t < 8 → (rk o < k ∨ (rk o = k ∧ t < w)) → am o t = am' o t) : zPl N n td rk pl ask am' k w := by
  intro o t o0 o1 t0 t1 t2 hd
  obtain ⟨h1, h2, h3⟩ := h o t o0 o1 t0 t1 t2 hd
  have e1 : zD n td rk pl am' (rk o) (t + 1) = zD n td rk pl am (rk o) (t + 1) := funext (fun v => zD_congr (fun o' t' a0 a1 b0 b1 b2 c => (he o' t' a0 a1 b0 b1 b2 (by omega)).symm) v)
  rw [e1, ← he o t o0 o1 t0 t1 t2 hd]
  exact ⟨h1, h2, h3⟩
theorem zPl_step (h : zPl N n td rk pl ask am k w) (hinj : ∀ o o' : Int, 0 ≤ o → o < n → 0 ≤ o' → o' < n → rk o = rk o' → o = o') {o : Int} (o0 : 0 ≤ o) (o1 : o < n) (ho : rk o = k) (h1 : 0 ≤ am o w ∧ am o w ≤ ask o w) (h2 : zFeas N (zD n td rk pl am k (w + 1))) (h3 : am o w < ask o w → ¬ zFeas N (zAt (zD n td rk pl am k (w + 1)) (8 * pl o + w) 1)) : zPl N n td rk pl ask am k (w + 1) := by
  intro o' t a0 a1 t0 t1 t2 hd
  by_cases hc : rk o' < k ∨ (rk o' = k ∧ t < w)
  · exact h o' t a0 a1 t0 t1 t2 hc
  · have e1 : rk o' = k := by omega
    have e2 : t = w := by omega
    have e3 : o' = o := hinj o' o a0 a1 o0 o1 (by omega)
    rw [e3, e2, ho]
    exact ⟨h1, h2, h3⟩
theorem zPl_next (h : zPl N n td rk pl ask am k 8) : zPl N n td rk pl ask am (k + 1) td := by
  intro o t o0 o1 t0 t1 t2 hd
  exact h o t o0 o1 t0 t1 t2 (by omega)
theorem zPl_0 (hr : ∀ o : Int, 0 ≤ o → o < n → 0 ≤ rk o) : zPl N n td rk pl ask am 0 td := by
  intro o t o0 o1 t0 t1 t2 hd
  have := hr o o0 o1
  omega
theorem zPl_all (h : zPl N n td rk pl ask am k td) (hr : ∀ o : Int, 0 ≤ o → o < n → rk o < k) : zPlan N n td rk pl ask am := fun o t o0 o1 t0 t1 t2 => h o t o0 o1 t0 t1 t2 (Or.inl (hr o o0 o1))
end ZL
/-! Networks that agree. -/
def zAg (N N' : zNet) : Prop := (∀ a : Int, 0 ≤ a → a < 120 → N.1 a = N'.1 a ∧ (N.1 a = true → N.2.1 a = N'.2.1 a ∧ N.2.2.1 a = N'.2.2.1 a ∧ N.2.2.2.1 a = N'.2.2.2.1 a)) ∧ ∀ v : Int, 0 ≤ v → v < 48 → N.2.2.2.2 v = N'.2.2.2.2 v
theorem zAg_symm {N N' : zNet} (h : zAg N N') : zAg N' N := ⟨fun a a0 a1 => ⟨(h.1 a a0 a1).1.symm, fun hl => by
  obtain ⟨h1, h2⟩ := h.1 a a0 a1
  obtain ⟨g1, g2, g3⟩ := h2 (h1.trans hl)
  exact ⟨g1.symm, g2.symm, g3.symm⟩⟩, fun v v0 v1 => (h.2 v v0 v1).symm⟩
theorem zAg_ex {N N' : zNet} (h : zAg N N') {f : Int → Int} {v : Int} (v0 : 0 ≤ v) (v1 : v < 48) : zEx N f v = zEx N' f v := by
  unfold zEx zIn
  rw [h.2 v v0 v1]
  refine congrArg _ (sm_congr (fun a a0 a1 => ?_))
  obtain ⟨h1, h2⟩ := h.1 a a0 a1
  by_cases hl : N.1 a = true
  · obtain ⟨g1, g2, -⟩ := h2 hl
    rw [if_pos hl, if_pos (show N'.1 a = true from h1.symm.trans hl), g1, g2]
  · rw [if_neg hl, if_neg (fun h9 => hl (h1.trans h9))]
theorem zAg_feas {N N' : zNet} (h : zAg N N') {D : Int → Int} (hf : zFeas N D) : zFeas N' D := by
  obtain ⟨f, hc, hx⟩ := hf
  refine ⟨f, fun a a0 a1 hl => ?_, fun v v0 v1 => by rw [← zAg_ex h v0 v1]; exact hx v v0 v1⟩
  obtain ⟨h1, h2⟩ := h.1 a a0 a1
  have hl2 : N.1 a = true := h1.trans hl
  have := hc a a0 a1 hl2
  rw [(h2 hl2).2.2] at this
  exact this
theorem zAg_plan {N N' : zNet} (h : zAg N N') {n : Nat} {td : Int} {rk pl : Int → Int} {ask am : Int → Int → Int} (hp : zPlan N n td rk pl ask am) : zPlan N' n td rk pl ask am := fun o t o0 o1 t0 t1 t2 => by
  obtain ⟨h1, h2, h3⟩ := hp o t o0 o1 t0 t1 t2
  exact ⟨h1, zAg_feas h h2, fun h9 h8 => h3 h9 (zAg_feas (zAg_symm h) h8)⟩
/-- closed sets: only the nodes themselves count -/
theorem nClo_c {N : zNet} {f st sp : Int → Int} {χ χ' : Int → Bool} (hw : ∀ a : Int, 0 ≤ a → a < 120 → N.1 a = true → (0 ≤ N.2.1 a ∧ N.2.1 a < 48) ∧ 0 ≤ N.2.2.1 a ∧ N.2.2.1 a < 48) (h : nClo N f st sp χ) (he : ∀ v : Int, 0 ≤ v → v < 48 → χ v = χ' v) : nClo N f st sp χ' := by
  refine ⟨fun v v0 v1 hv => h.1 v v0 v1 ((he v v0 v1).trans hv), fun a a0 a1 hl hs => ?_⟩
  obtain ⟨⟨t0, t1⟩, d0, d1⟩ := hw a a0 a1 hl
  obtain ⟨g1, g2⟩ := h.2 a a0 a1 hl hs
  exact ⟨fun h1 h2 => g1 ((he _ d0 d1).trans h1) ((he _ t0 t1).trans h2), fun h1 h2 => g2 ((he _ t0 t1).trans h1) ((he _ d0 d1).trans h2)⟩
theorem nWf_ends {td : Int} {fr to tm rm su : Int → Int} (hw : nWf td fr to tm) (a : Int) (a0 : 0 ≤ a) (a1 : a < 120) (hl : (zN td fr to tm rm su).1 a = true) : (0 ≤ (zN td fr to tm rm su).2.1 a ∧ (zN td fr to tm rm su).2.1 a < 48) ∧ 0 ≤ (zN td fr to tm rm su).2.2.1 a ∧ (zN td fr to tm rm su).2.2.1 a < 48 := by
  rw [zN_lv] at hl
  obtain ⟨h1, h2, h3⟩ := hw.2 (a / 8) (by omega) (by omega)
  have e1 : (zN td fr to tm rm su).2.1 a = fr (a / 8) * 8 + a % 8 := rfl
  have e2 : (zN td fr to tm rm su).2.2.1 a = to (a / 8) * 8 + a % 8 + tm (a / 8) := rfl
  rw [e1, e2]
  rcases h1 with ⟨h1, -⟩ | ⟨h1, h4, -⟩
  · omega
  · omega
/-- a closed set, nothing settled, no spare water: no more at its nodes -/
theorem nClo_full {N : zNet} {f st sp D : Int → Int} {χ : Int → Bool} (hw : zWf N) (h : nClo N f st sp χ) (hs : ∀ a : Int, 0 ≤ a → a < 120 → st a = 0) (hsp : ∀ w : Int, 0 ≤ w → w < 48 → sp w = zEx N f w - D w ∧ 0 ≤ sp w ∧ sp w ≤ 1000000) {v : Int} (v0 : 0 ≤ v) (v1 : v < 48) (hv : χ v = true) : ¬ zFeas N (zAt D v 1) :=
  zFull hw (fun a a0 a1 hl h1 h2 => (h.2 a a0 a1 hl (hs a a0 a1)).1 h1 h2) (fun a a0 a1 hl h1 h2 => (h.2 a a0 a1 hl (hs a a0 a1)).2 h2 h1) (fun u u0 u1 hu => by
    have h9 := h.1 u u0 u1 hu
    obtain ⟨g1, g2, -⟩ := hsp u u0 u1
    omega) v0 v1 hv (by omega)
theorem nWf_zWf {td : Int} {fr to tm rm su : Int → Int} (hw : nWf td fr to tm) (hr : ∀ a : Int, 0 ≤ a → a < 120 → 0 ≤ rm a) : zWf (zN td fr to tm rm su) := fun a a0 a1 hl => by
  obtain ⟨h1, h2⟩ := nWf_ends hw a a0 a1 hl
  exact ⟨h1, h2, hr a a0 a1⟩
