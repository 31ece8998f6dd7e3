/-! A basin without plans: a row changed. -/
section YU
variable {I I' : mN} {b : Int} {σ σ' : sT}
def yF0 (I : mN) (b : Int) : Prop := (∀ s : Int, 0 ≤ s → s < 3 → I (b + 4) s = 0) ∧ I b 8 = 0
def yRp (I : mN) (b : Int) (σ : sT) (p : Int) : Prop := I (b + (5 + 4 * p)) 0 = σ (4 + 2 * p) ∧ I (b + (5 + 4 * p) + 1) (σ 0) = σ (5 + 2 * p) ∧ (∀ w : Int, 0 ≤ w → w < σ 0 → w < 8 → I (b + (5 + 4 * p) + 1) w = σ (1299 + 8 * p + w) ∧ I (b + (5 + 4 * p) + 2) w = σ (1347 + 8 * p + w)) ∧ ∀ s w : Int, 0 ≤ s → s < 3 → 0 ≤ w → w < 8 → I (b + (5 + 4 * p) + 3) (s * 8 + w) = σ (115 + 48 * s + 8 * p + w)
def yRr (I : mN) (b : Int) (σ : sT) (r : Int) : Prop := (I (b + (29 + 3 * r)) 0 = σ (16 + 11 * r) ∧ I (b + (29 + 3 * r)) 1 = σ (17 + 11 * r) ∧ I (b + (29 + 3 * r)) 2 = σ (18 + 11 * r)) ∧ (∀ w : Int, 0 ≤ w → w < 8 → I (b + (29 + 3 * r) + 1) w = σ (19 + 11 * r + w)) ∧ ∀ w : Int, 0 ≤ w → w < σ 0 → w < 8 → I (b + (29 + 3 * r) + 2) w = σ (1227 + 8 * r + w)
def yRg (I : mN) (b : Int) (σ : sT) (i : Int) : Prop := (I (b + (56 + 5 * i)) 0 = σ (259 + 76 * i) ∧ I (b + (56 + 5 * i)) 1 = σ (260 + 76 * i) ∧ I (b + (56 + 5 * i)) 2 = σ (261 + 76 * i) ∧ I (b + (56 + 5 * i)) 3 = σ (262 + 76 * i) ∧ I (b + (56 + 5 * i)) 4 = σ (263 + 76 * i) ∧ I (b + (56 + 5 * i)) 5 = σ (264 + 76 * i) ∧ I (b + (56 + 5 * i)) 6 = σ (265 + 76 * i) ∧ I (b + (56 + 5 * i)) 11 = σ (266 + 76 * i)) ∧ (∀ w : Int, 0 ≤ w → w < 8 → I (b + (56 + 5 * i) + 1) w = σ (267 + 76 * i + w)) ∧ (∀ w : Int, 0 ≤ w → w < σ 0 → w < 8 → I (b + (56 + 5 * i) + 2) w = σ (1147 + 8 * i + w)) ∧ (∀ s w : Int, 0 ≤ s → s < 3 → 0 ≤ w → w < σ 0 → w < 8 → I (b + (56 + 5 * i) + 3) (s * 8 + w) = σ (1067 + 8 * i + w)) ∧ ∀ k : Int, 0 ≤ k → k < σ (266 + 76 * i) → I (b + (56 + 5 * i) + 4) k = cTk (σ (275 + 76 * i + k))
theorem yS_mk (hf : yF0 I b) (h0 : I b 0 = σ 0 ∧ I b 1 = σ 1 ∧ I b 2 = σ 2 ∧ I b 3 = σ 3) (hp : ∀ p : Int, 0 ≤ p → p < σ 1 → yRp I b σ p) (hr : ∀ r : Int, 0 ≤ r → r < σ 2 → yRr I b σ r) (hi : ∀ i : Int, 0 ≤ i → i < σ 3 → yRg I b σ i) : yS I b σ :=
  ⟨h0, hp, hr, hi, fun s s0 s1 h => by rw [hf.1 s s0 s1] at h; exact absurd h (by decide), fun h => by rw [hf.2] at h; exact absurd h (by decide)⟩
theorem yRp_k {p : Int} (h : yRp I b σ p) (p0 : 0 ≤ p) (p1 : p < 6) (h00 : 0 ≤ σ 0) (h0 : σ' 0 = σ 0) (hc : ∀ c : Int, (c = 4 + 2 * p ∨ c = 5 + 2 * p ∨ (115 ≤ c ∧ c < 259) ∨ 1299 ≤ c) → σ' c = σ c) (hI : ∀ a : Int, b + (5 + 4 * p) ≤ a → a < b + (5 + 4 * p) + 4 → I' a = I a) : yRp I' b σ' p := by
  obtain ⟨l1, l2, l3, l4⟩ := h
  unfold yRp
  rw [hI _ (by omega) (by omega), hI (b + (5 + 4 * p) + 1) (by omega) (by omega), hI (b + (5 + 4 * p) + 2) (by omega) (by omega), hI (b + (5 + 4 * p) + 3) (by omega) (by omega), h0, hc (4 + 2 * p) (by omega), hc (5 + 2 * p) (by omega)]
  exact ⟨l1, l2, fun w w0 w1 w2 => by rw [hc (1299 + 8 * p + w) (by omega), hc (1347 + 8 * p + w) (by omega)]; exact l3 w w0 w1 w2, fun s w s0 s1 w0 w1 => by rw [hc _ (by omega)]; exact l4 s w s0 s1 w0 w1⟩
theorem yRr_k {r : Int} (h : yRr I b σ r) (r0 : 0 ≤ r) (r1 : r < 9) (h0 : σ' 0 = σ 0) (hc : ∀ c : Int, ((16 + 11 * r ≤ c ∧ c < 27 + 11 * r) ∨ (1227 ≤ c ∧ c < 1299)) → σ' c = σ c) (hI : ∀ a : Int, b + (29 + 3 * r) ≤ a → a < b + (29 + 3 * r) + 3 → I' a = I a) : yRr I' b σ' r := by
  obtain ⟨l1, l2, l3⟩ := h
  unfold yRr
  rw [hI _ (by omega) (by omega), hI (b + (29 + 3 * r) + 1) (by omega) (by omega), hI (b + (29 + 3 * r) + 2) (by omega) (by omega), h0, hc (16 + 11 * r) (by omega), hc (17 + 11 * r) (by omega), hc (18 + 11 * r) (by omega)]
  exact ⟨l1, fun w w0 w1 => by rw [hc _ (by omega)]; exact l2 w w0 w1, fun w w0 w1 w2 => by rw [hc _ (by omega)]; exact l3 w w0 w1 w2⟩
theorem yRg_k {i : Int} (h : yRg I b σ i) (i0 : 0 ≤ i) (i1 : i < 10) (h0 : σ' 0 = σ 0) (ht : σ (266 + 76 * i) ≤ 60) (hc : ∀ c : Int, ((259 + 76 * i ≤ c ∧ c < 335 + 76 * i) ∨ (1067 ≤ c ∧ c < 1227)) → σ' c = σ c) (hI : ∀ a : Int, b + (56 + 5 * i) ≤ a → a < b + (56 + 5 * i) + 5 → I' a = I a) : yRg I' b σ' i := by
  obtain ⟨l1, l2, l3, l4, l5⟩ := h
  unfold yRg
  rw [hI _ (by omega) (by omega), hI (b + (56 + 5 * i) + 1) (by omega) (by omega), hI (b + (56 + 5 * i) + 2) (by omega) (by omega), hI (b + (56 + 5 * i) + 3) (by omega) (by omega), hI (b + (56 + 5 * i) + 4) (by omega) (by omega), h0, hc (259 + 76 * i) (by omega), hc (260 + 76 * i) (by omega), hc (261 + 76 * i) (by omega), hc (262 + 76 * i) (by omega), hc (263 + 76 * i) (by omega), hc (264 + 76 * i) (by omega), hc (265 + 76 * i) (by omega), hc (266 + 76 * i) (by omega)]
  exact ⟨l1, fun w w0 w1 => by rw [hc _ (by omega)]; exact l2 w w0 w1, fun w w0 w1 w2 => by rw [hc _ (by omega)]; exact l3 w w0 w1 w2, fun s w s0 s1 w0 w1 w2 => by rw [hc _ (by omega)]; exact l4 s w s0 s1 w0 w1 w2, fun k k0 k1 => by rw [hc _ (by omega)]; exact l5 k k0 k1⟩
theorem sWf_t (hw : sWf σ) {i : Int} (i0 : 0 ≤ i) (i1 : i < σ 3) : σ (266 + 76 * i) ≤ 60 := (hw.2.2.2.2.1 i i0 i1).2.2.2.2.2.2.2.1.2
def oOp (I : mN) (b : Int) : Prop := ∀ p : Int, 0 ≤ p → p < 6 → (0 ≤ I (b + (5 + 4 * p)) 0 ∧ I (b + (5 + 4 * p)) 0 ≤ 1000) ∧ (∀ j : Int, 0 ≤ j → j < 9 → 0 ≤ I (b + (5 + 4 * p) + 1) j ∧ I (b + (5 + 4 * p) + 1) j ≤ 1000) ∧ ∀ j : Int, 0 ≤ j → j < 24 → 0 ≤ I (b + (5 + 4 * p) + 3) j ∧ I (b + (5 + 4 * p) + 3) j ≤ 1000
def oOr (I : mN) (b : Int) : Prop := ∀ r : Int, 0 ≤ r → r < 9 → (0 ≤ I (b + (29 + 3 * r)) 2 ∧ I (b + (29 + 3 * r)) 2 ≤ 2) ∧ ∀ j : Int, 0 ≤ j → j < 8 → (0 ≤ I (b + (29 + 3 * r) + 1) j ∧ I (b + (29 + 3 * r) + 1) j ≤ 1000) ∧ 0 ≤ I (b + (29 + 3 * r) + 2) j ∧ I (b + (29 + 3 * r) + 2) j ≤ 1000
def oOg (I : mN) (b : Int) : Prop := ∀ r : Int, 0 ≤ r → r < 10 → (0 ≤ I (b + (56 + 5 * r)) 6 ∧ I (b + (56 + 5 * r)) 6 ≤ 1) ∧ (0 ≤ I (b + (56 + 5 * r)) 11 ∧ I (b + (56 + 5 * r)) 11 ≤ 60) ∧ (∀ j : Int, 0 ≤ j → j < 60 → -1000000 ≤ I (b + (56 + 5 * r) + 4) j ∧ I (b + (56 + 5 * r) + 4) j ≤ 1000000) ∧ ∀ j : Int, 0 ≤ j → j < 24 → 0 ≤ I (b + (56 + 5 * r) + 3) j ∧ I (b + (56 + 5 * r) + 3) j ≤ 1000
/-- the bounds of a basin that holds a state: what the state does not say -/
theorem yOk_mk (hw : sWf σ) (hs : yS I b σ) (hf : yF0 I b) (hp : oOp I b) (hr : oOr I b) (hg : oOg I b) : yOk I b := by
  obtain ⟨e0, e1, e2, e3⟩ := hs.1
  have hb := hw.1
  refine ⟨⟨by rw [e0, e1, e2, e3]; exact hb, hp, hr, fun r r0 r1 => ?_⟩, hg, fun r r0 r1 => ?_, fun s s0 s1 => Or.inl (hf.1 s s0 s1), Or.inl hf.2⟩
  · rw [e2] at r1
    obtain ⟨⟨l1, l2, l3⟩, -⟩ := hs.2.2.1 r r0 r1
    rw [l1, l2, e1]; exact hw.2.2.2.1 r r0 r1
  · rw [e3] at r1
    rw [(hs.2.2.2.1 r r0 r1).1.1, e1]; exact (sWf_I hw r0 r1).1
theorem oOp_k (h : oOp I b) {p : Int} (hI : ∀ a : Int, b + 5 ≤ a → a < b + 29 → (a < b + (5 + 4 * p) ∨ b + (5 + 4 * p) + 4 ≤ a) → I' a = I a) (hp : 0 ≤ p → p < 6 → (0 ≤ I' (b + (5 + 4 * p)) 0 ∧ I' (b + (5 + 4 * p)) 0 ≤ 1000) ∧ (∀ j : Int, 0 ≤ j → j < 9 → 0 ≤ I' (b + (5 + 4 * p) + 1) j ∧ I' (b + (5 + 4 * p) + 1) j ≤ 1000) ∧ ∀ j : Int, 0 ≤ j → j < 24 → 0 ≤ I' (b + (5 + 4 * p) + 3) j ∧ I' (b + (5 + 4 * p) + 3) j ≤ 1000) : oOp I' b := fun q q0 q1 => by
  by_cases c : q = p
  · subst c; exact hp q0 q1
  · rw [hI _ (by omega) (by omega) (by omega), hI (b + (5 + 4 * q) + 1) (by omega) (by omega) (by omega), hI (b + (5 + 4 * q) + 3) (by omega) (by omega) (by omega)]; exact h q q0 q1
theorem oOr_k (h : oOr I b) {r : Int} (hI : ∀ a : Int, b + 29 ≤ a → a < b + 56 → (a < b + (29 + 3 * r) ∨ b + (29 + 3 * r) + 3 ≤ a) → I' a = I a) (hr : 0 ≤ r → r < 9 → (0 ≤ I' (b + (29 + 3 * r)) 2 ∧ I' (b + (29 + 3 * r)) 2 ≤ 2) ∧ ∀ j : Int, 0 ≤ j → j < 8 → (0 ≤ I' (b + (29 + 3 * r) + 1) j ∧ I' (b + (29 + 3 * r) + 1) j ≤ 1000) ∧ 0 ≤ I' (b + (29 + 3 * r) + 2) j ∧ I' (b + (29 + 3 * r) + 2) j ≤ 1000) : oOr I' b := fun q q0 q1 => by
  by_cases c : q = r
  · subst c; exact hr q0 q1
  · rw [hI _ (by omega) (by omega) (by omega), hI (b + (29 + 3 * q) + 1) (by omega) (by omega) (by omega), hI (b + (29 + 3 * q) + 2) (by omega) (by omega) (by omega)]; exact h q q0 q1
theorem oOg_k (h : oOg I b) {i : Int} (hI : ∀ a : Int, b + 56 ≤ a → a < b + 106 → (a < b + (56 + 5 * i) ∨ b + (56 + 5 * i) + 5 ≤ a) → I' a = I a) (hr : 0 ≤ i → i < 10 → (0 ≤ I' (b + (56 + 5 * i)) 6 ∧ I' (b + (56 + 5 * i)) 6 ≤ 1) ∧ (0 ≤ I' (b + (56 + 5 * i)) 11 ∧ I' (b + (56 + 5 * i)) 11 ≤ 60) ∧ (∀ j : Int, 0 ≤ j → j < 60 → -1000000 ≤ I' (b + (56 + 5 * i) + 4) j ∧ I' (b + (56 + 5 * i) + 4) j ≤ 1000000) ∧ ∀ j : Int, 0 ≤ j → j < 24 → 0 ≤ I' (b + (56 + 5 * i) + 3) j ∧ I' (b + (56 + 5 * i) + 3) j ≤ 1000) : oOg I' b := fun q q0 q1 => by
  by_cases c : q = i
  · subst c; exact hr q0 q1
  · rw [hI _ (by omega) (by omega) (by omega), hI (b + (56 + 5 * q) + 3) (by omega) (by omega) (by omega), hI (b + (56 + 5 * q) + 4) (by omega) (by omega) (by omega)]; exact h q q0 q1
theorem yF0_k (h : yF0 I b) (h4 : I' (b + 4) = I (b + 4)) (h8 : I' b 8 = I b 8) : yF0 I' b := ⟨fun s s0 s1 => by rw [h4]; exact h.1 s s0 s1, h8.trans h.2⟩
/-- a right's row changed -/
theorem yS_g {i : Int} (hw : sWf σ) (hw' : sWf σ') (hs : yS I b σ) (ho : yOk I b) (hf : yF0 I b) (i0 : 0 ≤ i) (i1 : i < σ 3) (hI : ∀ a : Int, (a < b + (56 + 5 * i) ∨ b + (56 + 5 * i) + 5 ≤ a) → I' a = I a) (hc : ∀ c : Int, (c < 259 + 76 * i ∨ 335 + 76 * i ≤ c) → σ' c = σ c) (hrow : yRg I' b σ' i) (hbd : (0 ≤ I' (b + (56 + 5 * i)) 6 ∧ I' (b + (56 + 5 * i)) 6 ≤ 1) ∧ (0 ≤ I' (b + (56 + 5 * i)) 11 ∧ I' (b + (56 + 5 * i)) 11 ≤ 60) ∧ (∀ j : Int, 0 ≤ j → j < 60 → -1000000 ≤ I' (b + (56 + 5 * i) + 4) j ∧ I' (b + (56 + 5 * i) + 4) j ≤ 1000000) ∧ ∀ j : Int, 0 ≤ j → j < 24 → 0 ≤ I' (b + (56 + 5 * i) + 3) j ∧ I' (b + (56 + 5 * i) + 3) j ≤ 1000) : yS I' b σ' ∧ yOk I' b := by
  have hb := hw.1
  have e0 : σ' 0 = σ 0 := hc 0 (by omega)
  have e1 : σ' 1 = σ 1 := hc 1 (by omega)
  have e2 : σ' 2 = σ 2 := hc 2 (by omega)
  have e3 : σ' 3 = σ 3 := hc 3 (by omega)
  have hf' := yF0_k (I' := I') hf (hI _ (by omega)) (by rw [hI b (by omega)])
  have hs' : yS I' b σ' := yS_mk hf' (by rw [hI b (by omega), e0, e1, e2, e3]; exact hs.1) (fun p p0 p1 => by rw [e1] at p1; exact yRp_k (hs.2.1 p p0 p1) p0 (by omega) (by omega) e0 (fun c h => hc c (by omega)) (fun a a0 a1 => hI a (by omega))) (fun r r0 r1 => by rw [e2] at r1; exact yRr_k (hs.2.2.1 r r0 r1) r0 (by omega) e0 (fun c h => hc c (by omega)) (fun a a0 a1 => hI a (by omega))) (fun j j0 j1 => by
    rw [e3] at j1
    by_cases c : j = i
    · rw [c]; exact hrow
    · exact yRg_k (hs.2.2.2.1 j j0 j1) j0 (by omega) e0 (sWf_t hw j0 j1) (fun c h => hc c (by omega)) (fun a a0 a1 => hI a (by omega)))
  exact ⟨hs', yOk_mk hw' hs' hf' (oOp_k (p := -1) ho.1.2.1 (fun a a0 a1 _ => hI a (by omega)) (fun h => by omega)) (oOr_k (r := -1) ho.1.2.2.1 (fun a a0 a1 _ => hI a (by omega)) (fun h => by omega)) (oOg_k (i := i) ho.2.1 (fun a a0 a1 h => hI a h) (fun _ _ => hbd))⟩
/-- a reach's row changed -/
theorem yS_e {r : Int} (hw : sWf σ) (hw' : sWf σ') (hs : yS I b σ) (ho : yOk I b) (hf : yF0 I b) (r0 : 0 ≤ r) (r1 : r < σ 2) (hI : ∀ a : Int, (a < b + (29 + 3 * r) ∨ b + (29 + 3 * r) + 3 ≤ a) → I' a = I a) (hc : ∀ c : Int, (c < 16 + 11 * r ∨ 27 + 11 * r ≤ c) → σ' c = σ c) (hrow : yRr I' b σ' r) (hbd : (0 ≤ I' (b + (29 + 3 * r)) 2 ∧ I' (b + (29 + 3 * r)) 2 ≤ 2) ∧ ∀ j : Int, 0 ≤ j → j < 8 → (0 ≤ I' (b + (29 + 3 * r) + 1) j ∧ I' (b + (29 + 3 * r) + 1) j ≤ 1000) ∧ 0 ≤ I' (b + (29 + 3 * r) + 2) j ∧ I' (b + (29 + 3 * r) + 2) j ≤ 1000) : yS I' b σ' ∧ yOk I' b := by
  have hb := hw.1
  have e0 : σ' 0 = σ 0 := hc 0 (by omega)
  have e1 : σ' 1 = σ 1 := hc 1 (by omega)
  have e2 : σ' 2 = σ 2 := hc 2 (by omega)
  have e3 : σ' 3 = σ 3 := hc 3 (by omega)
  have hf' := yF0_k (I' := I') hf (hI _ (by omega)) (by rw [hI b (by omega)])
  have hs' : yS I' b σ' := yS_mk hf' (by rw [hI b (by omega), e0, e1, e2, e3]; exact hs.1) (fun p p0 p1 => by rw [e1] at p1; exact yRp_k (hs.2.1 p p0 p1) p0 (by omega) (by omega) e0 (fun c h => hc c (by omega)) (fun a a0 a1 => hI a (by omega))) (fun q q0 q1 => by
    rw [e2] at q1
    by_cases c : q = r
    · rw [c]; exact hrow
    · exact yRr_k (hs.2.2.1 q q0 q1) q0 (by omega) e0 (fun c h => hc c (by omega)) (fun a a0 a1 => hI a (by omega))) (fun j j0 j1 => by rw [e3] at j1; exact yRg_k (hs.2.2.2.1 j j0 j1) j0 (by omega) e0 (sWf_t hw j0 j1) (fun c h => hc c (by omega)) (fun a a0 a1 => hI a (by omega)))
  exact ⟨hs', yOk_mk hw' hs' hf' (oOp_k (p := -1) ho.1.2.1 (fun a a0 a1 _ => hI a (by omega)) (fun h => by omega)) (oOr_k (r := r) ho.1.2.2.1 (fun a a0 a1 h => hI a h) (fun _ _ => hbd)) (oOg_k (i := -1) ho.2.1 (fun a a0 a1 h => hI a (by omega)) (fun h => by omega))⟩
/-- a place's row changed -/
theorem yS_p {p : Int} (hw : sWf σ) (hw' : sWf σ') (hs : yS I b σ) (ho : yOk I b) (hf : yF0 I b) (p0 : 0 ≤ p) (p1 : p < σ 1) (hI : ∀ a : Int, (a < b + (5 + 4 * p) ∨ b + (5 + 4 * p) + 4 ≤ a) → I' a = I a) (hc : ∀ c : Int, c ≠ 4 + 2 * p → c ≠ 5 + 2 * p → (∀ s w : Int, 0 ≤ s → s < 3 → 0 ≤ w → w < 8 → c ≠ 115 + 48 * s + 8 * p + w) → σ' c = σ c) (hrow : yRp I' b σ' p) (hbd : (0 ≤ I' (b + (5 + 4 * p)) 0 ∧ I' (b + (5 + 4 * p)) 0 ≤ 1000) ∧ (∀ j : Int, 0 ≤ j → j < 9 → 0 ≤ I' (b + (5 + 4 * p) + 1) j ∧ I' (b + (5 + 4 * p) + 1) j ≤ 1000) ∧ ∀ j : Int, 0 ≤ j → j < 24 → 0 ≤ I' (b + (5 + 4 * p) + 3) j ∧ I' (b + (5 + 4 * p) + 3) j ≤ 1000) : yS I' b σ' ∧ yOk I' b := by
  have hb := hw.1
  have e0 : σ' 0 = σ 0 := hc 0 (by omega) (by omega) (fun s w _ _ _ _ => by omega)
  have e1 : σ' 1 = σ 1 := hc 1 (by omega) (by omega) (fun s w _ _ _ _ => by omega)
  have e2 : σ' 2 = σ 2 := hc 2 (by omega) (by omega) (fun s w _ _ _ _ => by omega)
  have e3 : σ' 3 = σ 3 := hc 3 (by omega) (by omega) (fun s w _ _ _ _ => by omega)
  have hf' := yF0_k (I' := I') hf (hI _ (by omega)) (by rw [hI b (by omega)])
  have hs' : yS I' b σ' := yS_mk hf' (by rw [hI b (by omega), e0, e1, e2, e3]; exact hs.1) (fun q q0 q1 => by
    rw [e1] at q1
    by_cases c : q = p
    · rw [c]; exact hrow
    · obtain ⟨l1, l2, l3, l4⟩ := hs.2.1 q q0 q1
      unfold yRp
      rw [hI _ (by omega), hI (b + (5 + 4 * q) + 1) (by omega), hI (b + (5 + 4 * q) + 2) (by omega), hI (b + (5 + 4 * q) + 3) (by omega), e0, hc (4 + 2 * q) (by omega) (by omega) (fun s w _ _ _ _ => by omega), hc (5 + 2 * q) (by omega) (by omega) (fun s w _ _ _ _ => by omega)]
      exact ⟨l1, l2, fun w w0 w1 w2 => by rw [hc (1299 + 8 * q + w) (by omega) (by omega) (fun s w _ _ _ _ => by omega), hc (1347 + 8 * q + w) (by omega) (by omega) (fun s w _ _ _ _ => by omega)]; exact l3 w w0 w1 w2, fun s w s0 s1 w0 w1 => by
        rw [hc (115 + 48 * s + 8 * q + w) (by omega) (by omega) (fun s' w' _ _ _ _ => by
          by_cases h : s' < s
          · omega
          · by_cases h2 : s < s'
            · omega
            · obtain rfl : s' = s := by omega
              by_cases h3 : q < p <;> omega)]
        exact l4 s w s0 s1 w0 w1⟩) (fun q q0 q1 => by rw [e2] at q1; exact yRr_k (hs.2.2.1 q q0 q1) q0 (by omega) e0 (fun c h => hc c (by omega) (by omega) (fun s w _ _ _ _ => by omega)) (fun a a0 a1 => hI a (by omega))) (fun j j0 j1 => by rw [e3] at j1; exact yRg_k (hs.2.2.2.1 j j0 j1) j0 (by omega) e0 (sWf_t hw j0 j1) (fun c h => hc c (by omega) (by omega) (fun s w _ _ _ _ => by omega)) (fun a a0 a1 => hI a (by omega)))
  exact ⟨hs', yOk_mk hw' hs' hf' (oOp_k (p := p) ho.1.2.1 (fun a a0 a1 h => hI a h) (fun _ _ => hbd)) (oOr_k (r := -1) ho.1.2.2.1 (fun a a0 a1 h => hI a (by omega)) (fun h => by omega)) (oOg_k (i := -1) ho.2.1 (fun a a0 a1 h => hI a (by omega)) (fun h => by omega))⟩
end YU
