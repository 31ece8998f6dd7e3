/-! What changes make of a state. -/
def sAddP (σ : sT) (c s : Int) : sT := fun k => if k = 1 then σ 1 + 1 else if k = 4 + 2 * σ 1 then c else if k = 5 + 2 * σ 1 then s else σ k
def sAddE (σ : sT) (f t c w : Int) : sT := fun k => if k = 2 then σ 2 + 1 else if k = 16 + 11 * σ 2 then f else if k = 17 + 11 * σ 2 then t else if k = 18 + 11 * σ 2 then w else if 19 + 11 * σ 2 ≤ k ∧ k < 27 + 11 * σ 2 then c else σ k
def sAddI (σ : sT) (p y c rt ls : Int) : sT := fun k => if k = 3 then σ 3 + 1 else if k = 259 + 76 * σ 3 then p else if k = 260 + 76 * σ 3 then y else if k = 261 + 76 * σ 3 then c else if k = 263 + 76 * σ 3 then rt else if k = 264 + 76 * σ 3 then ls else σ k
def sAskR (σ : sT) (i f l v : Int) : sT := fun k => if 267 + 76 * i + f ≤ k ∧ k ≤ 267 + 76 * i + l then v else σ k
def sLs (σ : sT) (i p a f l : Int) : sT := fun k => if 267 + 76 * i + f ≤ k ∧ k ≤ 267 + 76 * i + l then σ k - a else if 267 + 76 * σ 3 + f ≤ k ∧ k ≤ 267 + 76 * σ 3 + l then a else sAddI σ p (σ (260 + 76 * i)) (σ (261 + 76 * i)) (σ (263 + 76 * i)) i k
def sDcr (σ : sT) (i n : Int) (tk : Int → Int) : sT := fun k => if k = 266 + 76 * i then n else if 275 + 76 * i ≤ k ∧ k < 335 + 76 * i then (if k - (275 + 76 * i) < n then tk (k - (275 + 76 * i)) else 0) else σ k
def sGau (σ : sT) (p a : Int) : sT := fun k => if k = 115 + 8 * p + σ 0 ∨ k = 163 + 8 * p + σ 0 ∨ k = 211 + 8 * p + σ 0 then a else σ k
section SL
variable {σ : sT}
theorem zU_Z {c v : Int} (h : sZ σ) (c0 : 0 ≤ c) (c1 : c < 1395) : sZ (zU σ c v) := fun k hk => by rw [zU_ne (by omega)]; exact h k hk
theorem sWf_ask (hw : sWf σ) {i f l v : Int} (i0 : 0 ≤ i) (i1 : i < σ 3) (f0 : 0 ≤ f) (l1 : l < 8) (v0 : 0 ≤ v) (v1 : v ≤ 20) : sWf (sAskR σ i f l v) := by
  have hb := hw.1
  have e : ∀ k : Int, (k < 267 + 76 * i ∨ 275 + 76 * i ≤ k) → sAskR σ i f l v k = σ k := fun k hk => if_neg (by omega)
  refine sWf_r hw (fun c hc => e c (by omega)) (fun r r0 r1 => ?_) (fun r r0 r1 j j0 j1 => ?_)
  · by_cases c : r = i
    · subst c
      obtain ⟨a0, a1, a2, a3, a4, a5, a6, a7, a8, a9, a10⟩ := sWf_I hw r0 r1
      unfold sRi
      rw [e (259 + 76 * r) (by omega), e 1 (by omega), e (260 + 76 * r) (by omega), e (261 + 76 * r) (by omega), e (262 + 76 * r) (by omega), e (263 + 76 * r) (by omega), e (264 + 76 * r) (by omega), e (265 + 76 * r) (by omega), e (266 + 76 * r) (by omega)]
      refine ⟨a0, a1, a2, a3, a4, a5, a6, a7, fun k k0 k1 => by rw [e _ (by omega)]; exact a8 k k0 k1, fun h9 => sDc_cg (fun j j0 j1 j2 => ?_) (a9 h9), fun j j0 j1 => ?_⟩
      · show cTk (σ (275 + 76 * r + j)) = cTk (sAskR σ r f l v (275 + 76 * r + j))
        rw [e _ (by omega)]
      · unfold sAskR
        split
        · exact ⟨v0, v1⟩
        · exact a10 j j0 j1
    · exact sRi_k (sWf_I hw r0 r1) (by rw [e 1 (by omega)]; omega) (fun c c0 c1 => e c (by omega))
  · rw [e _ (by omega)]; exact sWf_Iz hw r0 r1 j j0 j1
theorem sZ_ask (h : sZ σ) {i f l v : Int} (i0 : 0 ≤ i) (i1 : i < 10) (f0 : 0 ≤ f) (l1 : l < 8) : sZ (sAskR σ i f l v) := fun k hk => by
  unfold sAskR
  rw [if_neg (by omega)]; exact h k hk
/-- a cell of a right that is there: its balance, whether it is given up -/
theorem sWf_cell (hw : sWf σ) {i c v : Int} (i0 : 0 ≤ i) (i1 : i < σ 3) (hc : (c = 262 + 76 * i ∧ -1000 ≤ v ∧ v ≤ 1000000) ∨ (c = 265 + 76 * i ∧ 0 ≤ v ∧ v ≤ 1)) : sWf (zU σ c v) := by
  have hb := hw.1
  have e : ∀ k : Int, k ≠ c → zU σ c v k = σ k := fun k hk => zU_ne hk
  refine sWf_r hw (fun k hk => e k (by omega)) (fun r r0 r1 => ?_) (fun r r0 r1 j j0 j1 => ?_)
  · by_cases cc : r = i
    · subst cc
      obtain ⟨a0, a1, a2, a3, a4, a5, a6, a7, a8, a9, a10⟩ := sWf_I hw r0 r1
      unfold sRi
      rw [e (259 + 76 * r) (by omega), e 1 (by omega), e (260 + 76 * r) (by omega), e (261 + 76 * r) (by omega), e (263 + 76 * r) (by omega), e (264 + 76 * r) (by omega), e (266 + 76 * r) (by omega)]
      refine ⟨a0, a1, a2, ?_, a4, a5, ?_, a7, fun k k0 k1 => by rw [e _ (by omega)]; exact a8 k k0 k1, fun h9 => sDc_cg (fun j j0 j1 j2 => ?_) (a9 h9), fun j j0 j1 => by rw [e _ (by omega)]; exact a10 j j0 j1⟩
      · rcases hc with ⟨rfl, h1, h2⟩ | ⟨rfl, h1, h2⟩
        · rw [zU_eq rfl]; exact ⟨h1, h2⟩
        · rw [e _ (by omega)]; exact a3
      · rcases hc with ⟨rfl, h1, h2⟩ | ⟨rfl, h1, h2⟩
        · rw [e _ (by omega)]; exact a6
        · rw [zU_eq rfl]; exact ⟨h1, h2⟩
      · show cTk (σ (275 + 76 * r + j)) = cTk (zU σ c v (275 + 76 * r + j))
        rw [e _ (by omega)]
    · exact sRi_k (sWf_I hw r0 r1) (by rw [e 1 (by omega)]; omega) (fun k c0 c1 => e k (by omega))
  · rw [e _ (by omega)]; exact sWf_Iz hw r0 r1 j j0 j1
theorem sWf_cap (hw : sWf σ) {r w v : Int} (r0 : 0 ≤ r) (r1 : r < σ 2) (w0 : 0 ≤ w) (w1 : w < 8) (v0 : 0 ≤ v) (v1 : v ≤ 51) : sWf (zU σ (19 + 11 * r + w) v) := by
  have hb := hw.1
  have e : ∀ k : Int, k ≠ 19 + 11 * r + w → zU σ (19 + 11 * r + w) v k = σ k := fun k hk => zU_ne hk
  refine sWf_p hw (fun c hc => e c (by omega)) (fun p p0 p1 => ?_) (fun q q0 q1 => ?_) (fun p p0 p1 => ?_) (fun q q0 q1 j j0 j1 => ?_)
  · obtain ⟨c1, c2, c3⟩ := sWf_P hw p0 p1
    exact ⟨by rw [e _ (by omega)]; exact c1, by rw [e _ (by omega)]; exact c2, fun s j s0 s1 j0 j1 => by rw [e _ (by omega)]; exact c3 s j s0 s1 j0 j1⟩
  · refine ⟨⟨e _ (by omega), e _ (by omega), e _ (by omega)⟩, fun j j0 j1 => ?_⟩
    unfold zU
    split
    · exact ⟨v0, v1⟩
    · exact (sWf_R hw q0 q1).2 j j0 j1
  · obtain ⟨c1, c2, c3⟩ := sWf_Pz hw p0 p1
    exact ⟨by rw [e _ (by omega)]; exact c1, by rw [e _ (by omega)]; exact c2, fun s j s0 s1 j0 j1 => by rw [e _ (by omega)]; exact c3 s j s0 s1 j0 j1⟩
  · rw [e _ (by omega)]; exact sWf_Rz hw q0 q1 j j0 j1
/-- cells of places that are there -/
theorem sWf_pl {σ' : sT} (hw : sWf σ) (hc : ∀ c : Int, (c < 5 ∨ (16 ≤ c ∧ c < 115) ∨ 259 ≤ c) → σ' c = σ c) (h4 : ∀ p : Int, 0 ≤ p → p < 6 → σ' (4 + 2 * p) = σ (4 + 2 * p)) (h5 : ∀ p : Int, 0 ≤ p → p < 6 → (0 ≤ σ' (5 + 2 * p) ∧ σ' (5 + 2 * p) ≤ 1000) ∧ (σ 1 ≤ p → σ' (5 + 2 * p) = σ (5 + 2 * p)))
    (hi : ∀ s p j : Int, 0 ≤ s → s < 3 → 0 ≤ p → p < 6 → 0 ≤ j → j < 8 → (0 ≤ σ' (115 + 48 * s + 8 * p + j) ∧ σ' (115 + 48 * s + 8 * p + j) ≤ 40) ∧ (σ 1 ≤ p → σ' (115 + 48 * s + 8 * p + j) = σ (115 + 48 * s + 8 * p + j))) : sWf σ' := by
  have hb := hw.1
  refine sWf_p hw (fun c hh => hc c (by omega)) (fun p p0 p1 => ?_) (fun q q0 q1 => ?_) (fun p p0 p1 => ?_) (fun q q0 q1 j j0 j1 => ?_)
  · exact ⟨by rw [h4 p p0 p1]; exact (sWf_P hw p0 p1).1, (h5 p p0 p1).1, fun s j s0 s1 j0 j1 => (hi s p j s0 s1 p0 p1 j0 j1).1⟩
  · exact ⟨⟨hc _ (by omega), hc _ (by omega), hc _ (by omega)⟩, fun j j0 j1 => by rw [hc _ (by omega)]; exact (sWf_R hw q0 q1).2 j j0 j1⟩
  · obtain ⟨c1, c2, c3⟩ := sWf_Pz hw p0 p1
    exact ⟨by rw [h4 p (by omega) p1]; exact c1, by rw [(h5 p (by omega) p1).2 p0]; exact c2, fun s j s0 s1 j0 j1 => by rw [(hi s p j s0 s1 (by omega) p1 j0 j1).2 p0]; exact c3 s j s0 s1 j0 j1⟩
  · rw [hc _ (by omega)]; exact sWf_Rz hw q0 q1 j j0 j1
theorem sWf_inf (hw : sWf σ) {s p w v : Int} (s0 : 0 ≤ s) (s1 : s < 3) (p0 : 0 ≤ p) (p1 : p < σ 1) (w0 : 0 ≤ w) (w1 : w < 8) (v0 : 0 ≤ v) (v1 : v ≤ 40) : sWf (zU σ (115 + 48 * s + 8 * p + w) v) := by
  have hb := hw.1
  have e : ∀ k : Int, k ≠ 115 + 48 * s + 8 * p + w → zU σ (115 + 48 * s + 8 * p + w) v k = σ k := fun k hk => zU_ne hk
  refine sWf_pl hw (fun c hc => e c (by omega)) (fun q q0 q1 => e _ (by omega)) (fun q q0 q1 => ⟨by rw [e _ (by omega)]; exact (sWf_P hw q0 q1).2.1, fun _ => e _ (by omega)⟩) (fun s' q j a0 a1 q0 q1 j0 j1 => ⟨?_, fun h9 => e _ (by omega)⟩)
  unfold zU
  split
  · exact ⟨v0, v1⟩
  · exact (sWf_P hw q0 q1).2.2 s' j a0 a1 j0 j1
theorem sWf_mea (hw : sWf σ) {p v : Int} (p0 : 0 ≤ p) (p1 : p < σ 1) (v0 : 0 ≤ v) (v1 : v ≤ 1000) : sWf (zU σ (5 + 2 * p) v) := by
  have hb := hw.1
  have e : ∀ k : Int, k ≠ 5 + 2 * p → zU σ (5 + 2 * p) v k = σ k := fun k hk => zU_ne hk
  refine sWf_pl hw (fun c hc => e c (by omega)) (fun q q0 q1 => e _ (by omega)) (fun q q0 q1 => ⟨?_, fun _ => e _ (by omega)⟩) (fun s' q j a0 a1 q0 q1 j0 j1 => ⟨by rw [e _ (by omega)]; exact (sWf_P hw q0 q1).2.2 s' j a0 a1 j0 j1, fun h9 => e _ (by omega)⟩)
  unfold zU
  split
  · exact ⟨v0, v1⟩
  · exact (sWf_P hw q0 q1).2.1
theorem sWf_gau (hw : sWf σ) {p v : Int} (p0 : 0 ≤ p) (p1 : p < σ 1) (h8 : σ 0 < 8) (v0 : 0 ≤ v) (v1 : v ≤ 40) : sWf (sGau σ p v) := by
  have hb := hw.1
  have e : ∀ k : Int, k ≠ 115 + 8 * p + σ 0 → k ≠ 163 + 8 * p + σ 0 → k ≠ 211 + 8 * p + σ 0 → sGau σ p v k = σ k := fun k h1 h2 h3 => if_neg (by omega)
  refine sWf_pl hw (fun c hc => e c (by omega) (by omega) (by omega)) (fun q q0 q1 => e _ (by omega) (by omega) (by omega)) (fun q q0 q1 => ⟨by rw [e _ (by omega) (by omega) (by omega)]; exact (sWf_P hw q0 q1).2.1, fun _ => e _ (by omega) (by omega) (by omega)⟩) (fun s' q j a0 a1 q0 q1 j0 j1 => ⟨?_, fun h9 => ?_⟩)
  · unfold sGau
    split
    · exact ⟨v0, v1⟩
    · exact (sWf_P hw q0 q1).2.2 s' j a0 a1 j0 j1
  · have h9' : s' = 0 ∨ s' = 1 ∨ s' = 2 := by omega
    rcases h9' with rfl | rfl | rfl <;> exact e _ (by omega) (by omega) (by omega)
theorem sZ_gau (h : sZ σ) (hw : sWf σ) {p v : Int} (p0 : 0 ≤ p) (p1 : p < σ 1) (h8 : σ 0 < 8) : sZ (sGau σ p v) := fun k hk => by
  have hb := hw.1
  unfold sGau
  rw [if_neg (by omega)]; exact h k hk
theorem sWf_adp (hw : sWf σ) (h6 : σ 1 < 6) {c s : Int} (c0 : 0 ≤ c) (c1 : c ≤ 60) (s0 : 0 ≤ s) (s1 : s ≤ c) : sWf (sAddP σ c s) := by
  have hb := hw.1
  have e : ∀ k : Int, k ≠ 1 → k ≠ 4 + 2 * σ 1 → k ≠ 5 + 2 * σ 1 → sAddP σ c s k = σ k := fun k h1 h2 h3 => by
    unfold sAddP
    rw [if_neg h1, if_neg h2, if_neg h3]
  have e1 : sAddP σ c s 1 = σ 1 + 1 := if_pos rfl
  have e4 : sAddP σ c s (4 + 2 * σ 1) = c := by
    unfold sAddP
    rw [if_neg (by omega), if_pos rfl]
  have e5 : sAddP σ c s (5 + 2 * σ 1) = s := by
    unfold sAddP
    rw [if_neg (by omega), if_neg (by omega), if_pos rfl]
  have e3 := e 3 (by decide) (by omega) (by omega)
  have e2 := e 2 (by decide) (by omega) (by omega)
  refine sWf_up hw (e 0 (by decide) (by omega) (by omega)) (fun k hk => e k (by omega) (by omega) (by omega)) (by omega) (by omega) (by omega) (fun p p0 p1 => ?_) (fun r r0 r1 => ?_) (fun r r0 r1 => ?_) (fun r r0 r1 => ⟨e _ (by omega) (by omega) (by omega), e _ (by omega) (by omega) (by omega)⟩) (fun i i0 i1 => ?_) (fun p p0 p1 => ?_) (fun r r0 r1 j j0 j1 => ?_) (fun i i0 i1 j j0 j1 => ?_)
  · obtain ⟨q1, q2, q3⟩ := sWf_P hw p0 p1
    by_cases cp : p = σ 1
    · rw [cp, e4, e5]
      exact ⟨⟨c0, c1⟩, by omega, fun s' j a0 a1 j0 j1 => by rw [e _ (by omega) (by omega) (by omega), ← cp]; exact q3 s' j a0 a1 j0 j1⟩
    · exact ⟨by rw [e _ (by omega) (by omega) (by omega)]; exact q1, by rw [e _ (by omega) (by omega) (by omega)]; exact q2, fun s' j a0 a1 j0 j1 => by rw [e _ (by omega) (by omega) (by omega)]; exact q3 s' j a0 a1 j0 j1⟩
  · obtain ⟨q1, q2⟩ := sWf_R hw r0 r1
    exact ⟨by rw [e _ (by omega) (by omega) (by omega)]; exact q1, fun j j0 j1 => by rw [e _ (by omega) (by omega) (by omega)]; exact q2 j j0 j1⟩
  · rw [e2] at r1
    obtain ⟨q1, q2, q3⟩ := hw.2.2.2.1 r r0 r1
    rw [e (16 + 11 * r) (by omega) (by omega) (by omega), e (17 + 11 * r) (by omega) (by omega) (by omega), e1]
    exact ⟨by omega, by omega, q3⟩
  · rw [e3] at i1
    exact sRi_k (sWf_I hw i0 i1) (by omega) (fun k k0 k1 => e k (by omega) (by omega) (by omega))
  · obtain ⟨q1, q2, q3⟩ := sWf_Pz hw (show σ 1 ≤ p by omega) p1
    exact ⟨by rw [e _ (by omega) (by omega) (by omega)]; exact q1, by rw [e _ (by omega) (by omega) (by omega)]; exact q2, fun s' j a0 a1 j0 j1 => by rw [e _ (by omega) (by omega) (by omega)]; exact q3 s' j a0 a1 j0 j1⟩
  · rw [e _ (by omega) (by omega) (by omega)]; exact sWf_Rz hw (by omega) r1 j j0 j1
  · rw [e _ (by omega) (by omega) (by omega)]; exact sWf_Iz hw (by omega) i1 j j0 j1
theorem sZ_adp (h : sZ σ) (hw : sWf σ) (h6 : σ 1 < 6) {c s : Int} : sZ (sAddP σ c s) := fun k hk => by
  have hb := hw.1
  unfold sAddP
  rw [if_neg (by omega), if_neg (by omega), if_neg (by omega)]; exact h k hk
theorem sWf_ade (hw : sWf σ) (h9 : σ 2 < 9) {f t c w : Int} (f0 : 0 ≤ f) (f1 : f < σ 1) (t0 : 0 ≤ t) (t1 : t < σ 1) (hft : f ≠ t) (c0 : 0 ≤ c) (c1 : c ≤ 50) (w0 : 0 ≤ w) (w1 : w ≤ 2) : sWf (sAddE σ f t c w) := by
  have hb := hw.1
  have e : ∀ k : Int, k ≠ 2 → (k < 16 + 11 * σ 2 ∨ 27 + 11 * σ 2 ≤ k) → sAddE σ f t c w k = σ k := fun k h1 h2 => by
    unfold sAddE
    rw [if_neg h1, if_neg (by omega), if_neg (by omega), if_neg (by omega), if_neg (by omega)]
  have e2 : sAddE σ f t c w 2 = σ 2 + 1 := if_pos rfl
  have ef : sAddE σ f t c w (16 + 11 * σ 2) = f := by
    unfold sAddE
    rw [if_neg (by omega), if_pos rfl]
  have et : sAddE σ f t c w (17 + 11 * σ 2) = t := by
    unfold sAddE
    rw [if_neg (by omega), if_neg (by omega), if_pos rfl]
  have ew : sAddE σ f t c w (18 + 11 * σ 2) = w := by
    unfold sAddE
    rw [if_neg (by omega), if_neg (by omega), if_neg (by omega), if_pos rfl]
  have ec : ∀ j : Int, 0 ≤ j → j < 8 → sAddE σ f t c w (19 + 11 * σ 2 + j) = c := fun j j0 j1 => by
    unfold sAddE
    rw [if_neg (by omega), if_neg (by omega), if_neg (by omega), if_neg (by omega), if_pos (by omega)]
  have e3 := e 3 (by decide) (by omega)
  have e1 := e 1 (by decide) (by omega)
  refine sWf_up hw (e 0 (by decide) (by omega)) (fun k hk => e k (by omega) (by omega)) (by omega) (by omega) (by omega) (fun p p0 p1 => ?_) (fun r r0 r1 => ?_) (fun r r0 r1 => ?_) (fun r r0 r1 => ⟨e _ (by omega) (by omega), e _ (by omega) (by omega)⟩) (fun i i0 i1 => ?_) (fun p p0 p1 => ?_) (fun r r0 r1 j j0 j1 => ?_) (fun i i0 i1 j j0 j1 => ?_)
  · obtain ⟨q1, q2, q3⟩ := sWf_P hw p0 p1
    exact ⟨by rw [e _ (by omega) (by omega)]; exact q1, by rw [e _ (by omega) (by omega)]; exact q2, fun s' j a0 a1 j0 j1 => by rw [e _ (by omega) (by omega)]; exact q3 s' j a0 a1 j0 j1⟩
  · obtain ⟨q1, q2⟩ := sWf_R hw r0 r1
    by_cases cr : r = σ 2
    · rw [cr, ew]
      exact ⟨⟨w0, w1⟩, fun j j0 j1 => by rw [ec j j0 j1]; omega⟩
    · exact ⟨by rw [e _ (by omega) (by omega)]; exact q1, fun j j0 j1 => by rw [e _ (by omega) (by omega)]; exact q2 j j0 j1⟩
  · rw [e2] at r1
    rw [e1]
    by_cases cr : r = σ 2
    · rw [cr, ef, et]; exact ⟨⟨f0, f1⟩, ⟨t0, t1⟩, hft⟩
    · rw [e (16 + 11 * r) (by omega) (by omega), e (17 + 11 * r) (by omega) (by omega)]; exact hw.2.2.2.1 r r0 (by omega)
  · rw [e3] at i1
    exact sRi_k (sWf_I hw i0 i1) (by omega) (fun k k0 k1 => e k (by omega) (by omega))
  · obtain ⟨q1, q2, q3⟩ := sWf_Pz hw (show σ 1 ≤ p by omega) p1
    exact ⟨by rw [e _ (by omega) (by omega)]; exact q1, by rw [e _ (by omega) (by omega)]; exact q2, fun s' j a0 a1 j0 j1 => by rw [e _ (by omega) (by omega)]; exact q3 s' j a0 a1 j0 j1⟩
  · rw [e _ (by omega) (by omega)]; exact sWf_Rz hw (by omega) r1 j j0 j1
  · rw [e _ (by omega) (by omega)]; exact sWf_Iz hw (by omega) i1 j j0 j1
theorem sZ_ade (h : sZ σ) (hw : sWf σ) (h9 : σ 2 < 9) {f t c w : Int} : sZ (sAddE σ f t c w) := fun k hk => by
  have hb := hw.1
  unfold sAddE
  rw [if_neg (by omega), if_neg (by omega), if_neg (by omega), if_neg (by omega), if_neg (by omega)]; exact h k hk
theorem sAddI_o {p y c rt ls k : Int} (h : k ≠ 3) (h' : k < 259 + 76 * σ 3 ∨ k = 262 + 76 * σ 3 ∨ 265 + 76 * σ 3 ≤ k) : sAddI σ p y c rt ls k = σ k := by
  unfold sAddI
  rw [if_neg h, if_neg (by omega), if_neg (by omega), if_neg (by omega), if_neg (by omega), if_neg (by omega)]
theorem sAddI_v {p y c rt ls : Int} (h3 : 0 ≤ σ 3) : sAddI σ p y c rt ls 3 = σ 3 + 1 ∧ sAddI σ p y c rt ls (259 + 76 * σ 3) = p ∧ sAddI σ p y c rt ls (260 + 76 * σ 3) = y ∧ sAddI σ p y c rt ls (261 + 76 * σ 3) = c ∧ sAddI σ p y c rt ls (263 + 76 * σ 3) = rt ∧ sAddI σ p y c rt ls (264 + 76 * σ 3) = ls := by
  unfold sAddI
  refine ⟨if_pos rfl, ?_, ?_, ?_, ?_, ?_⟩
  · rw [if_neg (by omega), if_pos rfl]
  · rw [if_neg (by omega), if_neg (by omega), if_pos rfl]
  · rw [if_neg (by omega), if_neg (by omega), if_neg (by omega), if_pos rfl]
  · rw [if_neg (by omega), if_neg (by omega), if_neg (by omega), if_neg (by omega), if_pos rfl]
  · rw [if_neg (by omega), if_neg (by omega), if_neg (by omega), if_neg (by omega), if_neg (by omega), if_pos rfl]
theorem sWf_adi (hw : sWf σ) (h9 : σ 3 < 10) {p y c rt ls : Int} (p0 : 0 ≤ p) (p1 : p < σ 1) (y0 : 1800 ≤ y) (y1 : y ≤ 2099) (c0 : 0 ≤ c) (c1 : c ≤ 9) (rt0 : 0 ≤ rt) (rt1 : rt < 10) (l0 : -1 ≤ ls) (l1 : ls < 10) : sWf (sAddI σ p y c rt ls) := by
  have hb := hw.1
  have e : ∀ k : Int, k ≠ 3 → (k < 259 + 76 * σ 3 ∨ k = 262 + 76 * σ 3 ∨ 265 + 76 * σ 3 ≤ k) → sAddI σ p y c rt ls k = σ k := fun k h1 h2 => sAddI_o h1 h2
  obtain ⟨v3, v0, v1, v2, v4, v5⟩ := sAddI_v (σ := σ) (p := p) (y := y) (c := c) (rt := rt) (ls := ls) hb.2.2.2.1
  have e1 := e 1 (by decide) (by omega)
  have e2 := e 2 (by decide) (by omega)
  have hz := sWf_Iz hw (Int.le_refl (σ 3)) h9
  have hz' : ∀ k : Int, 259 + 76 * σ 3 ≤ k → k < 335 + 76 * σ 3 → σ k = 0 := fun k k0 k1 => by
    have := hz (k - (259 + 76 * σ 3)) (by omega) (by omega)
    rw [show 259 + 76 * σ 3 + (k - (259 + 76 * σ 3)) = k by omega] at this
    exact this
  refine sWf_up hw (e 0 (by decide) (by omega)) (fun k hk => e k (by omega) (by omega)) (by omega) (by omega) (by omega) (fun p p0 p1 => ?_) (fun r r0 r1 => ?_) (fun r r0 r1 => ?_) (fun r r0 r1 => ⟨e _ (by omega) (by omega), e _ (by omega) (by omega)⟩) (fun i i0 i1 => ?_) (fun p p0 p1 => ?_) (fun r r0 r1 j j0 j1 => ?_) (fun i i0 i1 j j0 j1 => ?_)
  · obtain ⟨q1, q2, q3⟩ := sWf_P hw p0 p1
    exact ⟨by rw [e _ (by omega) (by omega)]; exact q1, by rw [e _ (by omega) (by omega)]; exact q2, fun s' j a0 a1 j0 j1 => by rw [e _ (by omega) (by omega)]; exact q3 s' j a0 a1 j0 j1⟩
  · obtain ⟨q1, q2⟩ := sWf_R hw r0 r1
    exact ⟨by rw [e _ (by omega) (by omega)]; exact q1, fun j j0 j1 => by rw [e _ (by omega) (by omega)]; exact q2 j j0 j1⟩
  · rw [e2] at r1
    rw [e1, e (16 + 11 * r) (by omega) (by omega), e (17 + 11 * r) (by omega) (by omega)]; exact hw.2.2.2.1 r r0 (by omega)
  · rw [v3] at i1
    by_cases ci : i = σ 3
    · subst ci
      unfold sRi
      rw [v0, v1, v2, v4, v5, e1, e (262 + 76 * σ 3) (by omega) (by omega), e (265 + 76 * σ 3) (by omega) (by omega), e (266 + 76 * σ 3) (by omega) (by omega), hz' (262 + 76 * σ 3) (by omega) (by omega), hz' (265 + 76 * σ 3) (by omega) (by omega), hz' (266 + 76 * σ 3) (by omega) (by omega)]
      exact ⟨⟨p0, p1⟩, ⟨y0, y1⟩, ⟨c0, c1⟩, by decide, ⟨rt0, rt1⟩, ⟨l0, l1⟩, by decide, by decide, fun k k0 k1 => by rw [e _ (by omega) (by omega), hz' _ (by omega) (by omega)]; decide, fun h9 => absurd rfl h9, fun j j0 j1 => by rw [e _ (by omega) (by omega), hz' _ (by omega) (by omega)]; decide⟩
    · exact sRi_k (sWf_I hw i0 (by omega)) (by omega) (fun k k0 k1 => e k (by omega) (by omega))
  · obtain ⟨q1, q2, q3⟩ := sWf_Pz hw (show σ 1 ≤ p by omega) p1
    exact ⟨by rw [e _ (by omega) (by omega)]; exact q1, by rw [e _ (by omega) (by omega)]; exact q2, fun s' j a0 a1 j0 j1 => by rw [e _ (by omega) (by omega)]; exact q3 s' j a0 a1 j0 j1⟩
  · rw [e _ (by omega) (by omega)]; exact sWf_Rz hw (by omega) r1 j j0 j1
  · rw [e _ (by omega) (by omega)]; exact sWf_Iz hw (by omega) i1 j j0 j1
theorem sZ_adi (h : sZ σ) (hw : sWf σ) (h9 : σ 3 < 10) {p y c rt ls : Int} : sZ (sAddI σ p y c rt ls) := fun k hk => by
  have hb := hw.1
  rw [sAddI_o (by omega) (by omega)]; exact h k hk
/-- a lease -/
theorem sLs_eq (hw : sWf σ) (h9 : σ 3 < 10) {i p a f l : Int} (i0 : 0 ≤ i) (i1 : i < σ 3) (f0 : 0 ≤ f) (l1 : l < 8) : sLs σ i p a f l = fun k => if 267 + 76 * i + f ≤ k ∧ k ≤ 267 + 76 * i + l then σ k - a else sAskR (sAddI σ p (σ (260 + 76 * i)) (σ (261 + 76 * i)) (σ (263 + 76 * i)) i) (σ 3) f l a k := rfl
theorem sWf_ls (hw : sWf σ) (h9 : σ 3 < 10) {i p a f l : Int} (i0 : 0 ≤ i) (i1 : i < σ 3) (p0 : 0 ≤ p) (p1 : p < σ 1) (f0 : 0 ≤ f) (l1 : l < 8) (a0 : 0 ≤ a) (a1 : a ≤ 20) (hask : ∀ w : Int, f ≤ w → w ≤ l → a ≤ σ (267 + 76 * i + w)) : sWf (sLs σ i p a f l) := by
  have hb := hw.1
  have hi := sWf_I hw i0 i1
  have h1 : sWf (sAddI σ p (σ (260 + 76 * i)) (σ (261 + 76 * i)) (σ (263 + 76 * i)) i) := sWf_adi hw h9 p0 p1 hi.2.1.1 hi.2.1.2 hi.2.2.1.1 hi.2.2.1.2 hi.2.2.2.2.1.1 hi.2.2.2.2.1.2 (by omega) (by omega)
  have v3 := (sAddI_v (σ := σ) (p := p) (y := σ (260 + 76 * i)) (c := σ (261 + 76 * i)) (rt := σ (263 + 76 * i)) (ls := i) hb.2.2.2.1).1
  generalize hT : sAddI σ p (σ (260 + 76 * i)) (σ (261 + 76 * i)) (σ (263 + 76 * i)) i = T at h1 v3
  have h2 : sWf (sAskR T (σ 3) f l a) := sWf_ask h1 (by omega) (by omega) f0 l1 a0 a1
  have oT : ∀ k : Int, 259 + 76 * i ≤ k → k < 335 + 76 * i → sAskR T (σ 3) f l a k = σ k := fun k k0 k1 => by
    unfold sAskR
    rw [if_neg (by omega), ← hT, sAddI_o (by omega) (by omega)]
  have v3' : sAskR T (σ 3) f l a 3 = σ 3 + 1 := by
    unfold sAskR
    rw [if_neg (by omega)]; exact v3
  rw [sLs_eq hw h9 i0 i1 f0 l1, hT]
  generalize sAskR T (σ 3) f l a = U at h2 oT v3'
  generalize hV : (fun k : Int => if 267 + 76 * i + f ≤ k ∧ k ≤ 267 + 76 * i + l then σ k - a else U k) = V
  have eV : ∀ k : Int, V k = if 267 + 76 * i + f ≤ k ∧ k ≤ 267 + 76 * i + l then σ k - a else U k := fun k => by rw [← hV]
  have e : ∀ k : Int, (k < 267 + 76 * i ∨ 275 + 76 * i ≤ k) → V k = U k := fun k hk => by rw [eV, if_neg (by omega)]
  have hbU := h2.1
  refine sWf_r h2 (fun c hc => e c (by omega)) (fun r r0 r1 => ?_) (fun r r0 r1 j j0 j1 => ?_)
  · by_cases c : r = i
    · subst c
      obtain ⟨a0', a1', a2, a3, a4, a5, a6, a7, a8, a9, a10⟩ := sWf_I h2 r0 r1
      unfold sRi
      rw [e (259 + 76 * r) (by omega), e 1 (by omega), e (260 + 76 * r) (by omega), e (261 + 76 * r) (by omega), e (262 + 76 * r) (by omega), e (263 + 76 * r) (by omega), e (264 + 76 * r) (by omega), e (265 + 76 * r) (by omega), e (266 + 76 * r) (by omega)]
      refine ⟨a0', a1', a2, a3, a4, a5, a6, a7, fun k k0 k1 => by rw [e _ (by omega)]; exact a8 k k0 k1, fun h9 => sDc_cg (fun j j0 j1 j2 => ?_) (a9 h9), fun j j0 j1 => ?_⟩
      · show cTk (U (275 + 76 * r + j)) = cTk (V (275 + 76 * r + j))
        rw [e _ (by omega)]
      · rw [eV]
        by_cases cj : f ≤ j ∧ j ≤ l
        · rw [if_pos (by omega)]
          have q1 := hask j cj.1 cj.2
          have q2 := hi.2.2.2.2.2.2.2.2.2.2 j j0 j1
          omega
        · rw [if_neg (by omega)]; exact a10 j j0 j1
    · exact sRi_k (sWf_I h2 r0 r1) (by rw [e 1 (by omega)]; omega) (fun c c0 c1 => e c (by omega))
  · rw [e _ (by omega)]; exact sWf_Iz h2 r0 r1 j j0 j1
theorem sZ_ls (h : sZ σ) (hw : sWf σ) (h9 : σ 3 < 10) {i p a f l : Int} (i0 : 0 ≤ i) (i1 : i < σ 3) (f0 : 0 ≤ f) (l1 : l < 8) : sZ (sLs σ i p a f l) := fun k hk => by
  have hb := hw.1
  unfold sLs
  rw [if_neg (by omega), if_neg (by omega), sAddI_o (by omega) (by omega)]; exact h k hk
theorem sWf_dcr (hw : sWf σ) {i n : Int} {tk : Int → Int} (i0 : 0 ≤ i) (i1 : i < σ 3) (n0 : 0 ≤ n) (n1 : n ≤ 60) (ht : ∀ k : Int, 0 ≤ k → k < n → 0 ≤ tk k ∧ tk k ≤ 10017) (hd : n ≠ 0 → sDc (fun k => cTk (tk k)) n) : sWf (sDcr σ i n tk) := by
  have hb := hw.1
  have e : ∀ k : Int, k ≠ 266 + 76 * i → (k < 275 + 76 * i ∨ 335 + 76 * i ≤ k) → sDcr σ i n tk k = σ k := fun k h1 h2 => by
    unfold sDcr
    rw [if_neg h1, if_neg (by omega)]
  have en : sDcr σ i n tk (266 + 76 * i) = n := if_pos rfl
  have ek : ∀ k : Int, 0 ≤ k → k < 60 → sDcr σ i n tk (275 + 76 * i + k) = if k < n then tk k else 0 := fun k k0 k1 => by
    unfold sDcr
    rw [if_neg (by omega), if_pos (by omega), show 275 + 76 * i + k - (275 + 76 * i) = k by omega]
  refine sWf_r hw (fun k hk => e k (by omega) (by omega)) (fun r r0 r1 => ?_) (fun r r0 r1 j j0 j1 => ?_)
  · by_cases cc : r = i
    · subst cc
      obtain ⟨a0, a1, a2, a3, a4, a5, a6, a7, a8, a9, a10⟩ := sWf_I hw r0 r1
      unfold sRi
      rw [e (259 + 76 * r) (by omega) (by omega), e 1 (by omega) (by omega), e (260 + 76 * r) (by omega) (by omega), e (261 + 76 * r) (by omega) (by omega), e (262 + 76 * r) (by omega) (by omega), e (263 + 76 * r) (by omega) (by omega), e (264 + 76 * r) (by omega) (by omega), e (265 + 76 * r) (by omega) (by omega), en]
      refine ⟨a0, a1, a2, a3, a4, a5, a6, ⟨n0, n1⟩, fun k k0 k1 => ?_, fun h9 => sDc_cg (fun j j0 j1 j2 => ?_) (hd h9), fun j j0 j1 => by rw [e _ (by omega) (by omega)]; exact a10 j j0 j1⟩
      · rw [ek k k0 k1]
        by_cases ck : k < n
        · rw [if_pos ck]; exact ht k k0 ck
        · rw [if_neg ck]; decide
      · show cTk (tk j) = cTk (sDcr σ r n tk (275 + 76 * r + j))
        rw [ek j j0 j2, if_pos j1]
    · exact sRi_k (sWf_I hw r0 r1) (by rw [e 1 (by omega) (by omega)]; omega) (fun k c0 c1 => e k (by omega) (by omega))
  · rw [e _ (by omega) (by omega)]; exact sWf_Iz hw r0 r1 j j0 j1
theorem sZ_dcr (h : sZ σ) {i n : Int} {tk : Int → Int} (i0 : 0 ≤ i) (i1 : i < 10) : sZ (sDcr σ i n tk) := fun k hk => by
  unfold sDcr
  rw [if_neg (by omega), if_neg (by omega)]; exact h k hk
end SL
