/-! States, changed. -/
theorem sDc_cg {tk tk' : Int → Int} {ln : Int} (h : ∀ j : Int, 0 ≤ j → j < ln → j < 60 → tk j = tk' j) (hd : sDc tk ln) : sDc tk' ln := by
  obtain ⟨f, x, hx⟩ := hd
  exact ⟨f, x, by rw [← zEf_cg h (fun p => ⟨rfl, rfl⟩) f 3 8 0 0 (Int.le_refl 0)]; exact hx⟩
theorem sm_more {g : Int → Int} {n : Nat} : ∀ (c : Nat), (∀ i : Int, n ≤ i → i < n + c → g i = 0) → sm (n + c) g = sm n g
  | 0, _ => rfl
  | c + 1, h => by
    show sm (n + c) g + g ((n + c : Nat) : Int) = _
    rw [sm_more c (fun i i0 i1 => h i i0 (by omega)), h _ (by omega) (by omega), Int.add_zero]
def sRi (σ : sT) (i : Int) : Prop := (0 ≤ σ (259 + 76 * i) ∧ σ (259 + 76 * i) < σ 1) ∧ (1800 ≤ σ (260 + 76 * i) ∧ σ (260 + 76 * i) ≤ 2099) ∧ (0 ≤ σ (261 + 76 * i) ∧ σ (261 + 76 * i) ≤ 9) ∧ (-1000 ≤ σ (262 + 76 * i) ∧ σ (262 + 76 * i) ≤ 1000000) ∧ (0 ≤ σ (263 + 76 * i) ∧ σ (263 + 76 * i) < 10) ∧ (-1 ≤ σ (264 + 76 * i) ∧ σ (264 + 76 * i) < 10) ∧ (0 ≤ σ (265 + 76 * i) ∧ σ (265 + 76 * i) ≤ 1) ∧ (0 ≤ σ (266 + 76 * i) ∧ σ (266 + 76 * i) ≤ 60) ∧ (∀ k : Int, 0 ≤ k → k < 60 → 0 ≤ σ (275 + 76 * i + k) ∧ σ (275 + 76 * i + k) ≤ 10017) ∧ (σ (266 + 76 * i) ≠ 0 → sDc (sTk σ i) (σ (266 + 76 * i))) ∧ ∀ j : Int, 0 ≤ j → j < 8 → 0 ≤ σ (267 + 76 * i + j) ∧ σ (267 + 76 * i + j) ≤ 20
/-- a right's cells are the same -/
theorem sRi_k {σ σ' : sT} {i : Int} (h : sRi σ i) (h1 : σ 1 ≤ σ' 1) (hc : ∀ c : Int, 259 + 76 * i ≤ c → c < 335 + 76 * i → σ' c = σ c) : sRi σ' i := by
  obtain ⟨a0, a1, a2, a3, a4, a5, a6, a7, a8, a9, a10⟩ := h
  unfold sRi
  rw [hc (259 + 76 * i) (by omega) (by omega), hc (260 + 76 * i) (by omega) (by omega), hc (261 + 76 * i) (by omega) (by omega), hc (262 + 76 * i) (by omega) (by omega), hc (263 + 76 * i) (by omega) (by omega), hc (264 + 76 * i) (by omega) (by omega), hc (265 + 76 * i) (by omega) (by omega), hc (266 + 76 * i) (by omega) (by omega)]
  exact ⟨by omega, a1, a2, a3, a4, a5, a6, a7, fun k k0 k1 => by rw [hc _ (by omega) (by omega)]; exact a8 k k0 k1, fun h9 => sDc_cg (fun j j0 j1 j2 => by
    show cTk (σ (275 + 76 * i + j)) = cTk (σ' (275 + 76 * i + j))
    rw [hc _ (by omega) (by omega)]) (a9 h9), fun j j0 j1 => by rw [hc _ (by omega) (by omega)]; exact a10 j j0 j1⟩
section SW
variable {σ σ' : sT}
theorem sWf_P (hw : sWf σ) {p : Int} (p0 : 0 ≤ p) (p1 : p < 6) : (0 ≤ σ (4 + 2 * p) ∧ σ (4 + 2 * p) ≤ 60) ∧ (0 ≤ σ (5 + 2 * p) ∧ σ (5 + 2 * p) ≤ 1000) ∧ ∀ s j : Int, 0 ≤ s → s < 3 → 0 ≤ j → j < 8 → 0 ≤ σ (115 + 48 * s + 8 * p + j) ∧ σ (115 + 48 * s + 8 * p + j) ≤ 40 := by
  obtain ⟨h1, h2, h3, h4⟩ := hw.2.1 p p0 p1
  exact ⟨h1, h2, h4⟩
theorem sWf_R (hw : sWf σ) {r : Int} (r0 : 0 ≤ r) (r1 : r < 9) : (0 ≤ σ (18 + 11 * r) ∧ σ (18 + 11 * r) ≤ 2) ∧ ∀ j : Int, 0 ≤ j → j < 8 → 0 ≤ σ (19 + 11 * r + j) ∧ σ (19 + 11 * r + j) ≤ 51 := by
  obtain ⟨h1, h2⟩ := hw.2.2.1 r r0 r1
  exact ⟨h1, fun j j0 j1 => (h2 j j0 j1).1⟩
theorem sWf_I (hw : sWf σ) {i : Int} (i0 : 0 ≤ i) (i1 : i < σ 3) : sRi σ i := by
  obtain ⟨a0, a1, a2, a3, a4, a5, a6, a7, a8, a9, a10⟩ := hw.2.2.2.2.1 i i0 i1
  exact ⟨a0, a1, a2, a3, a4, a5, a6, a7, a8, a9, fun j j0 j1 => (a10 j j0 j1).1⟩
theorem sWf_Pz (hw : sWf σ) {p : Int} (p0 : σ 1 ≤ p) (p1 : p < 6) : σ (4 + 2 * p) = 0 ∧ σ (5 + 2 * p) = 0 ∧ ∀ s j : Int, 0 ≤ s → s < 3 → 0 ≤ j → j < 8 → σ (115 + 48 * s + 8 * p + j) = 0 := by
  obtain ⟨h1, h2, h3⟩ := hw.2.2.2.2.2.2.1 p p0 p1
  exact ⟨h1, h2, fun s j s0 s1 j0 j1 => (h3 j j0 j1).2.2 s s0 s1⟩
theorem sWf_Rz (hw : sWf σ) {r : Int} (r0 : σ 2 ≤ r) (r1 : r < 9) : ∀ j : Int, 0 ≤ j → j < 11 → σ (16 + 11 * r + j) = 0 := (hw.2.2.2.2.2.2.2.1 r r0 r1).1
theorem sWf_Iz (hw : sWf σ) {i : Int} (i0 : σ 3 ≤ i) (i1 : i < 10) : ∀ j : Int, 0 ≤ j → j < 76 → σ (259 + 76 * i + j) = 0 := (hw.2.2.2.2.2.2.2.2 i i0 i1).1
/-- a change that passes no week -/
theorem sWf_up (hw : sWf σ) (h0 : σ' 0 = σ 0) (hX : ∀ c : Int, 1019 ≤ c → σ' c = σ c) (h1 : σ 1 ≤ σ' 1 ∧ σ' 1 ≤ 6) (h2 : σ 2 ≤ σ' 2 ∧ σ' 2 ≤ 9) (h3 : σ 3 ≤ σ' 3 ∧ σ' 3 ≤ 10)
    (hP : ∀ p : Int, 0 ≤ p → p < 6 → (0 ≤ σ' (4 + 2 * p) ∧ σ' (4 + 2 * p) ≤ 60) ∧ (0 ≤ σ' (5 + 2 * p) ∧ σ' (5 + 2 * p) ≤ 1000) ∧ ∀ s j : Int, 0 ≤ s → s < 3 → 0 ≤ j → j < 8 → 0 ≤ σ' (115 + 48 * s + 8 * p + j) ∧ σ' (115 + 48 * s + 8 * p + j) ≤ 40)
    (hR : ∀ r : Int, 0 ≤ r → r < 9 → (0 ≤ σ' (18 + 11 * r) ∧ σ' (18 + 11 * r) ≤ 2) ∧ ∀ j : Int, 0 ≤ j → j < 8 → 0 ≤ σ' (19 + 11 * r + j) ∧ σ' (19 + 11 * r + j) ≤ 51)
    (hR2 : ∀ r : Int, 0 ≤ r → r < σ' 2 → (0 ≤ σ' (16 + 11 * r) ∧ σ' (16 + 11 * r) < σ' 1) ∧ (0 ≤ σ' (17 + 11 * r) ∧ σ' (17 + 11 * r) < σ' 1) ∧ σ' (16 + 11 * r) ≠ σ' (17 + 11 * r))
    (hRo : ∀ r : Int, 0 ≤ r → r < σ 2 → σ' (17 + 11 * r) = σ (17 + 11 * r) ∧ σ' (18 + 11 * r) = σ (18 + 11 * r))
    (hI : ∀ i : Int, 0 ≤ i → i < σ' 3 → sRi σ' i)
    (hPz : ∀ p : Int, σ' 1 ≤ p → p < 6 → σ' (4 + 2 * p) = 0 ∧ σ' (5 + 2 * p) = 0 ∧ ∀ s j : Int, 0 ≤ s → s < 3 → 0 ≤ j → j < 8 → σ' (115 + 48 * s + 8 * p + j) = 0)
    (hRz : ∀ r : Int, σ' 2 ≤ r → r < 9 → ∀ j : Int, 0 ≤ j → j < 11 → σ' (16 + 11 * r + j) = 0)
    (hIz : ∀ i : Int, σ' 3 ≤ i → i < 10 → ∀ j : Int, 0 ≤ j → j < 76 → σ' (259 + 76 * i + j) = 0) : sWf σ' := by
  obtain ⟨⟨⟨b0, b0'⟩, ⟨b1, b1'⟩, ⟨b2, b2'⟩, b3, b3'⟩, w1, w2, w3, w4, w5, w6, w7, w8⟩ := hw
  refine ⟨⟨by omega, by omega, by omega, by omega⟩, fun p p0 p1 => ⟨(hP p p0 p1).1, (hP p p0 p1).2.1, fun j j0 j1 => by rw [hX _ (by omega)]; exact (w1 p p0 p1).2.2.1 j j0 j1, (hP p p0 p1).2.2⟩, fun r r0 r1 => ⟨(hR r r0 r1).1, fun j j0 j1 => ⟨(hR r r0 r1).2 j j0 j1, by rw [hX _ (by omega)]; exact ((w2 r r0 r1).2 j j0 j1).2⟩⟩, hR2, fun i i0 i1 => ?_, fun p w p0 p1 q0 q1 => ?_, fun p p0 p1 => ⟨(hPz p p0 p1).1, (hPz p p0 p1).2.1, fun j j0 j1 => ?_⟩, fun r r0 r1 => ⟨hRz r r0 r1, fun j j0 j1 => ?_⟩, fun i i0 i1 => ⟨hIz i i0 i1, fun j j0 j1 => ?_⟩⟩
  · obtain ⟨a0, a1, a2, a3, a4, a5, a6, a7, a8, a9, a10⟩ := hI i i0 i1
    refine ⟨a0, a1, a2, a3, a4, a5, a6, a7, a8, a9, fun j j0 j1 => ⟨a10 j j0 j1, ?_, ?_⟩⟩
    · rw [hX _ (by omega)]
      by_cases c : i < σ 3
      · exact ((w4 i i0 c).2.2.2.2.2.2.2.2.2.2 j j0 j1).2.1
      · rw [((w8 i (by omega) (by omega)).2 j j0 j1).1]; decide
    · rw [hX _ (by omega)]
      by_cases c : i < σ 3
      · exact ((w4 i i0 c).2.2.2.2.2.2.2.2.2.2 j j0 j1).2.2
      · rw [((w8 i (by omega) (by omega)).2 j j0 j1).2]; decide
  · rw [hX _ (by omega), w5 p w p0 p1 (by omega) q1, h0]
    have en : (σ' 2).toNat = (σ 2).toNat + (σ' 2 - σ 2).toNat := by omega
    rw [en, sm_more (σ' 2 - σ 2).toNat (fun r r0 r1 => ?_)]
    · refine sm_congr (fun r r0 r1 => ?_)
      obtain ⟨e1, e2⟩ := hRo r r0 (by omega)
      rw [e1, e2]
      by_cases c : σ (17 + 11 * r) = p ∧ 0 ≤ w - σ (18 + 11 * r) ∧ w - σ (18 + 11 * r) < σ 0
      · rw [if_pos c, if_pos c, hX _ (by omega)]
      · rw [if_neg c, if_neg c]
    · by_cases c : σ' (17 + 11 * r) = p ∧ 0 ≤ w - σ' (18 + 11 * r) ∧ w - σ' (18 + 11 * r) < σ 0
      · rw [if_pos c, hX _ (by omega)]
        exact (w7 r (by omega) (by omega)).2 _ c.2.1 (by omega)
      · rw [if_neg c]
  · obtain ⟨c1, c2, c3⟩ := (w6 p (by omega) p1).2.2 j j0 j1
    exact ⟨by rw [hX _ (by omega)]; exact c1, by rw [hX _ (by omega)]; exact c2, fun s s0 s1 => (hPz p p0 p1).2.2 s j s0 s1 j0 j1⟩
  · rw [hX _ (by omega)]; exact (w7 r (by omega) r1).2 j j0 j1
  · rw [hX _ (by omega), hX _ (by omega)]; exact (w8 i (by omega) i1).2 j j0 j1
/-- cells of rights alone -/
theorem sWf_r (hw : sWf σ) (hc : ∀ c : Int, (c < 259 ∨ 1019 ≤ c) → σ' c = σ c) (hI : ∀ i : Int, 0 ≤ i → i < σ 3 → sRi σ' i) (hIz : ∀ i : Int, σ 3 ≤ i → i < 10 → ∀ j : Int, 0 ≤ j → j < 76 → σ' (259 + 76 * i + j) = 0) : sWf σ' := by
  have hb := hw.1
  have e3 : σ' 3 = σ 3 := hc 3 (by omega)
  have e2 : σ' 2 = σ 2 := hc 2 (by omega)
  have e1 : σ' 1 = σ 1 := hc 1 (by omega)
  refine sWf_up hw (hc 0 (by omega)) (fun c h => hc c (by omega)) (by omega) (by omega) (by omega) (fun p p0 p1 => ?_) (fun r r0 r1 => ?_) (fun r r0 r1 => ?_) (fun r r0 r1 => ?_) (by rw [e3]; exact hI) (fun p p0 p1 => ?_) (fun r r0 r1 j j0 j1 => ?_) (by rw [e3]; exact hIz)
  · obtain ⟨c1, c2, c3⟩ := sWf_P hw p0 p1
    exact ⟨by rw [hc _ (by omega)]; exact c1, by rw [hc _ (by omega)]; exact c2, fun s j s0 s1 j0 j1 => by rw [hc _ (by omega)]; exact c3 s j s0 s1 j0 j1⟩
  · obtain ⟨c1, c2⟩ := sWf_R hw r0 r1
    exact ⟨by rw [hc _ (by omega)]; exact c1, fun j j0 j1 => by rw [hc _ (by omega)]; exact c2 j j0 j1⟩
  · rw [e2] at r1
    rw [hc (16 + 11 * r) (by omega), hc (17 + 11 * r) (by omega), e1]; exact hw.2.2.2.1 r r0 r1
  · rw [hc _ (by omega), hc _ (by omega)]; exact ⟨rfl, rfl⟩
  · obtain ⟨c1, c2, c3⟩ := sWf_Pz hw (show σ 1 ≤ p by omega) p1
    exact ⟨by rw [hc _ (by omega)]; exact c1, by rw [hc _ (by omega)]; exact c2, fun s j s0 s1 j0 j1 => by rw [hc _ (by omega)]; exact c3 s j s0 s1 j0 j1⟩
  · rw [hc _ (by omega)]; exact sWf_Rz hw (by omega) r1 j j0 j1
/-- cells of a place or a reach that is there -/
theorem sWf_p (hw : sWf σ) (hc : ∀ c : Int, (c < 4 ∨ (259 ≤ c)) → σ' c = σ c)
    (hP : ∀ p : Int, 0 ≤ p → p < 6 → (0 ≤ σ' (4 + 2 * p) ∧ σ' (4 + 2 * p) ≤ 60) ∧ (0 ≤ σ' (5 + 2 * p) ∧ σ' (5 + 2 * p) ≤ 1000) ∧ ∀ s j : Int, 0 ≤ s → s < 3 → 0 ≤ j → j < 8 → 0 ≤ σ' (115 + 48 * s + 8 * p + j) ∧ σ' (115 + 48 * s + 8 * p + j) ≤ 40)
    (hR : ∀ r : Int, 0 ≤ r → r < 9 → (σ' (16 + 11 * r) = σ (16 + 11 * r) ∧ σ' (17 + 11 * r) = σ (17 + 11 * r) ∧ σ' (18 + 11 * r) = σ (18 + 11 * r)) ∧ ∀ j : Int, 0 ≤ j → j < 8 → 0 ≤ σ' (19 + 11 * r + j) ∧ σ' (19 + 11 * r + j) ≤ 51)
    (hPz : ∀ p : Int, σ 1 ≤ p → p < 6 → σ' (4 + 2 * p) = 0 ∧ σ' (5 + 2 * p) = 0 ∧ ∀ s j : Int, 0 ≤ s → s < 3 → 0 ≤ j → j < 8 → σ' (115 + 48 * s + 8 * p + j) = 0)
    (hRz : ∀ r : Int, σ 2 ≤ r → r < 9 → ∀ j : Int, 0 ≤ j → j < 11 → σ' (16 + 11 * r + j) = 0) : sWf σ' := by
  have hb := hw.1
  have e3 : σ' 3 = σ 3 := hc 3 (by omega)
  have e2 : σ' 2 = σ 2 := hc 2 (by omega)
  have e1 : σ' 1 = σ 1 := hc 1 (by omega)
  refine sWf_up hw (hc 0 (by omega)) (fun c h => hc c (by omega)) (by omega) (by omega) (by omega) hP (fun r r0 r1 => ?_) (fun r r0 r1 => ?_) (fun r r0 r1 => ?_) (fun i i0 i1 => ?_) (by rw [e1]; exact hPz) (by rw [e2]; exact hRz) (fun i i0 i1 j j0 j1 => ?_)
  · rw [(hR r r0 r1).1.2.2]; exact ⟨(sWf_R hw r0 r1).1, (hR r r0 r1).2⟩
  · rw [e2] at r1
    obtain ⟨d1, d2, d3⟩ := (hR r r0 (by omega)).1
    rw [d1, d2, e1]; exact hw.2.2.2.1 r r0 r1
  · obtain ⟨d1, d2, d3⟩ := (hR r r0 (by omega)).1
    exact ⟨d2, d3⟩
  · rw [e3] at i1
    exact sRi_k (sWf_I hw i0 i1) (by omega) (fun c c0 c1 => hc c (by omega))
  · rw [hc _ (by omega)]; exact sWf_Iz hw (by omega) i1 j j0 j1
end SW
