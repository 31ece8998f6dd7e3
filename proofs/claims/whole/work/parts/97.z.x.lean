/-! Water into a set, on both sides. -/
def zVc (N : zNet) (A : Int → Int) (c w : Int) : Int := if N.1 (c * 8 + w) = true ∧ A (N.2.2.1 (c * 8 + w)) ≠ 0 ∧ A (N.2.1 (c * 8 + w)) = 0 then N.2.2.2.1 (c * 8 + w) else 0
def zWN (N : zNet) (A : Int → Int) : Int := sm 48 (zWs N.2.2.2.2 A) + sm 15 (fun c => sm 8 (fun w => zVc N A c w))
theorem zWN_of {td : Int} {fr to tm rm su A : Int → Int} : sm 48 (zWs su A) + sm 15 (zWt td fr to tm rm A) = zWN (zN td fr to tm rm su) A := by
  unfold zWN zWt
  congr 1
  refine sm_congr (fun c c0 c1 => sm_congr (fun w w0 w1 => ?_))
  unfold zWr zVc
  have e1 : (c * 8 + w) / 8 = c := by omega
  have e2 : (c * 8 + w) % 8 = w := by omega
  dsimp only [zN]
  simp only [e1, e2]
  by_cases h : fr c ≠ -1 ∧ td ≤ w ∧ w + tm c < 8
  · by_cases h2 : A (to c * 8 + w + tm c) ≠ 0 ∧ A (fr c * 8 + w) = 0
    · rw [if_pos ⟨h.1, h.2.1, h.2.2, h2.1, h2.2⟩, if_pos ⟨decide_eq_true h, h2.1, h2.2⟩]
    · rw [if_neg (fun q => h2 q.2.2.2), if_neg (fun q => h2 q.2)]
  · rw [if_neg (fun q => h ⟨q.1, q.2.1, q.2.2.1⟩), if_neg (fun q => h (of_decide_eq_true q.1))]
theorem zWN_ag {N N' : zNet} {A : Int → Int} (h : zAg N N') : zWN N A = zWN N' A := by
  unfold zWN
  congr 1
  · refine sm_congr (fun v v0 v1 => ?_)
    unfold zWs
    rw [h.2 v v0 v1]
  · refine sm_congr (fun c c0 c1 => sm_congr (fun w w0 w1 => ?_))
    obtain ⟨h1, h2⟩ := h.1 (c * 8 + w) (by omega) (by omega)
    unfold zVc
    by_cases hl : N.1 (c * 8 + w) = true
    · obtain ⟨e1, e2, e3⟩ := h2 hl
      rw [e1, e2, e3, h1]
    · rw [if_neg (fun q => hl q.1), if_neg (fun q => hl (h1.trans q.1))]
theorem zWN_eq {σ : sT} {A A' : Int → Int} (hw : sWf σ) (hA : ∀ p w : Int, 0 ≤ p → p < σ 1 → σ 0 ≤ w → w < 8 → (A (8 * p + w) ≠ 0 ↔ A' (8 * p + w) ≠ 0)) : zWN (sNet σ 0) A = sWi σ A' := by
  obtain ⟨⟨v0, v0'⟩, ⟨v1, v1'⟩, ⟨v2, v2'⟩, v3, v3'⟩ := hw.1
  have eS : sm 48 (zWs (sNet σ 0).2.2.2.2 A) = sm (σ 1).toNat (fun p => sm 8 (fun w => zWs (sSu σ 0) A (p * 8 + w))) := by
    show sm (8 * 6) (zWs (sSu σ 0) A) = _
    rw [sm_mul]
    refine sm_tail 6 (by omega) (fun p p0 p1 => sm_zero (fun w w0 w1 => ?_))
    unfold zWs sSu
    rw [if_pos (show σ 1 ≤ (p * 8 + w) / 8 ∨ (p * 8 + w) % 8 < σ 0 by omega)]
    split <;> rfl
  have lv : ∀ c w : Int, 0 ≤ w → w < 8 → ((sNet σ 0).1 (c * 8 + w) = true ↔ (sFr σ c ≠ -1 ∧ σ 0 ≤ w ∧ w + sTm σ c < 8)) := fun c w w0 w1 => by
    show (decide (sFr σ ((c * 8 + w) / 8) ≠ -1 ∧ σ 0 ≤ (c * 8 + w) % 8 ∧ (c * 8 + w) % 8 + sTm σ ((c * 8 + w) / 8) < 8) = true) ↔ _
    rw [show (c * 8 + w) / 8 = c by omega, show (c * 8 + w) % 8 = w by omega]
    exact decide_eq_true_iff
  have e2 : ∀ c w : Int, 0 ≤ w → w < 8 → (sNet σ 0).2.1 (c * 8 + w) = sFr σ c * 8 + w := fun c w w0 w1 => by
    show sFr σ ((c * 8 + w) / 8) * 8 + (c * 8 + w) % 8 = _
    rw [show (c * 8 + w) / 8 = c by omega, show (c * 8 + w) % 8 = w by omega]
  have e3 : ∀ c w : Int, 0 ≤ w → w < 8 → (sNet σ 0).2.2.1 (c * 8 + w) = sTo σ c * 8 + w + sTm σ c := fun c w w0 w1 => by
    show sTo σ ((c * 8 + w) / 8) * 8 + (c * 8 + w) % 8 + sTm σ ((c * 8 + w) / 8) = _
    rw [show (c * 8 + w) / 8 = c by omega, show (c * 8 + w) % 8 = w by omega]
  have eC : sm 15 (fun c => sm 8 (fun w => zVc (sNet σ 0) A c w)) = sm (σ 2).toNat (fun c => sm 8 (fun w => zVc (sNet σ 0) A c w)) + sm (σ 1).toNat (fun p => sm 8 (fun w => zVc (sNet σ 0) A (9 + p) w)) := by
    rw [show (15 : Nat) = 9 + 6 from rfl, sm_split 9 6]
    congr 1
    · refine sm_tail 9 (by omega) (fun c c0 c1 => sm_zero (fun w w0 w1 => ?_))
      unfold zVc
      refine if_neg (fun q => ?_)
      have h9 := ((lv c w w0 w1).1 q.1).1
      unfold sFr at h9
      rw [if_pos (by omega), if_neg (by omega)] at h9
      exact h9 rfl
    · refine sm_tail 6 (by omega) (fun p p0 p1 => sm_zero (fun w w0 w1 => ?_))
      unfold zVc
      refine if_neg (fun q => ?_)
      have h9 := ((lv _ w w0 w1).1 q.1).1
      unfold sFr at h9
      rw [if_neg (by omega), if_neg (by omega)] at h9
      exact h9 rfl
  unfold zWN sWi
  rw [eS, eC, show ∀ a b c d e : Int, a + c = d → b = e → a + (b + c) = d + e from fun a b c d e h1 h2 => by omega]
  · rw [← sm_add]
    refine sm_congr (fun p p0 p1 => ?_)
    rw [← sm_add]
    refine sm_congr (fun w w0 w1 => ?_)
    have hp : p < σ 1 := by omega
    have hf : sFr σ (9 + p) = p := by unfold sFr; rw [if_neg (by omega), if_pos (by omega)]; omega
    have ht : sTo σ (9 + p) = p := by unfold sTo; rw [if_neg (by omega), if_pos (by omega)]; omega
    have hm : sTm σ (9 + p) = 1 := if_neg (by omega)
    have hr : (sNet σ 0).2.2.2.1 ((9 + p) * 8 + w) = σ (4 + 2 * p) := by
      show (if (9 + p) * 8 + w < 72 then _ else σ (4 + 2 * (((9 + p) * 8 + w) / 8 - 9))) = _
      rw [if_neg (by omega), show ((9 + p) * 8 + w) / 8 - 9 = p by omega]
    have hl := lv (9 + p) w w0 w1
    rw [hf, hm] at hl
    have h2 := e2 (9 + p) w w0 w1
    have h3 := e3 (9 + p) w w0 w1
    rw [hf] at h2
    rw [ht, hm] at h3
    unfold sW1 zVc
    rw [h2, h3, hr]
    by_cases cw : σ 0 ≤ w
    · rw [if_pos cw]
      have a1 := hA p w p0 hp cw w1
      rw [show 8 * p + w = p * 8 + w by omega] at a1
      have i1 : sIs σ A' p w ↔ A (p * 8 + w) ≠ 0 := ⟨fun q => a1.2 (by have := q.2.2; rw [show 8 * p + w = p * 8 + w by omega] at this; exact this), fun q => ⟨⟨p0, hp⟩, ⟨cw, by omega⟩, by rw [show 8 * p + w = p * 8 + w by omega]; exact a1.1 q⟩⟩
      congr 1
      · unfold zWs
        by_cases ca : A (p * 8 + w) = 0
        · rw [if_pos ca, if_neg (fun q => i1.1 q ca)]
        · rw [if_neg ca, if_pos (i1.2 ca), show 8 * p + w = p * 8 + w by omega]
      · by_cases c7 : w + 1 < 8
        · have a2 := hA p (w + 1) p0 hp (by omega) c7
          rw [show 8 * p + (w + 1) = p * 8 + w + 1 by omega] at a2
          have i2 : sIs σ A' p (w + 1) ↔ A (p * 8 + w + 1) ≠ 0 := ⟨fun q => a2.2 (by have := q.2.2; rw [show 8 * p + (w + 1) = p * 8 + w + 1 by omega] at this; exact this), fun q => ⟨⟨p0, hp⟩, ⟨by omega, by omega⟩, by rw [show 8 * p + (w + 1) = p * 8 + w + 1 by omega]; exact a2.1 q⟩⟩
          by_cases cc : A (p * 8 + w + 1) ≠ 0 ∧ A (p * 8 + w) = 0
          · rw [if_pos ⟨hl.2 ⟨by omega, cw, c7⟩, cc.1, cc.2⟩, if_pos ⟨fun q => i1.1 q cc.2, i2.2 cc.1⟩]
          · rw [if_neg (fun q => cc q.2), if_neg (fun q => cc ⟨i2.1 q.2, Classical.byContradiction (fun r => q.1 (i1.2 r))⟩)]
        · rw [if_neg (fun q => by have := (hl.1 q.1).2.2; omega), if_neg (fun q => by have := q.2.2.1.2; omega)]
    · rw [if_neg cw, if_neg (fun q => cw (hl.1 q.1).2.1)]
      unfold zWs sSu
      rw [if_pos (show σ 1 ≤ (p * 8 + w) / 8 ∨ (p * 8 + w) % 8 < σ 0 by omega)]
      split <;> rfl
  · refine sm_congr (fun c c0 c1 => sm_congr (fun w w0 w1 => ?_))
    have hc : c < σ 2 := by omega
    obtain ⟨⟨q0, q1⟩, ⟨q2, q3⟩, -⟩ := hw.2.2.2.1 c c0 hc
    obtain ⟨⟨q4, q5⟩, -⟩ := hw.2.2.1 c c0 (by omega)
    have hf : sFr σ c = σ (16 + 11 * c) := by unfold sFr; rw [if_pos (by omega), if_pos hc]
    have ht : sTo σ c = σ (17 + 11 * c) := by unfold sTo; rw [if_pos (by omega), if_pos hc]
    have hm : sTm σ c = σ (18 + 11 * c) := if_pos (by omega)
    have hr : (sNet σ 0).2.2.2.1 (c * 8 + w) = σ (19 + 11 * c + w) := by
      show (if c * 8 + w < 72 then σ (19 + 11 * ((c * 8 + w) / 8) + (c * 8 + w) % 8) else _) = _
      rw [if_pos (by omega), show (c * 8 + w) / 8 = c by omega, show (c * 8 + w) % 8 = w by omega]
    have hl := lv c w w0 w1
    rw [hf, hm] at hl
    have h2 := e2 c w w0 w1
    have h3 := e3 c w w0 w1
    rw [hf] at h2
    rw [ht, hm] at h3
    unfold sW2 zVc
    rw [h2, h3, hr]
    by_cases cw : σ 0 ≤ w
    · rw [if_pos cw]
      have a1 := hA _ w q0 q1 cw w1
      have i1 : sIs σ A' (σ (16 + 11 * c)) w ↔ A (σ (16 + 11 * c) * 8 + w) ≠ 0 := by
        rw [show σ (16 + 11 * c) * 8 + w = 8 * σ (16 + 11 * c) + w by omega]
        exact ⟨fun q => a1.2 q.2.2, fun q => ⟨⟨q0, q1⟩, ⟨cw, by omega⟩, a1.1 q⟩⟩
      by_cases c7 : w + σ (18 + 11 * c) < 8
      · have a2 := hA _ (w + σ (18 + 11 * c)) q2 q3 (by omega) c7
        have i2 : sIs σ A' (σ (17 + 11 * c)) (w + σ (18 + 11 * c)) ↔ A (σ (17 + 11 * c) * 8 + w + σ (18 + 11 * c)) ≠ 0 := by
          rw [show σ (17 + 11 * c) * 8 + w + σ (18 + 11 * c) = 8 * σ (17 + 11 * c) + (w + σ (18 + 11 * c)) by omega]
          exact ⟨fun q => a2.2 q.2.2, fun q => ⟨⟨q2, q3⟩, ⟨by omega, by omega⟩, a2.1 q⟩⟩
        by_cases cc : A (σ (17 + 11 * c) * 8 + w + σ (18 + 11 * c)) ≠ 0 ∧ A (σ (16 + 11 * c) * 8 + w) = 0
        · rw [if_pos ⟨hl.2 ⟨by omega, cw, c7⟩, cc.1, cc.2⟩, if_pos ⟨c7, fun q => i1.1 q cc.2, i2.2 cc.1⟩]
        · rw [if_neg (fun q => cc q.2), if_neg (fun q => cc ⟨i2.1 q.2.2, Classical.byContradiction (fun r => q.2.1 (i1.2 r))⟩)]
      · rw [if_neg (fun q => by have := (hl.1 q.1).2.2; omega), if_neg (fun q => c7 q.1)]
    · rw [if_neg cw, if_neg (fun q => cw (hl.1 q.1).2.1)]
theorem sWi_cg {σ : sT} {A A' : Int → Int} (hw : sWf σ) (hA : ∀ v : Int, 0 ≤ v → v < 48 → (A v ≠ 0 ↔ A' v ≠ 0)) : sWi σ A = sWi σ A' := by
  have hb := hw.1
  rw [← zWN_eq (A := A) hw (fun _ _ _ _ _ _ => Iff.rfl)]
  exact zWN_eq hw (fun p w p0 p1 w0 w1 => hA _ (by omega) (by omega))
section XU
variable {n e a : Int} {S : mH} {I : mN} {Q : mQ} (D : Nat) {σ : sT} {A : Int → Int}
theorem p_into9 (hn : yNe S n e) (hw : sWf σ) (h : nLd9 I n σ) (ha : S.2.1 a = 51) (hl : S.2.2.1 a = 48) (hA : ∀ p w : Int, 0 ≤ p → p < σ 1 → σ 0 ≤ w → w < 8 → (I a (8 * p + w) ≠ 0 ↔ A (8 * p + w) ≠ 0)) (k : Q (.inl (some (mI (sWi σ A)))) I S) : mRun (D + 1) 48 [mR n, mR a] I S Q := by
  refine r_into D hn ha hl h.2.1 ⟨rfl, rfl, rfl, rfl, rfl, rfl, rfl⟩ (fun v v0 v1 => ?_) h.2.2 ?_
  · have e9 := h.1.2 v v0 v1
    have e8 : I (n + 7) v = sSu σ 0 v := e9
    rw [e8]
    exact sSu_bd hw (by decide) (by decide) v0 v1
  · rw [zWN_of, zWN_ag h.1, zWN_eq hw hA]
    exact k
end XU
