/-! The ghost stays well formed: the calls that were left. -/
theorem zSn_60 {tx : Int → Int} {N : Int} (h : zSo1 tx N) : 0 ≤ zSn tx N ∧ zSn tx N ≤ 60 := by
  unfold zSn
  by_cases c : zK tx N 0 = 0
  · rw [if_pos c]; exact ⟨Int.le_refl 0, by decide⟩
  · rw [if_neg c]; exact zDr_60 0 (h.resolve_left c).1
section WQ
variable {G : gT}
theorem w_0 {a b c d e : Int} (hg : gWf G) : gWf (r0 G a b c d e).2 := by
  have tb := hg.2.2.2.2.1
  unfold r0
  split
  · rename_i c1
    have hT : zTb ((G.2.2 1), (G.1 2)) := ⟨tb.1.1, tb.2⟩
    refine gWf_tx hg (zTb_b 4 (zTb_b 4 (zTb_b 4 (zTb_b 4 (zTb_b 4 hT))))) ?_
    rw [zAp_2]
    exact c1
  · exact hg
theorem w_1 (hg : gWf G) : gWf (r1 G).2 := gWf_1 hg
theorem w_2 (hg : gWf G) : gWf (r2 G).2 := by
  have tb := hg.2.2.2.2.1.1
  unfold r2
  split
  · rename_i c1
    have h := qTop_p tb.1 tb.2 c1
    exact gWf_push (gWf_cl hg) h.1 h.2
  · exact gWf_cl hg
theorem w_3 (hg : gWf G) : gWf (r3 G).2 := hg
theorem w_11 {a : Int} (hg : gWf G) : gWf (r11 G a).2 := by
  have hw := (gO_w hg).1
  have hz := (gO_w hg).2
  have hb := hw.1
  have tb := hg.2.2.2.2.1.1
  unfold r11
  split
  · rename_i c1
    split
    · by_cases c3 : zSo1 ((G.2.2 1)) ((G.1 2))
      · rw [if_pos c3]
        have h60 := zSn_60 c3
        obtain ⟨q1, q2⟩ := zSd tb.1 tb.2 c3 h60.2
        exact gWf_push (gWf_cl hg) (sWf_dcr hw c1.1 c1.2 h60.1 h60.2 (fun k k0 k1 => (q1 k k0 k1).2) q2) (sZ_dcr hz c1.1 (by omega))
      · rw [if_neg c3]
        exact gWf_cl hg
    · exact hg
  · exact hg
theorem w_14 {i p a f l : Int} (hg : gWf G) : gWf (r14 G i p a f l).2 := by
  have hw := (gO_w hg).1
  have hz := (gO_w hg).2
  have hb := hw.1
  unfold r14
  split
  · rename_i c1
    by_cases c2 : zRg a f l
    · rw [if_pos c2]
      by_cases c3 : ((G.2.1 (G.1 1) (G.1 (10 + G.1 1))) 0 ≤ f ∧ zCan ((G.2.1 (G.1 1) (G.1 (10 + G.1 1)))) i a f l) ∧ sInj ((G.2.1 (G.1 1) (G.1 (10 + G.1 1)))) i p a f l = -1
      · rw [if_pos c3]
        have k1 := c3.1.2.1
        exact gWf_push hg (sWf_ls hw k1 c1.1.1 c1.1.2 c1.2.1 c1.2.2 c2.2.1 c2.2.2.2 (by have := c2.1; omega) c2.1.2 (fun w w0 w1 => Int.not_lt.mp (fun h9 => c3.1.2.2.2.2 ⟨w, w0, w1, h9⟩))) (sZ_ls hz hw k1 c1.1.1 c1.1.2 c2.2.1 c2.2.2.2)
      · rw [if_neg c3]; exact hg
    · rw [if_neg c2]; exact hg
  · exact hg
theorem w_18 (hg : gWf G) : gWf (r18 G).2 := by
  have hw := (gO_w hg).1
  have hz := (gO_w hg).2
  unfold r18
  split
  · exact gWf_push hg (sWf_pass hw (by omega)) (sZ_pass hw hz)
  · exact hg
theorem w_24 (hg : gWf G) : gWf (r24 G).2 := hg
theorem w_25 (hg : gWf G) : gWf (r25 G).2 := hg
theorem w_26 (hg : gWf G) : gWf (r26 G).2 := hg
theorem w_27 (hg : gWf G) : gWf (r27 G).2 := hg
theorem w_41 (hg : gWf G) : gWf (r41 G).2 := hg
theorem w_49 {a c : Int} (hg : gWf G) : gWf (r49 G a c).2 := by
  unfold r49
  repeat' split
  all_goals exact hg
theorem w_50 {a c : Int} (hg : gWf G) : gWf (r50 G a c).2 := by
  unfold r50
  repeat' split
  all_goals exact hg
theorem w_51 {a c : Int} (hg : gWf G) : gWf (r51 G a c).2 := by
  unfold r51
  repeat' split
  all_goals exact hg
theorem w_52 {i p a f l : Int} (hg : gWf G) : gWf (r52 G i p a f l).2 := by
  unfold r52
  split
  · by_cases c2 : zRg a f l
    · rw [if_pos c2]
      by_cases c3 : (G.2.1 (G.1 1) (G.1 (10 + G.1 1))) 0 ≤ f ∧ zCan ((G.2.1 (G.1 1) (G.1 (10 + G.1 1)))) i a f l
      · rw [if_pos c3]; exact hg
      · rw [if_neg c3]; exact hg
    · rw [if_neg c2]; exact hg
  · exact hg
theorem w_53 {i p f l : Int} (hg : gWf G) : gWf (r53 G i p f l).2 := by
  unfold r53
  repeat' split
  all_goals exact hg
end WQ
/-! No capacity above 50. -/
def gC5 (G : gT) : Prop := ∀ k j : Int, 0 ≤ k → k < (G.1 0) → 0 ≤ j → j ≤ (G.1 (20 + k)) → sC5 ((G.2.1 k j))
section WR
variable {G G' : gT} {σ τ : sT}
theorem sC5_k (h : sC5 σ) (e : ∀ c : Int, 19 ≤ c → c ≤ 114 → τ c ≤ 50 ∨ τ c = σ c) : sC5 τ := fun r j r0 r1 j0 j1 => by
  rcases e (19 + 11 * r + j) (by omega) (by omega) with h1 | h1
  · exact h1
  · rw [h1]; exact h r j r0 r1 j0 j1
theorem sC5_u (h : sC5 σ) {c v : Int} (hc : c < 19 ∨ 114 < c ∨ v ≤ 50) : sC5 (zU σ c v) := sC5_k h (fun k k0 k1 => by
  by_cases e : k = c
  · rw [zU_eq e]; exact Or.inl (by omega)
  · exact Or.inr (zU_ne e))
theorem gC5_s (hg : gWf G) (h : gC5 G) (eN : (G'.1 0) = (G.1 0)) (eE : ∀ k : Int, 0 ≤ k → k < 3 → (G'.1 (20 + k)) = (G.1 (20 + k))) (eS : ∀ k j : Int, (G'.2.1 k j) = (G.2.1 k j)) : gC5 G' := fun k j k0 k1 j0 j1 => by
  rw [eN] at k1
  have := hg.1.2
  rw [eE k k0 (by omega)] at j1
  rw [eS]
  exact h k j k0 k1 j0 j1
theorem gC5_o (hg : gWf G) (h : gC5 G) : sC5 ((G.2.1 (G.1 1) (G.1 (10 + G.1 1)))) := by
  have hJ := gJ_b hg
  exact h ((G.1 1)) ((G.1 (10 + G.1 1))) hJ.1.1 hJ.1.2.2 hJ.2.1 hJ.2.2.1
theorem gC5_p (hg : gWf G) (h : gC5 G) (ht : sC5 τ) : gC5 (gPush G τ) := fun k j k0 k1 j0 j1 => by
  have hJ := gJ_b hg
  have hK := gK_b hg
  have g1 := hg.1
  rw [gPush_N hg] at k1
  rw [gPush_E hg k0 (by omega)] at j1
  rw [gPush_S]
  by_cases c : k = (G.1 1)
  · rw [if_pos c] at j1 ⊢
    subst c
    by_cases c2 : j = gK G
    · rw [if_pos c2]; exact ht
    · rw [if_neg c2]
      by_cases c3 : (G.1 (10 + G.1 1)) < 6
      · rw [if_pos c3]; exact h _ j k0 k1 j0 (by omega)
      · rw [if_neg c3]; exact h _ (j + 1) k0 k1 (by omega) (by omega)
  · rw [if_neg c] at j1 ⊢
    exact h k j k0 k1 j0 j1
theorem gC5_cl {e : Int} (hg : gWf G) (h : gC5 G) : gC5 (gCl G e) := gC5_s hg h (gCl_1 (by decide) (by decide)) (fun k k0 k1 => gCl_1 (by omega) (by omega)) (fun _ _ => rfl)
theorem c5_0 {a b c d e : Int} (hg : gWf G) (h : gC5 G) : gC5 (r0 G a b c d e).2 := by
  unfold r0
  split
  · exact gC5_s hg h (gTx_1 (by decide)) (fun k k0 k1 => gTx_1 (by omega)) (fun _ _ => rfl)
  · exact h
theorem c5_1 (hg : gWf G) (h : gC5 G) : gC5 (r1 G).2 := gC5_s hg h (gSet_1 (by decide)) (fun k k0 k1 => gSet_1 (by omega)) (fun _ _ => rfl)
theorem c5_4 (hg : gWf G) (h : gC5 G) : gC5 (r4 G).2 := gC5_s hg h (gWr_1 (by decide)) (fun k k0 k1 => gWr_1 (by omega)) (fun _ _ => rfl)
theorem c5_6 {a c : Int} (hg : gWf G) (h : gC5 G) : gC5 (r6 G a c).2 := by
  have hb := (gO_w hg).1.1
  have h5 := gC5_o hg h
  unfold r6
  split
  · split
    · refine gC5_p hg h (sC5_k h5 (fun k k0 k1 => Or.inr ?_))
      unfold sAddP
      rw [if_neg (by omega), if_neg (by omega), if_neg (by omega)]
    · exact h
  · exact h
theorem sC5_ade {f t c w : Int} (h5 : sC5 σ) (b1 : f ≤ 50) (b2 : t ≤ 50) (b3 : c ≤ 50) (b4 : w ≤ 50) (h2 : 0 ≤ σ 2) : sC5 (sAddE σ f t c w) := sC5_k h5 (fun k k0 k1 => by
  unfold sAddE
  rw [if_neg (by omega)]
  by_cases c1 : k = 16 + 11 * σ 2
  · rw [if_pos c1]; exact Or.inl b1
  · rw [if_neg c1]
    by_cases c2 : k = 17 + 11 * σ 2
    · rw [if_pos c2]; exact Or.inl b2
    · rw [if_neg c2]
      by_cases c3 : k = 18 + 11 * σ 2
      · rw [if_pos c3]; exact Or.inl b4
      · rw [if_neg c3]
        by_cases c4 : 19 + 11 * σ 2 ≤ k ∧ k < 27 + 11 * σ 2
        · rw [if_pos c4]; exact Or.inl b3
        · rw [if_neg c4]; exact Or.inr rfl)
theorem sC5_adi {p y c rt ls : Int} (h5 : sC5 σ) (h3 : 0 ≤ σ 3) : sC5 (sAddI σ p y c rt ls) := sC5_k h5 (fun k k0 k1 => Or.inr (by
  unfold sAddI
  rw [if_neg (by omega), if_neg (by omega), if_neg (by omega), if_neg (by omega), if_neg (by omega), if_neg (by omega)]))
theorem c5_7 {a c v w : Int} (hg : gWf G) (h : gC5 G) : gC5 (r7 G a c v w).2 := by
  have hb := (gO_w hg).1.1
  have h5 := gC5_o hg h
  unfold r7
  split
  · rename_i c1
    split
    · rename_i c2
      split
      · exact gC5_p hg h (sC5_ade h5 (by omega) (by omega) (by omega) (by omega) (by omega))
      · exact h
    · exact h
  · exact h
theorem c5_8 {a c v : Int} (hg : gWf G) (h : gC5 G) : gC5 (r8 G a c v).2 := by
  have h5 := gC5_o hg h
  unfold r8
  split
  · split
    · rename_i c2
      split
      · exact gC5_p hg h (sC5_u h5 (Or.inr (Or.inr c2.2.2)))
      · exact h
    · exact h
  · exact h
theorem c5_9 {a c v : Int} (hg : gWf G) (h : gC5 G) : gC5 (r9 G a c v).2 := by
  have hb := (gO_w hg).1.1
  have h5 := gC5_o hg h
  unfold r9
  split
  · split
    · split
      · exact gC5_p hg h (sC5_adi h5 (by omega))
      · exact h
    · exact h
  · exact h
theorem sC5_ask {i f l v : Int} (h5 : sC5 σ) (i0 : 0 ≤ i) (f0 : 0 ≤ f) : sC5 (sAskR σ i f l v) := sC5_k h5 (fun k k0 k1 => Or.inr (if_neg (by omega)))
theorem sC5_dcr {i n : Int} {tk : Int → Int} (h5 : sC5 σ) (i0 : 0 ≤ i) : sC5 (sDcr σ i n tk) := sC5_k h5 (fun k k0 k1 => Or.inr (by
  unfold sDcr
  rw [if_neg (by omega), if_neg (by omega)]))
theorem c5_10 {a f l v : Int} (hg : gWf G) (h : gC5 G) : gC5 (r10 G a f l v).2 := by
  have h5 := gC5_o hg h
  unfold r10
  split
  · rename_i c1
    split
    · rename_i c2
      split
      · exact gC5_p hg h (sC5_ask h5 c1.1 c2.1.1)
      · exact h
    · exact h
  · exact h
theorem c5_11 {a : Int} (hg : gWf G) (h : gC5 G) : gC5 (r11 G a).2 := by
  have h5 := gC5_o hg h
  unfold r11
  split
  · rename_i c1
    split
    · by_cases c3 : zSo1 ((G.2.2 1)) ((G.1 2))
      · rw [if_pos c3]
        exact gC5_p (gWf_cl hg) (gC5_cl hg h) (sC5_dcr h5 c1.1)
      · rw [if_neg c3]
        exact gC5_cl hg h
    · exact h
  · exact h
theorem c5_12 {a : Int} (hg : gWf G) (h : gC5 G) : gC5 (r12 G a).2 := by
  have h5 := gC5_o hg h
  unfold r12
  split
  · split
    · exact gC5_p hg h (sC5_u h5 (Or.inr (by omega)))
    · exact h
  · exact h
theorem c5_13 {a c : Int} (hg : gWf G) (h : gC5 G) : gC5 (r13 G a c).2 := by
  have h5 := gC5_o hg h
  unfold r13
  split
  · split
    · split
      · exact gC5_p hg h (sC5_u h5 (Or.inr (by omega)))
      · exact h
    · exact h
  · exact h
theorem c5_14 {i p a f l : Int} (hg : gWf G) (h : gC5 G) : gC5 (r14 G i p a f l).2 := by
  have hb := (gO_w hg).1.1
  have h5 := gC5_o hg h
  unfold r14
  split
  · rename_i c1
    by_cases c2 : zRg a f l
    · rw [if_pos c2]
      have c2' := c2.2
      by_cases c3 : ((G.2.1 (G.1 1) (G.1 (10 + G.1 1))) 0 ≤ f ∧ zCan ((G.2.1 (G.1 1) (G.1 (10 + G.1 1)))) i a f l) ∧ sInj ((G.2.1 (G.1 1) (G.1 (10 + G.1 1)))) i p a f l = -1
      · rw [if_pos c3]
        refine gC5_p hg h (sC5_k h5 (fun k k0 k1 => Or.inr ?_))
        unfold sLs sAddI
        rw [if_neg (by omega), if_neg (by omega), if_neg (by omega), if_neg (by omega), if_neg (by omega), if_neg (by omega), if_neg (by omega), if_neg (by omega)]
      · rw [if_neg c3]; exact h
    · rw [if_neg c2]; exact h
  · exact h
theorem c5_15 {s a c v : Int} (hg : gWf G) (h : gC5 G) : gC5 (r15 G s a c v).2 := by
  have h5 := gC5_o hg h
  unfold r15
  split
  · split
    · split
      · exact gC5_p hg h (sC5_u h5 (Or.inr (by omega)))
      · exact h
    · exact h
  · exact h
theorem c5_16 {a v : Int} (hg : gWf G) (h : gC5 G) : gC5 (r16 G a v).2 := by
  have hb := (gO_w hg).1.1
  have h5 := gC5_o hg h
  unfold r16
  split
  · split
    · split
      · refine gC5_p hg h (sC5_k h5 (fun k k0 k1 => Or.inr ?_))
        unfold sGau
        rw [if_neg (by omega)]
      · exact h
    · exact h
  · exact h
theorem c5_17 {a v : Int} (hg : gWf G) (h : gC5 G) : gC5 (r17 G a v).2 := by
  have hb := (gO_w hg).1.1
  have h5 := gC5_o hg h
  unfold r17
  split
  · split
    · split
      · exact gC5_p hg h (sC5_u h5 (by omega))
      · exact h
    · exact h
  · exact h
theorem c5_18 (hg : gWf G) (h : gC5 G) : gC5 (r18 G).2 := by
  have hb := (gO_w hg).1.1
  have h5 := gC5_o hg h
  unfold r18
  split
  · exact gC5_p hg h (sC5_k h5 (fun k k0 k1 => Or.inr (p_lo (by omega) (by omega) (by omega))))
  · exact h
theorem c5_19 (hg : gWf G) (h : gC5 G) : gC5 (r19 G).2 := by
  unfold r19
  split
  · exact h
  · exact gC5_s hg h (gMv_N hg) (fun k k0 k1 => gMv_E hg k0 k1) (fun _ _ => rfl)
theorem c5_20 (hg : gWf G) (h : gC5 G) : gC5 (r20 G).2 := by
  unfold r20
  split
  · exact h
  · exact gC5_s hg h (gMv_N hg) (fun k k0 k1 => gMv_E hg k0 k1) (fun _ _ => rfl)
theorem c5_21 (hg : gWf G) (h : gC5 G) : gC5 (r21 G).2 := by
  unfold r21
  split
  · rename_i hn
    intro k j k0 k1 j0 j1
    have gE0 := (hg.2.2.1 ((G.1 0)) (by have := hg.1; omega) hn).2 (Int.le_refl _)
    rw [gBr_N] at k1
    rw [show ((gBr G).1 (20 + k)) = (G.1 (20 + k)) from gBr_1 (by omega)] at j1
    by_cases c : k = (G.1 0)
    · rw [c, gE0] at j1
      rw [gBr_0 c (by omega)]; exact gC5_o hg h
    · rw [gBr_S c]; exact h k j k0 (by omega) j0 j1
  · exact h
theorem c5_22 {a : Int} (hg : gWf G) (h : gC5 G) : gC5 (r22 G a).2 := by
  unfold r22
  split
  · exact gC5_s hg h (gSet_1 (by decide)) (fun k k0 k1 => gSet_1 (by omega)) (fun _ _ => rfl)
  · exact h
theorem c5_43 {a c : Int} (h : gC5 G) : gC5 (r43 G a c).2 := by
  unfold r43
  split <;> exact h
theorem c5_44 {p w v : Int} (h : gC5 G) : gC5 (r44 G p w v).2 := by
  unfold r44
  repeat' split
  all_goals exact h
theorem c5_45 (h : gC5 G) : gC5 (r45 G).2 := h
end WR
section WS
variable {tx : Int → Int} {N t : Int} {σ : sT}
theorem qW_5 {r : Int} : ∀ (n : Nat) (σ : sT) (t : Int), sC5 σ → (qWk tx N r n σ t).1 = 1 → sC5 (qWk tx N r n σ t).2.2
  | 0, σ, t, hw, _ => hw
  | n + 1, σ, t, hw, h => by
    have e0 : qWk tx N r (n + 1) σ t = if zK tx N t = 17 then qNum tx N 0 7 (t + 1) (fun w => qNum tx N 0 50 (t + 2) (fun c => qWk tx N r n (zU σ (19 + 11 * r + w) c) (t + 3))) else (1, t, σ) := rfl
    rw [e0] at h ⊢
    by_cases c : zK tx N t = 17
    · rw [if_pos c] at h ⊢
      obtain ⟨w, hw1, e⟩ := qN_x h
      rw [e] at h ⊢
      obtain ⟨v, hv1, e⟩ := qN_x h
      rw [e] at h ⊢
      exact qW_5 n _ _ (sC5_u hw (Or.inr (Or.inr hv1.2))) h
    · rw [if_neg c] at h ⊢
      exact hw
theorem qP_5 {i : Int} (i0 : 0 ≤ i) : ∀ (n : Nat) (σ : sT) (t : Int), sC5 σ → (qPa tx N i n σ t).1 = 1 → sC5 (qPa tx N i n σ t).2.2
  | 0, σ, t, hw, _ => hw
  | n + 1, σ, t, hw, h => by
    rw [qPa_e] at h ⊢
    by_cases c19 : zK tx N t = 19
    · rw [if_pos c19] at h ⊢
      obtain ⟨v, hv, e⟩ := qN_x h
      rw [e] at h ⊢
      exact qP_5 i0 n _ _ (sC5_u hw (by omega)) h
    · rw [if_neg c19] at h ⊢
      by_cases c20 : zK tx N t = 20
      · rw [if_pos c20] at h ⊢
        obtain ⟨f, hf, e⟩ := qN_x h
        rw [e] at h ⊢
        obtain ⟨l, hl, e⟩ := qN_x h
        rw [e] at h ⊢
        obtain ⟨a, ha, e⟩ := qN_x h
        rw [e] at h ⊢
        exact qP_5 i0 n _ _ (sC5_ask hw i0 hf.1) h
      · rw [if_neg c20] at h ⊢
        by_cases c21 : zK tx N t = 21
        · rw [if_pos c21] at h ⊢
          by_cases cn : (zDr tx N (t + 1)).1 = none
          · rw [if_pos cn] at h
            exact absurd (show (0 : Int) = 1 from h) (by decide)
          · rw [if_neg cn] at h ⊢
            exact qP_5 i0 n _ _ (sC5_dcr hw i0) h
        · rw [if_neg c21] at h ⊢
          exact hw
theorem qF_5 {s p : Int} (s0 : 0 ≤ s) (p0 : 0 ≤ p) : ∀ (n : Nat) (w : Int) (σ : sT) (t : Int), 0 ≤ w → sC5 σ → (qFl tx N s p n w σ t).1 = 1 → sC5 (qFl tx N s p n w σ t).2.2
  | 0, w, σ, t, _, hw, _ => hw
  | n + 1, w, σ, t, w0, hw, h => by
    have e0 : qFl tx N s p (n + 1) w σ t = if zK tx N t = 2 then qNum tx N 0 40 t (fun a => qFl tx N s p n (w + 1) (zU σ (115 + 48 * s + 8 * p + w) a) (t + 1)) else (1, t, σ) := rfl
    rw [e0] at h ⊢
    by_cases c : zK tx N t = 2
    · rw [if_pos c] at h ⊢
      obtain ⟨a, ha, e⟩ := qN_x h
      rw [e] at h ⊢
      exact qF_5 s0 p0 n (w + 1) _ _ (by omega) (sC5_u hw (by omega)) h
    · rw [if_neg c] at h ⊢
      exact hw
theorem qS_5 (hz : sWz σ) (hw : sC5 σ) (h : (qSt tx N σ t).1 = 1) : sC5 (qSt tx N σ t).2.2 := by
  have hb := hz.1.1
  unfold qSt at h ⊢
  by_cases c15 : zK tx N t = 15 ∧ σ 1 < 6
  · rw [if_pos c15] at h ⊢
    unfold qPl at h ⊢
    obtain ⟨c, hc, e⟩ := qN_x h
    rw [e] at h ⊢
    obtain ⟨s, hs, e⟩ := qN_x h
    rw [e]
    refine sC5_k hw (fun k k0 k1 => Or.inr ?_)
    show sAddP σ c s k = σ k
    unfold sAddP
    rw [if_neg (by omega), if_neg (by omega), if_neg (by omega)]
  · rw [if_neg c15] at h ⊢
    by_cases c16 : zK tx N t = 16 ∧ σ 2 < 9
    · rw [if_pos c16] at h ⊢
      unfold qRe at h ⊢
      obtain ⟨f, hf, e⟩ := qN_x h
      rw [e] at h ⊢
      by_cases cf : zK tx N (t + 1 + 1) = 2 ∧ zV tx N (t + 1 + 1) = f
      · rw [if_pos cf] at h
        exact absurd (show (0 : Int) = 1 from h) (by decide)
      · rw [if_neg cf] at h ⊢
        obtain ⟨g, hg, e⟩ := qN_x h
        rw [e] at h ⊢
        obtain ⟨c, hc, e⟩ := qN_x h
        rw [e] at h ⊢
        obtain ⟨w, hw2, e⟩ := qN_x h
        rw [e] at h ⊢
        exact qW_5 900 _ _ (sC5_ade hw (by omega) (by omega) (by omega) (by omega) (by omega)) h
    · rw [if_neg c16] at h ⊢
      by_cases c18 : zK tx N t = 18 ∧ σ 3 < 10
      · rw [if_pos c18] at h ⊢
        unfold qRi at h ⊢
        obtain ⟨p, hp, e⟩ := qN_x h
        rw [e] at h ⊢
        obtain ⟨y, hy, e⟩ := qN_x h
        rw [e] at h ⊢
        obtain ⟨c, hc, e⟩ := qN_x h
        rw [e] at h ⊢
        exact qP_5 (by omega) 900 _ _ (sC5_adi hw (by omega)) h
      · rw [if_neg c18] at h ⊢
        by_cases c22 : zK tx N t = 22
        · rw [if_pos c22] at h ⊢
          unfold qIn at h ⊢
          obtain ⟨s, hs, e⟩ := qN_x h
          rw [e] at h ⊢
          obtain ⟨p, hp, e⟩ := qN_x h
          rw [e] at h ⊢
          obtain ⟨a, ha, e⟩ := qN_x h
          rw [e] at h ⊢
          exact qF_5 hs.1 hp.1 7 1 _ _ (by decide) (sC5_u hw (by omega)) h
        · rw [if_neg c22] at h
          exact absurd (show (0 : Int) = 1 from h) (by decide)
theorem qB_5 (n0 : 0 ≤ N) (n9 : N ≤ 900) : ∀ (n : Nat) (σ : sT) (t : Int), sWz σ → sC5 σ → (qBs tx N n σ t).1 = 1 → sC5 (qBs tx N n σ t).2.2
  | 0, σ, t, hz, hw, h => by
    have e : qBs tx N 0 σ t = if zK tx N t = 0 then (1, t, σ) else (0, t, fun _ => 0) := rfl
    rw [e] at h ⊢
    by_cases c : zK tx N t = 0
    · rw [if_pos c]; exact hw
    · rw [if_neg c] at h
      exact absurd (show (0 : Int) = 1 from h) (by decide)
  | n + 1, σ, t, hz, hw, h => by
    rw [qBs_e] at h ⊢
    by_cases c : zK tx N t = 0
    · rw [if_pos c]; exact hw
    · rw [if_neg c] at h ⊢
      by_cases c1 : (qSt tx N σ t).1 = 1
      · rw [if_pos c1] at h ⊢
        by_cases c3 : zK tx N (qSt tx N σ t).2.1 = 3
        · rw [if_pos c3] at h ⊢
          exact qB_5 n0 n9 n _ _ (qS_p n0 n9 hz c1) (qS_5 hz hw c1) h
        · rw [if_neg c3] at h
          exact absurd (show (0 : Int) = 1 from h) (by decide)
      · rw [if_neg c1] at h
        exact absurd (show (0 : Int) = 1 from h) (by decide)
theorem qTop_5 (n0 : 0 ≤ N) (n9 : N ≤ 900) (h : (qTop tx N).1 = 1) : sC5 (qTop tx N).2.2 := by
  unfold qTop at h ⊢
  by_cases c1 : zK tx N 0 = 14
  · rw [if_pos c1] at h ⊢
    by_cases c2 : zK tx N 1 = 3
    · rw [if_pos c2] at h ⊢
      exact qB_5 n0 n9 900 _ _ ⟨sWf_0, sZ_0⟩ (fun r j _ _ _ _ => by show (0 : Int) ≤ 50; decide) h
    · rw [if_neg c2] at h
      exact absurd (show (0 : Int) = 1 from h) (by decide)
  · rw [if_neg c1] at h
    exact absurd (show (0 : Int) = 1 from h) (by decide)
theorem c5_2 {G : gT} (hg : gWf G) (h : gC5 G) : gC5 (r2 G).2 := by
  have tb := hg.2.2.2.2.1.1
  unfold r2
  split
  · rename_i c1
    exact gC5_p (gWf_cl hg) (gC5_cl hg h) (qTop_5 tb.1 tb.2 c1)
  · exact gC5_cl hg h
end WS
