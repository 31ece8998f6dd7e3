/-! The ghost stays well formed. -/
section ZC
variable {G : gT}
theorem w_19 (hg : gWf G) : gWf (r19 G).2 := by
  unfold r19
  split
  · exact hg
  · exact gWf_mv hg (Or.inl ⟨rfl, by assumption⟩)
theorem w_20 (hg : gWf G) : gWf (r20 G).2 := by
  unfold r20
  split
  · exact hg
  · exact gWf_mv hg (Or.inr ⟨rfl, by assumption⟩)
theorem w_21 (hg : gWf G) : gWf (r21 G).2 := by
  unfold r21
  split
  · exact gWf_br hg (by assumption)
  · exact hg
theorem w_22 {a : Int} (hg : gWf G) : gWf (r22 G a).2 := by
  unfold r22
  split
  · rename_i c; exact gWf_22 hg c.1 c.2
  · exact hg
theorem w_23 {a : Int} (hg : gWf G) : gWf (r23 G a).2 := by unfold r23; split <;> exact hg
theorem w_28 {a c : Int} (hg : gWf G) : gWf (r28 G a c).2 := by
  unfold r28
  repeat' split
  all_goals exact hg
theorem w_29 {s a c : Int} (hg : gWf G) : gWf (r29 G s a c).2 := by
  unfold r29
  repeat' split
  all_goals exact hg
theorem w_30 {s a c : Int} (hg : gWf G) : gWf (r30 G s a c).2 := by
  unfold r30
  repeat' split
  all_goals exact hg
theorem w_31 {s a c : Int} (hg : gWf G) : gWf (r31 G s a c).2 := by
  unfold r31
  repeat' split
  all_goals exact hg
theorem w_32 {a : Int} (hg : gWf G) : gWf (r32 G a).2 := by unfold r32; split <;> exact hg
theorem w_33 {a : Int} (hg : gWf G) : gWf (r33 G a).2 := by unfold r33; split <;> exact hg
theorem w_34 {a : Int} (hg : gWf G) : gWf (r34 G a).2 := by unfold r34; split <;> exact hg
theorem w_35 {s a c : Int} (hg : gWf G) : gWf (r35 G s a c).2 := by
  unfold r35
  repeat' split
  all_goals exact hg
theorem w_36 {a : Int} (hg : gWf G) : gWf (r36 G a).2 := by unfold r36; split <;> exact hg
theorem w_37 {a c : Int} (hg : gWf G) : gWf (r37 G a c).2 := by
  unfold r37
  repeat' split
  all_goals exact hg
theorem w_38 {a c : Int} (hg : gWf G) : gWf (r38 G a c).2 := by
  unfold r38
  repeat' split
  all_goals exact hg
theorem w_39 {a c : Int} (hg : gWf G) : gWf (r39 G a c).2 := by
  unfold r39
  repeat' split
  all_goals exact hg
theorem w_40 {a c : Int} (hg : gWf G) : gWf (r40 G a c).2 := by
  unfold r40
  repeat' split
  all_goals exact hg
theorem w_42 {a c : Int} (hg : gWf G) : gWf (r42 G a c).2 := by unfold r42; split <;> exact hg
theorem w_43 {a c : Int} (hg : gWf G) : gWf (r43 G a c).2 := by
  unfold r43
  split
  · exact gWf_m hg (fun v _ _ => gSw_b)
  · exact hg
theorem w_44 {p w v : Int} (hg : gWf G) (hv : v = 0 ∨ v = 1) : gWf (r44 G p w v).2 := by
  unfold r44
  split
  · split
    · refine gWf_m hg (fun u u0 u1 => ?_)
      unfold zU
      split
      · exact hv
      · exact hg.2.2.2.2.2.1 u u0 u1
    · exact hg
  · exact hg
theorem w_45 (hg : gWf G) : gWf (r45 G).2 := gWf_m hg (fun _ _ _ => Or.inl rfl)
theorem w_46 {p w : Int} (hg : gWf G) : gWf (r46 G p w).2 := by
  unfold r46
  repeat' split
  all_goals exact hg
theorem w_48 {a c : Int} (hg : gWf G) : gWf (r48 G a c).2 := by
  unfold r48
  repeat' split
  all_goals exact hg
theorem w_5 {a : Int} (hg : gWf G) : gWf (r5 G a).2 := by unfold r5; split <;> exact hg
theorem sZ_u {σ : sT} (h : sZ σ) {c v : Int} (c0 : 0 ≤ c) (c1 : c < 1395) : sZ (zU σ c v) := zU_Z h c0 c1
theorem w_10 {a f l v : Int} (hg : gWf G) : gWf (r10 G a f l v).2 := by
  have hw := (gO_w hg).1
  have hz := (gO_w hg).2
  have hb := hw.1
  unfold r10
  split
  · rename_i c1
    split
    · rename_i c2
      split
      · exact gWf_push hg (sWf_ask hw c1.1 c1.2 c2.1.1 c2.1.2.2 c2.2.1 c2.2.2) (sZ_ask hz c1.1 (by omega) c2.1.1 c2.1.2.2)
      · exact hg
    · exact hg
  · exact hg
theorem w_12 {a : Int} (hg : gWf G) : gWf (r12 G a).2 := by
  have hw := (gO_w hg).1
  have hz := (gO_w hg).2
  have hb := hw.1
  unfold r12
  split
  · rename_i c1
    split
    · exact gWf_push hg (sWf_cell hw c1.1 c1.2 (Or.inr ⟨rfl, by decide, by decide⟩)) (sZ_u hz (by omega) (by omega))
    · exact hg
  · exact hg
theorem w_13 {a c : Int} (hg : gWf G) : gWf (r13 G a c).2 := by
  have hw := (gO_w hg).1
  have hz := (gO_w hg).2
  have hb := hw.1
  unfold r13
  split
  · rename_i c1
    have h9 := (hw.2.2.2.2.1 a c1.1 c1.2).2.2.2.1
    split
    · rename_i c2
      split
      · rename_i c3
        exact gWf_push hg (sWf_cell hw c1.1 c1.2 (Or.inl ⟨rfl, by omega, by omega⟩)) (sZ_u hz (by omega) (by omega))
      · exact hg
    · exact hg
  · exact hg
theorem w_15 {s a c v : Int} (hg : gWf G) : gWf (r15 G s a c v).2 := by
  have hw := (gO_w hg).1
  have hz := (gO_w hg).2
  have hb := hw.1
  unfold r15
  split
  · rename_i c1
    split
    · rename_i c2
      split
      · exact gWf_push hg (sWf_inf hw c1.1.1 c1.1.2 c1.2.1 c1.2.2 c2.1.1 c2.1.2 c2.2.1 c2.2.2) (sZ_u hz (by omega) (by omega))
      · exact hg
    · exact hg
  · exact hg
theorem w_16 {a v : Int} (hg : gWf G) : gWf (r16 G a v).2 := by
  have hw := (gO_w hg).1
  have hz := (gO_w hg).2
  have hb := hw.1
  unfold r16
  split
  · rename_i c1
    split
    · rename_i c2
      split
      · rename_i c3
        exact gWf_push hg (sWf_gau hw c1.1 c1.2 (by omega) c2.1 c2.2) (sZ_gau hz hw c1.1 c1.2 (by omega))
      · exact hg
    · exact hg
  · exact hg
theorem w_17 {a v : Int} (hg : gWf G) : gWf (r17 G a v).2 := by
  have hw := (gO_w hg).1
  have hz := (gO_w hg).2
  have hb := hw.1
  unfold r17
  split
  · rename_i c1
    split
    · rename_i c2
      split
      · have h9 := (sWf_P hw c1.1 (by omega)).1
        exact gWf_push hg (sWf_mea hw c1.1 c1.2 c2.1 (by omega)) (sZ_u hz (by omega) (by omega))
      · exact hg
    · exact hg
  · exact hg
theorem w_8 {a c v : Int} (hg : gWf G) : gWf (r8 G a c v).2 := by
  have hw := (gO_w hg).1
  have hz := (gO_w hg).2
  have hb := hw.1
  unfold r8
  split
  · rename_i c1
    split
    · rename_i c2
      split
      · exact gWf_push hg (sWf_cap hw c1.1 c1.2 c2.1.1 c2.1.2 c2.2.1 (by omega)) (sZ_u hz (by omega) (by omega))
      · exact hg
    · exact hg
  · exact hg
theorem w_6 {a c : Int} (hg : gWf G) : gWf (r6 G a c).2 := by
  have hw := (gO_w hg).1
  have hz := (gO_w hg).2
  unfold r6
  split
  · rename_i c1
    split
    · rename_i c2
      exact gWf_push hg (sWf_adp hw c2 c1.1.1 c1.1.2 c1.2.1 c1.2.2) (sZ_adp hz hw c2)
    · exact hg
  · exact hg
theorem w_7 {a c v w : Int} (hg : gWf G) : gWf (r7 G a c v w).2 := by
  have hw := (gO_w hg).1
  have hz := (gO_w hg).2
  unfold r7
  split
  · rename_i c1
    split
    · rename_i c2
      split
      · rename_i c3
        exact gWf_push hg (sWf_ade hw c3 c1.1.1 c1.1.2 c1.2.1 c1.2.2 c2.1 c2.2.1.1 c2.2.1.2 c2.2.2.1 c2.2.2.2) (sZ_ade hz hw c3)
      · exact hg
    · exact hg
  · exact hg
theorem w_9 {a c v : Int} (hg : gWf G) : gWf (r9 G a c v).2 := by
  have hw := (gO_w hg).1
  have hz := (gO_w hg).2
  have hb := hw.1
  unfold r9
  split
  · rename_i c1
    split
    · rename_i c2
      split
      · rename_i c3
        exact gWf_push hg (sWf_adi hw c3 c1.1 c1.2 c2.1.1 c2.1.2 c2.2.1 c2.2.2 (by omega) c3 (by decide) (by decide)) (sZ_adi hz hw c3)
      · exact hg
    · exact hg
  · exact hg
end ZC
