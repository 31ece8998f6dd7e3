/-! What a call answers: a number or one of its exceptions. -/
section LZ
variable {G : gT}
theorem nSc_m {σ : sT} {a c : Int} (h : ¬ nSc σ a c = 9) : nSc σ a c ∈ [2, 1, 3] := by
  unfold nSc at h ⊢
  by_cases c1 : 0 ≤ a ∧ a < σ 3
  · rw [if_pos c1] at h ⊢
    by_cases c2 : 0 ≤ c ∧ c < 8
    · rw [if_pos c2] at h ⊢
      by_cases c3 : σ 0 ≤ c ∧ sAm σ 0 a c < sAk σ 0 a c
      · rw [if_pos c3] at h; exact absurd rfl h
      · rw [if_neg c3]; decide
    · rw [if_neg c2]; decide
  · rw [if_neg c1]; decide
theorem zk_0 {a b c d e : Int} : zOk [0] (r0 G a b c d e).1 := by
  unfold r0
  repeat' split
  all_goals first | exact Or.inl ⟨_, rfl⟩ | exact Or.inr ⟨_, by decide, rfl⟩
theorem zs_1 : ∃ u : Int, (r1 G).1 = .inl (some (mI u)) := by
  unfold r1
  repeat' split
  all_goals exact ⟨_, rfl⟩
theorem zk_2 : zOk [1] (r2 G).1 := by
  unfold r2
  repeat' split
  all_goals first | exact Or.inl ⟨_, rfl⟩ | exact Or.inr ⟨_, by decide, rfl⟩
theorem zs_3 : ∃ u : Int, (r3 G).1 = .inl (some (mI u)) := by
  unfold r3
  repeat' split
  all_goals exact ⟨_, rfl⟩
theorem zs_4 : ∃ u : Int, (r4 G).1 = .inl (some (mI u)) := by
  unfold r4
  repeat' split
  all_goals exact ⟨_, rfl⟩
theorem zk_5 {a : Int} : zOk [2] (r5 G a).1 := by
  unfold r5
  repeat' split
  all_goals first | exact Or.inl ⟨_, rfl⟩ | exact Or.inr ⟨_, by decide, rfl⟩
theorem zk_6 {a c : Int} : zOk [1, 0] (r6 G a c).1 := by
  unfold r6
  repeat' split
  all_goals first | exact Or.inl ⟨_, rfl⟩ | exact Or.inr ⟨_, by decide, rfl⟩
theorem zk_7 {a c v w : Int} : zOk [2, 1, 0] (r7 G a c v w).1 := by
  unfold r7
  repeat' split
  all_goals first | exact Or.inl ⟨_, rfl⟩ | exact Or.inr ⟨_, by decide, rfl⟩
theorem zk_8 {a c v : Int} : zOk [2, 1, 0] (r8 G a c v).1 := by
  unfold r8
  repeat' split
  all_goals first | exact Or.inl ⟨_, rfl⟩ | exact Or.inr ⟨_, by decide, rfl⟩
theorem zk_9 {a c v : Int} : zOk [2, 1, 0] (r9 G a c v).1 := by
  unfold r9
  repeat' split
  all_goals first | exact Or.inl ⟨_, rfl⟩ | exact Or.inr ⟨_, by decide, rfl⟩
theorem zk_10 {a f l v : Int} : zOk [2, 1, 0] (r10 G a f l v).1 := by
  unfold r10
  repeat' split
  all_goals first | exact Or.inl ⟨_, rfl⟩ | exact Or.inr ⟨_, by decide, rfl⟩
theorem zk_11 {a : Int} : zOk [2, 0, 1] (r11 G a).1 := by
  unfold r11
  repeat' split
  all_goals first | exact Or.inl ⟨_, rfl⟩ | exact Or.inr ⟨_, by decide, rfl⟩
theorem zk_12 {a : Int} : zOk [2, 0] (r12 G a).1 := by
  unfold r12
  repeat' split
  all_goals first | exact Or.inl ⟨_, rfl⟩ | exact Or.inr ⟨_, by decide, rfl⟩
theorem zk_13 {a c : Int} : zOk [2, 1, 0] (r13 G a c).1 := by
  unfold r13
  repeat' split
  all_goals first | exact Or.inl ⟨_, rfl⟩ | exact Or.inr ⟨_, by decide, rfl⟩
theorem zk_14 {i p a f l : Int} : zOk [2, 1, 0] (r14 G i p a f l).1 := by
  unfold r14
  repeat' split
  all_goals first | exact Or.inl ⟨_, rfl⟩ | exact Or.inr ⟨_, by decide, rfl⟩
theorem zk_15 {s a c v : Int} : zOk [2, 1, 0] (r15 G s a c v).1 := by
  unfold r15
  repeat' split
  all_goals first | exact Or.inl ⟨_, rfl⟩ | exact Or.inr ⟨_, by decide, rfl⟩
theorem zk_16 {a v : Int} : zOk [2, 1, 0] (r16 G a v).1 := by
  unfold r16
  repeat' split
  all_goals first | exact Or.inl ⟨_, rfl⟩ | exact Or.inr ⟨_, by decide, rfl⟩
theorem zk_17 {a v : Int} : zOk [2, 1, 0] (r17 G a v).1 := by
  unfold r17
  repeat' split
  all_goals first | exact Or.inl ⟨_, rfl⟩ | exact Or.inr ⟨_, by decide, rfl⟩
theorem zk_18 : zOk [0] (r18 G).1 := by
  unfold r18
  repeat' split
  all_goals first | exact Or.inl ⟨_, rfl⟩ | exact Or.inr ⟨_, by decide, rfl⟩
theorem zs_19 : ∃ u : Int, (r19 G).1 = .inl (some (mI u)) := by
  unfold r19
  repeat' split
  all_goals exact ⟨_, rfl⟩
theorem zs_20 : ∃ u : Int, (r20 G).1 = .inl (some (mI u)) := by
  unfold r20
  repeat' split
  all_goals exact ⟨_, rfl⟩
theorem zk_21 : zOk [0] (r21 G).1 := by
  unfold r21
  repeat' split
  all_goals first | exact Or.inl ⟨_, rfl⟩ | exact Or.inr ⟨_, by decide, rfl⟩
theorem zk_22 {a : Int} : zOk [2] (r22 G a).1 := by
  unfold r22
  repeat' split
  all_goals first | exact Or.inl ⟨_, rfl⟩ | exact Or.inr ⟨_, by decide, rfl⟩
theorem zk_23 {a : Int} : zOk [2] (r23 G a).1 := by
  unfold r23
  repeat' split
  all_goals first | exact Or.inl ⟨_, rfl⟩ | exact Or.inr ⟨_, by decide, rfl⟩
theorem zs_24 : ∃ u : Int, (r24 G).1 = .inl (some (mI u)) := by
  unfold r24
  repeat' split
  all_goals exact ⟨_, rfl⟩
theorem zs_25 : ∃ u : Int, (r25 G).1 = .inl (some (mI u)) := by
  unfold r25
  repeat' split
  all_goals exact ⟨_, rfl⟩
theorem zs_26 : ∃ u : Int, (r26 G).1 = .inl (some (mI u)) := by
  unfold r26
  repeat' split
  all_goals exact ⟨_, rfl⟩
theorem zs_27 : ∃ u : Int, (r27 G).1 = .inl (some (mI u)) := by
  unfold r27
  repeat' split
  all_goals exact ⟨_, rfl⟩
theorem zk_28 {a c : Int} : zOk [2, 1] (r28 G a c).1 := by
  unfold r28
  repeat' split
  all_goals first | exact Or.inl ⟨_, rfl⟩ | exact Or.inr ⟨_, by decide, rfl⟩
theorem zk_29 {s a c : Int} : zOk [2, 1] (r29 G s a c).1 := by
  unfold r29
  repeat' split
  all_goals first | exact Or.inl ⟨_, rfl⟩ | exact Or.inr ⟨_, by decide, rfl⟩
theorem zk_30 {s a c : Int} : zOk [2, 1] (r30 G s a c).1 := by
  unfold r30
  repeat' split
  all_goals first | exact Or.inl ⟨_, rfl⟩ | exact Or.inr ⟨_, by decide, rfl⟩
theorem zk_31 {s a c : Int} : zOk [2, 1, 3] (r31 G s a c).1 := by
  unfold r31
  repeat' split
  all_goals first | exact Or.inl ⟨_, rfl⟩ | exact Or.inr ⟨_, by decide, rfl⟩
theorem zk_32 {a : Int} : zOk [2] (r32 G a).1 := by
  unfold r32
  repeat' split
  all_goals first | exact Or.inl ⟨_, rfl⟩ | exact Or.inr ⟨_, by decide, rfl⟩
theorem zk_33 {a : Int} : zOk [2] (r33 G a).1 := by
  unfold r33
  repeat' split
  all_goals first | exact Or.inl ⟨_, rfl⟩ | exact Or.inr ⟨_, by decide, rfl⟩
theorem zk_34 {a : Int} : zOk [2] (r34 G a).1 := by
  unfold r34
  repeat' split
  all_goals first | exact Or.inl ⟨_, rfl⟩ | exact Or.inr ⟨_, by decide, rfl⟩
theorem zk_35 {s a c : Int} : zOk [2, 1] (r35 G s a c).1 := by
  unfold r35
  repeat' split
  all_goals first | exact Or.inl ⟨_, rfl⟩ | exact Or.inr ⟨_, by decide, rfl⟩
theorem zk_36 {a : Int} : zOk [2] (r36 G a).1 := by
  unfold r36
  repeat' split
  all_goals first | exact Or.inl ⟨_, rfl⟩ | exact Or.inr ⟨_, by decide, rfl⟩
theorem zk_37 {a c : Int} : zOk [2, 1] (r37 G a c).1 := by
  unfold r37
  repeat' split
  all_goals first | exact Or.inl ⟨_, rfl⟩ | exact Or.inr ⟨_, by decide, rfl⟩
theorem zk_38 {a c : Int} : zOk [2, 1] (r38 G a c).1 := by
  unfold r38
  repeat' split
  all_goals first | exact Or.inl ⟨_, rfl⟩ | exact Or.inr ⟨_, by decide, rfl⟩
theorem zk_39 {a c : Int} : zOk [2, 1] (r39 G a c).1 := by
  unfold r39
  repeat' split
  all_goals first | exact Or.inl ⟨_, rfl⟩ | exact Or.inr ⟨_, by decide, rfl⟩
theorem zk_40 {a c : Int} : zOk [2, 1] (r40 G a c).1 := by
  unfold r40
  repeat' split
  all_goals first | exact Or.inl ⟨_, rfl⟩ | exact Or.inr ⟨_, by decide, rfl⟩
theorem zs_41 : ∃ u : Int, (r41 G).1 = .inl (some (mI u)) := by
  unfold r41
  repeat' split
  all_goals exact ⟨_, rfl⟩
theorem zk_42 {a c : Int} : zOk [2, 1, 3] (r42 G a c).1 := by
  unfold r42
  split
  · exact Or.inl ⟨_, rfl⟩
  · rename_i c
    exact Or.inr ⟨_, nSc_m c, rfl⟩
theorem zk_43 {a c : Int} : zOk [2, 1, 3] (r43 G a c).1 := by
  unfold r43
  split
  · exact Or.inl ⟨_, rfl⟩
  · rename_i c
    exact Or.inr ⟨_, nSc_m c, rfl⟩
theorem zk_44 {p w v : Int} : zOk [2, 1] (r44 G p w v).1 := by
  unfold r44
  repeat' split
  all_goals first | exact Or.inl ⟨_, rfl⟩ | exact Or.inr ⟨_, by decide, rfl⟩
theorem zs_45 : ∃ u : Int, (r45 G).1 = .inl (some (mI u)) := by
  unfold r45
  repeat' split
  all_goals exact ⟨_, rfl⟩
theorem zk_46 {p w : Int} : zOk [2, 1] (r46 G p w).1 := by
  unfold r46
  repeat' split
  all_goals first | exact Or.inl ⟨_, rfl⟩ | exact Or.inr ⟨_, by decide, rfl⟩
theorem zs_47 : ∃ u : Int, (r47 G).1 = .inl (some (mI u)) := by
  unfold r47
  repeat' split
  all_goals exact ⟨_, rfl⟩
theorem zk_48 {a c : Int} : zOk [2, 1, 0] (r48 G a c).1 := by
  unfold r48
  repeat' split
  all_goals first | exact Or.inl ⟨_, rfl⟩ | exact Or.inr ⟨_, by decide, rfl⟩
theorem zk_49 {a c : Int} : zOk [2, 1, 0] (r49 G a c).1 := by
  unfold r49
  repeat' split
  all_goals first | exact Or.inl ⟨_, rfl⟩ | exact Or.inr ⟨_, by decide, rfl⟩
theorem zk_50 {a c : Int} : zOk [2, 1, 0] (r50 G a c).1 := by
  unfold r50
  repeat' split
  all_goals first | exact Or.inl ⟨_, rfl⟩ | exact Or.inr ⟨_, by decide, rfl⟩
theorem zk_51 {a c : Int} : zOk [2, 1] (r51 G a c).1 := by
  unfold r51
  repeat' split
  all_goals first | exact Or.inl ⟨_, rfl⟩ | exact Or.inr ⟨_, by decide, rfl⟩
theorem zk_52 {i p a f l : Int} : zOk [2, 1, 0] (r52 G i p a f l).1 := by
  unfold r52
  repeat' split
  all_goals first | exact Or.inl ⟨_, rfl⟩ | exact Or.inr ⟨_, by decide, rfl⟩
theorem zk_53 {i p f l : Int} : zOk [2, 1, 0] (r53 G i p f l).1 := by
  unfold r53
  repeat' split
  all_goals first | exact Or.inl ⟨_, rfl⟩ | exact Or.inr ⟨_, by decide, rfl⟩
theorem zs_56 : ∃ u : Int, (r56 G).1 = .inl (some (mI u)) := by
  unfold r56
  repeat' split
  all_goals exact ⟨_, rfl⟩
theorem zb_44 {p w v u : Int} (hg : gWf G) (hu : (r44 G p w v).1 = .inl (some (mI u))) : u = 0 ∨ u = 1 := by
  unfold r44 at hu
  split at hu
  · rename_i c1
    have hb := (gO_w hg).1.1
    split at hu
    · have h := hg.2.2.2.2.2.1 (8 * p + w) (by omega) (by omega)
      rw [← oV hu]; exact h
    · cases hu
  · cases hu
theorem zb_46 {p w u : Int} (hg : gWf G) (hu : (r46 G p w).1 = .inl (some (mI u))) : u = 0 ∨ u = 1 := by
  unfold r46 at hu
  split at hu
  · rename_i c1
    have hb := (gO_w hg).1.1
    split at hu
    · have h := hg.2.2.2.2.2.1 (8 * p + w) (by omega) (by omega)
      rw [← oV hu]; exact h
    · cases hu
  · cases hu
end LZ
section LC5
variable {G : gT}
theorem c5_3 (h : gC5 G) : gC5 (r3 G).2 := h
theorem c5_5 {a : Int} (h : gC5 G) : gC5 (r5 G a).2 := by
  unfold r5
  repeat' split
  all_goals exact h
theorem c5_23 {a : Int} (h : gC5 G) : gC5 (r23 G a).2 := by
  unfold r23
  repeat' split
  all_goals exact h
theorem c5_24 (h : gC5 G) : gC5 (r24 G).2 := h
theorem c5_25 (h : gC5 G) : gC5 (r25 G).2 := h
theorem c5_26 (h : gC5 G) : gC5 (r26 G).2 := h
theorem c5_27 (h : gC5 G) : gC5 (r27 G).2 := h
theorem c5_28 {a c : Int} (h : gC5 G) : gC5 (r28 G a c).2 := by
  unfold r28
  repeat' split
  all_goals exact h
theorem c5_29 {s a c : Int} (h : gC5 G) : gC5 (r29 G s a c).2 := by
  unfold r29
  repeat' split
  all_goals exact h
theorem c5_30 {s a c : Int} (h : gC5 G) : gC5 (r30 G s a c).2 := by
  unfold r30
  repeat' split
  all_goals exact h
theorem c5_31 {s a c : Int} (h : gC5 G) : gC5 (r31 G s a c).2 := by
  unfold r31
  repeat' split
  all_goals exact h
theorem c5_32 {a : Int} (h : gC5 G) : gC5 (r32 G a).2 := by
  unfold r32
  repeat' split
  all_goals exact h
theorem c5_33 {a : Int} (h : gC5 G) : gC5 (r33 G a).2 := by
  unfold r33
  repeat' split
  all_goals exact h
theorem c5_34 {a : Int} (h : gC5 G) : gC5 (r34 G a).2 := by
  unfold r34
  repeat' split
  all_goals exact h
theorem c5_35 {s a c : Int} (h : gC5 G) : gC5 (r35 G s a c).2 := by
  unfold r35
  repeat' split
  all_goals exact h
theorem c5_36 {a : Int} (h : gC5 G) : gC5 (r36 G a).2 := by
  unfold r36
  repeat' split
  all_goals exact h
theorem c5_37 {a c : Int} (h : gC5 G) : gC5 (r37 G a c).2 := by
  unfold r37
  repeat' split
  all_goals exact h
theorem c5_38 {a c : Int} (h : gC5 G) : gC5 (r38 G a c).2 := by
  unfold r38
  repeat' split
  all_goals exact h
theorem c5_39 {a c : Int} (h : gC5 G) : gC5 (r39 G a c).2 := by
  unfold r39
  repeat' split
  all_goals exact h
theorem c5_40 {a c : Int} (h : gC5 G) : gC5 (r40 G a c).2 := by
  unfold r40
  repeat' split
  all_goals exact h
theorem c5_41 (h : gC5 G) : gC5 (r41 G).2 := h
theorem c5_42 {a c : Int} (h : gC5 G) : gC5 (r42 G a c).2 := by
  unfold r42
  repeat' split
  all_goals exact h
theorem c5_46 {p w : Int} (h : gC5 G) : gC5 (r46 G p w).2 := by
  unfold r46
  repeat' split
  all_goals exact h
theorem c5_47 (h : gC5 G) : gC5 (r47 G).2 := h
theorem c5_48 {a c : Int} (h : gC5 G) : gC5 (r48 G a c).2 := by
  unfold r48
  repeat' split
  all_goals exact h
theorem c5_49 {a c : Int} (h : gC5 G) : gC5 (r49 G a c).2 := by
  unfold r49
  repeat' split
  all_goals exact h
theorem c5_50 {a c : Int} (h : gC5 G) : gC5 (r50 G a c).2 := by
  unfold r50
  repeat' split
  all_goals exact h
theorem c5_51 {a c : Int} (h : gC5 G) : gC5 (r51 G a c).2 := by
  unfold r51
  repeat' split
  all_goals exact h
theorem c5_52 {i p a f l : Int} (h : gC5 G) : gC5 (r52 G i p a f l).2 := by
  unfold r52
  repeat' split
  all_goals exact h
theorem c5_53 {i p f l : Int} (h : gC5 G) : gC5 (r53 G i p f l).2 := by
  unfold r53
  repeat' split
  all_goals exact h
theorem c5_54 (h : gC5 G) : gC5 (r54 G).2 := h
theorem c5_55 (h : gC5 G) : gC5 (r55 G).2 := h
theorem c5_56 (h : gC5 G) : gC5 (r56 G).2 := h
end LC5
