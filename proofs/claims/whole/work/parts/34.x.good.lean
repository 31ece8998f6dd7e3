/-! Every method of the program is checked: a run of the small machine is a run of the machine. -/
theorem mChk_law : mChkM 410 = true := by
  refine List.all_eq_true.mpr (fun b hb => ?_)
  obtain ⟨i, hi⟩ := List.mem_iff_getElem?.mp hb
  have hlen : (mTabOf 410 mTabs).length = 157 := by decide +kernel
  have hlt : i < 157 := by rw [← hlen]; exact (List.getElem?_eq_some_iff.mp hi).1
  have key : ∀ k : Nat, (((mTabOf 410 mTabs).drop k).take 1).all (mChkU 410) = true → i = k → mChkU 410 b = true := fun k h h1 => by
    subst h1
    refine List.all_eq_true.mp h b (List.mem_of_getElem? (i := 0) ?_)
    rw [List.getElem?_take, if_pos (by omega), List.getElem?_drop, Nat.add_zero]
    exact hi
  match i, hlt, key with
  | 0, _, key => exact key _ mChkL_0 rfl
  | 1, _, key => exact key _ mChkL_1 rfl
  | 2, _, key => exact key _ mChkL_2 rfl
  | 3, _, key => exact key _ mChkL_3 rfl
  | 4, _, key => exact key _ mChkL_4 rfl
  | 5, _, key => exact key _ mChkL_5 rfl
  | 6, _, key => exact key _ mChkL_6 rfl
  | 7, _, key => exact key _ mChkL_7 rfl
  | 8, _, key => exact key _ mChkL_8 rfl
  | 9, _, key => exact key _ mChkL_9 rfl
  | 10, _, key => exact key _ mChkL_10 rfl
  | 11, _, key => exact key _ mChkL_11 rfl
  | 12, _, key => exact key _ mChkL_12 rfl
  | 13, _, key => exact key _ mChkL_13 rfl
  | 14, _, key => exact key _ mChkL_14 rfl
  | 15, _, key => exact key _ mChkL_15 rfl
  | 16, _, key => exact key _ mChkL_16 rfl
  | 17, _, key => exact key _ mChkL_17 rfl
  | 18, _, key => exact key _ mChkL_18 rfl
  | 19, _, key => exact key _ mChkL_19 rfl
  | 20, _, key => exact key _ mChkL_20 rfl
  | 21, _, key => exact key _ mChkL_21 rfl
  | 22, _, key => exact key _ mChkL_22 rfl
  | 23, _, key => exact key _ mChkL_23 rfl
  | 24, _, key => exact key _ mChkL_24 rfl
  | 25, _, key => exact key _ mChkL_25 rfl
  | 26, _, key => exact key _ mChkL_26 rfl
  | 27, _, key => exact key _ mChkL_27 rfl
  | 28, _, key => exact key _ mChkL_28 rfl
  | 29, _, key => exact key _ mChkL_29 rfl
  | 30, _, key => exact key _ mChkL_30 rfl
  | 31, _, key => exact key _ mChkL_31 rfl
  | 32, _, key => exact key _ mChkL_32 rfl
  | 33, _, key => exact key _ mChkL_33 rfl
  | 34, _, key => exact key _ mChkL_34 rfl
  | 35, _, key => exact key _ mChkL_35 rfl
  | 36, _, key => exact key _ mChkL_36 rfl
  | 37, _, key => exact key _ mChkL_37 rfl
  | 38, _, key => exact key _ mChkL_38 rfl
  | 39, _, key => exact key _ mChkL_39 rfl
  | 40, _, key => exact key _ mChkL_40 rfl
  | 41, _, key => exact key _ mChkL_41 rfl
  | 42, _, key => exact key _ mChkL_42 rfl
  | 43, _, key => exact key _ mChkL_43 rfl
  | 44, _, key => exact key _ mChkL_44 rfl
  | 45, _, key => exact key _ mChkL_45 rfl
  | 46, _, key => exact key _ mChkL_46 rfl
  | 47, _, key => exact key _ mChkL_47 rfl
  | 48, _, key => exact key _ mChkL_48 rfl
  | 49, _, key => exact key _ mChkL_49 rfl
  | 50, _, key => exact key _ mChkL_50 rfl
  | 51, _, key => exact key _ mChkL_51 rfl
  | 52, _, key => exact key _ mChkL_52 rfl
  | 53, _, key => exact key _ mChkL_53 rfl
  | 54, _, key => exact key _ mChkL_54 rfl
  | 55, _, key => exact key _ mChkL_55 rfl
  | 56, _, key => exact key _ mChkL_56 rfl
  | 57, _, key => exact key _ mChkL_57 rfl
  | 58, _, key => exact key _ mChkL_58 rfl
  | 59, _, key => exact key _ mChkL_59 rfl
  | 60, _, key => exact key _ mChkL_60 rfl
  | 61, _, key => exact key _ mChkL_61 rfl
  | 62, _, key => exact key _ mChkL_62 rfl
  | 63, _, key => exact key _ mChkL_63 rfl
  | 64, _, key => exact key _ mChkL_64 rfl
  | 65, _, key => exact key _ mChkL_65 rfl
  | 66, _, key => exact key _ mChkL_66 rfl
  | 67, _, key => exact key _ mChkL_67 rfl
  | 68, _, key => exact key _ mChkL_68 rfl
  | 69, _, key => exact key _ mChkL_69 rfl
  | 70, _, key => exact key _ mChkL_70 rfl
  | 71, _, key => exact key _ mChkL_71 rfl
  | 72, _, key => exact key _ mChkL_72 rfl
  | 73, _, key => exact key _ mChkL_73 rfl
  | 74, _, key => exact key _ mChkL_74 rfl
  | 75, _, key => exact key _ mChkL_75 rfl
  | 76, _, key => exact key _ mChkL_76 rfl
  | 77, _, key => exact key _ mChkL_77 rfl
  | 78, _, key => exact key _ mChkL_78 rfl
  | 79, _, key => exact key _ mChkL_79 rfl
  | 80, _, key => exact key _ mChkL_80 rfl
  | 81, _, key => exact key _ mChkL_81 rfl
  | 82, _, key => exact key _ mChkL_82 rfl
  | 83, _, key => exact key _ mChkL_83 rfl
  | 84, _, key => exact key _ mChkL_84 rfl
  | 85, _, key => exact key _ mChkL_85 rfl
  | 86, _, key => exact key _ mChkL_86 rfl
  | 87, _, key => exact key _ mChkL_87 rfl
  | 88, _, key => exact key _ mChkL_88 rfl
  | 89, _, key => exact key _ mChkL_89 rfl
  | 90, _, key => exact key _ mChkL_90 rfl
  | 91, _, key => exact key _ mChkL_91 rfl
  | 92, _, key => exact key _ mChkL_92 rfl
  | 93, _, key => exact key _ mChkL_93 rfl
  | 94, _, key => exact key _ mChkL_94 rfl
  | 95, _, key => exact key _ mChkL_95 rfl
  | 96, _, key => exact key _ mChkL_96 rfl
  | 97, _, key => exact key _ mChkL_97 rfl
  | 98, _, key => exact key _ mChkL_98 rfl
  | 99, _, key => exact key _ mChkL_99 rfl
  | 100, _, key => exact key _ mChkL_100 rfl
  | 101, _, key => exact key _ mChkL_101 rfl
  | 102, _, key => exact key _ mChkL_102 rfl
  | 103, _, key => exact key _ mChkL_103 rfl
  | 104, _, key => exact key _ mChkL_104 rfl
  | 105, _, key => exact key _ mChkL_105 rfl
  | 106, _, key => exact key _ mChkL_106 rfl
  | 107, _, key => exact key _ mChkL_107 rfl
  | 108, _, key => exact key _ mChkL_108 rfl
  | 109, _, key => exact key _ mChkL_109 rfl
  | 110, _, key => exact key _ mChkL_110 rfl
  | 111, _, key => exact key _ mChkL_111 rfl
  | 112, _, key => exact key _ mChkL_112 rfl
  | 113, _, key => exact key _ mChkL_113 rfl
  | 114, _, key => exact key _ mChkL_114 rfl
  | 115, _, key => exact key _ mChkL_115 rfl
  | 116, _, key => exact key _ mChkL_116 rfl
  | 117, _, key => exact key _ mChkL_117 rfl
  | 118, _, key => exact key _ mChkL_118 rfl
  | 119, _, key => exact key _ mChkL_119 rfl
  | 120, _, key => exact key _ mChkL_120 rfl
  | 121, _, key => exact key _ mChkL_121 rfl
  | 122, _, key => exact key _ mChkL_122 rfl
  | 123, _, key => exact key _ mChkL_123 rfl
  | 124, _, key => exact key _ mChkL_124 rfl
  | 125, _, key => exact key _ mChkL_125 rfl
  | 126, _, key => exact key _ mChkL_126 rfl
  | 127, _, key => exact key _ mChkL_127 rfl
  | 128, _, key => exact key _ mChkL_128 rfl
  | 129, _, key => exact key _ mChkL_129 rfl
  | 130, _, key => exact key _ mChkL_130 rfl
  | 131, _, key => exact key _ mChkL_131 rfl
  | 132, _, key => exact key _ mChkL_132 rfl
  | 133, _, key => exact key _ mChkL_133 rfl
  | 134, _, key => exact key _ mChkL_134 rfl
  | 135, _, key => exact key _ mChkL_135 rfl
  | 136, _, key => exact key _ mChkL_136 rfl
  | 137, _, key => exact key _ mChkL_137 rfl
  | 138, _, key => exact key _ mChkL_138 rfl
  | 139, _, key => exact key _ mChkL_139 rfl
  | 140, _, key => exact key _ mChkL_140 rfl
  | 141, _, key => exact key _ mChkL_141 rfl
  | 142, _, key => exact key _ mChkL_142 rfl
  | 143, _, key => exact key _ mChkL_143 rfl
  | 144, _, key => exact key _ mChkL_144 rfl
  | 145, _, key => exact key _ mChkL_145 rfl
  | 146, _, key => exact key _ mChkL_146 rfl
  | 147, _, key => exact key _ mChkL_147 rfl
  | 148, _, key => exact key _ mChkL_148 rfl
  | 149, _, key => exact key _ mChkL_149 rfl
  | 150, _, key => exact key _ mChkL_150 rfl
  | 151, _, key => exact key _ mChkL_151 rfl
  | 152, _, key => exact key _ mChkL_152 rfl
  | 153, _, key => exact key _ mChkL_153 rfl
  | 154, _, key => exact key _ mChkL_154 rfl
  | 155, _, key => exact key _ mChkL_155 rfl
  | 156, _, key => exact key _ mChkL_156 rfl
  | k + 157, h, _ => exact absurd h (by omega)
theorem mChk_ok {y : Nat} (hy : y < 411) : mChkM y = true := by
  have key : ∀ k n : Nat, ((List.range n).all fun y => mChkM (y + k)) = true → k ≤ y → y < k + n → mChkM y = true := fun k n h h1 h2 => by
    have h3 := List.all_eq_true.mp h (y - k) (List.mem_range.mpr (by omega))
    rw [show y - k + k = y by omega] at h3
    exact h3
  by_cases h0 : y < 8
  · exact key _ _ mChk_0 (by omega) (by omega)
  by_cases h1 : y < 16
  · exact key _ _ mChk_1 (by omega) (by omega)
  by_cases h2 : y < 24
  · exact key _ _ mChk_2 (by omega) (by omega)
  by_cases h3 : y < 32
  · exact key _ _ mChk_3 (by omega) (by omega)
  by_cases h4 : y < 40
  · exact key _ _ mChk_4 (by omega) (by omega)
  by_cases h5 : y < 48
  · exact key _ _ mChk_5 (by omega) (by omega)
  by_cases h6 : y < 56
  · exact key _ _ mChk_6 (by omega) (by omega)
  by_cases h7 : y < 64
  · exact key _ _ mChk_7 (by omega) (by omega)
  by_cases h8 : y < 72
  · exact key _ _ mChk_8 (by omega) (by omega)
  by_cases h9 : y < 80
  · exact key _ _ mChk_9 (by omega) (by omega)
  by_cases h10 : y < 88
  · exact key _ _ mChk_10 (by omega) (by omega)
  by_cases h11 : y < 96
  · exact key _ _ mChk_11 (by omega) (by omega)
  by_cases h12 : y < 104
  · exact key _ _ mChk_12 (by omega) (by omega)
  by_cases h13 : y < 112
  · exact key _ _ mChk_13 (by omega) (by omega)
  by_cases h14 : y < 120
  · exact key _ _ mChk_14 (by omega) (by omega)
  by_cases h15 : y < 128
  · exact key _ _ mChk_15 (by omega) (by omega)
  by_cases h16 : y < 136
  · exact key _ _ mChk_16 (by omega) (by omega)
  by_cases h17 : y < 144
  · exact key _ _ mChk_17 (by omega) (by omega)
  by_cases h18 : y < 152
  · exact key _ _ mChk_18 (by omega) (by omega)
  by_cases h19 : y < 160
  · exact key _ _ mChk_19 (by omega) (by omega)
  by_cases h20 : y < 168
  · exact key _ _ mChk_20 (by omega) (by omega)
  by_cases h21 : y < 176
  · exact key _ _ mChk_21 (by omega) (by omega)
  by_cases h22 : y < 184
  · exact key _ _ mChk_22 (by omega) (by omega)
  by_cases h23 : y < 192
  · exact key _ _ mChk_23 (by omega) (by omega)
  by_cases h24 : y < 200
  · exact key _ _ mChk_24 (by omega) (by omega)
  by_cases h25 : y < 208
  · exact key _ _ mChk_25 (by omega) (by omega)
  by_cases h26 : y < 216
  · exact key _ _ mChk_26 (by omega) (by omega)
  by_cases h27 : y < 224
  · exact key _ _ mChk_27 (by omega) (by omega)
  by_cases h28 : y < 232
  · exact key _ _ mChk_28 (by omega) (by omega)
  by_cases h29 : y < 240
  · exact key _ _ mChk_29 (by omega) (by omega)
  by_cases h30 : y < 248
  · exact key _ _ mChk_30 (by omega) (by omega)
  by_cases h31 : y < 256
  · exact key _ _ mChk_31 (by omega) (by omega)
  by_cases h32 : y < 264
  · exact key _ _ mChk_32 (by omega) (by omega)
  by_cases h33 : y < 272
  · exact key _ _ mChk_33 (by omega) (by omega)
  by_cases h34 : y < 280
  · exact key _ _ mChk_34 (by omega) (by omega)
  by_cases h35 : y < 288
  · exact key _ _ mChk_35 (by omega) (by omega)
  by_cases h36 : y < 296
  · exact key _ _ mChk_36 (by omega) (by omega)
  by_cases h37 : y < 304
  · exact key _ _ mChk_37 (by omega) (by omega)
  by_cases h38 : y < 312
  · exact key _ _ mChk_38 (by omega) (by omega)
  by_cases h39 : y < 320
  · exact key _ _ mChk_39 (by omega) (by omega)
  by_cases h40 : y < 328
  · exact key _ _ mChk_40 (by omega) (by omega)
  by_cases h41 : y < 336
  · exact key _ _ mChk_41 (by omega) (by omega)
  by_cases h42 : y < 344
  · exact key _ _ mChk_42 (by omega) (by omega)
  by_cases h43 : y < 352
  · exact key _ _ mChk_43 (by omega) (by omega)
  by_cases h44 : y < 360
  · exact key _ _ mChk_44 (by omega) (by omega)
  by_cases h45 : y < 368
  · exact key _ _ mChk_45 (by omega) (by omega)
  by_cases h46 : y < 376
  · exact key _ _ mChk_46 (by omega) (by omega)
  by_cases h47 : y < 384
  · exact key _ _ mChk_47 (by omega) (by omega)
  by_cases h48 : y < 392
  · exact key _ _ mChk_48 (by omega) (by omega)
  by_cases h49 : y < 400
  · exact key _ _ mChk_49 (by omega) (by omega)
  by_cases h50 : y < 408
  · exact key _ _ mChk_50 (by omega) (by omega)
  by_cases h51 : y < 410
  · exact key _ _ mChk_51 (by omega) (by omega)
  obtain rfl : y = 410 := by omega
  exact mChk_law
theorem mCs_ge : ∀ (as : List mV), as.length ≤ mCs as
  | [] => Nat.le_refl 0
  | w :: as => by
    have ih := mCs_ge as
    rcases w with x | x | x | x | x | x
    · show as.length + 1 ≤ mCs as + 1; omega
    · show as.length + 1 ≤ mCs as + 1; omega
    · show as.length + 1 ≤ mCs as + 1; omega
    · show as.length + 1 ≤ mCs as + 2; omega
    · show as.length + 1 ≤ mCs as + 1; omega
    · show as.length + 1 ≤ mCs as + 2; omega
theorem mC1_of {ρ : mRho} : ∀ {vs : List Value} {as : List mV}, mStk ρ vs as → mCs as ≤ as.length → ∀ v ∈ vs, v.category = 1
  | [], [], _, _, v, hv => by cases hv
  | v :: vs, w :: as, h, hc, u, hu => by
    have hg := mCs_ge as
    have hw : (∀ x, w ≠ mL x) ∧ (∀ x, w ≠ mD x) ∧ mCs as ≤ as.length := by
      rcases w with x | x | x | x | x | x
      · have hc : mCs as + 1 ≤ as.length + 1 := hc
        exact ⟨(fun z q => by cases q), (fun z q => by cases q), by omega⟩
      · have hc : mCs as + 1 ≤ as.length + 1 := hc
        exact ⟨(fun z q => by cases q), (fun z q => by cases q), by omega⟩
      · have hc : mCs as + 1 ≤ as.length + 1 := hc
        exact ⟨(fun z q => by cases q), (fun z q => by cases q), by omega⟩
      · have hc : mCs as + 2 ≤ as.length + 1 := hc
        omega
      · have hc : mCs as + 1 ≤ as.length + 1 := hc
        exact ⟨(fun z q => by cases q), (fun z q => by cases q), by omega⟩
      · have hc : mCs as + 2 ≤ as.length + 1 := hc
        omega
    rcases List.mem_cons.mp hu with rfl | hu
    · exact mVal_c1 h.1 hw.1 hw.2.1
    · exact mC1_of h.2 hw.2.2 u hu
  | [], _ :: _, h, _, _, _ => h.elim
  | _ :: _, [], h, _, _, _ => h.elim
theorem mGet_nones : ∀ (n i : Nat), mGet (List.replicate n none) i = none
  | 0, i => by cases i <;> rfl
  | n + 1, 0 => rfl
  | n + 1, i + 1 => mGet_nones n i
theorem mLoc_args {ρ : mRho} (n : Nat) : ∀ {vs : List Value} {as : List mV} (k : Nat), mStk ρ vs as → (∀ v ∈ vs, v.category = 1) → ∀ (i : Nat) (w : mV), mGet (as.map some ++ List.replicate n none) i = some w → ∃ x, (k + i, x) ∈ lv_args k vs ∧ mVal ρ x w
  | [], [], k, _, _, i, w, h => by
    have h : mGet (List.replicate n none) i = some w := h
    rw [mGet_nones] at h
    cases h
  | v :: vs, w0 :: as, k, hs, hc, i, w, h => by
    have h1 := hc v List.mem_cons_self
    unfold lv_args
    rw [if_neg (by rw [h1]; decide)]
    cases i with
    | zero =>
      have h : some w0 = some w := h
      cases h
      exact ⟨v, List.mem_cons_self, hs.1⟩
    | succ i =>
      obtain ⟨x, g1, g2⟩ := mLoc_args n (k + 1) hs.2 (fun u hu => hc u (List.mem_cons_of_mem _ hu)) i w h
      exact ⟨x, List.mem_cons_of_mem _ (by rw [show k + (i + 1) = k + 1 + i by omega]; exact g1), g2⟩
  | [], _ :: _, _, h, _, _, _, _ => h.elim
  | _ :: _, [], _, h, _, _, _, _ => h.elim
theorem lv_args_in : ∀ (vs : List Value) (k : Nat) (q : Nat × Value), q ∈ lv_args k vs → q.2 ∈ vs
  | [], _, q, h => by cases h
  | v :: vs, k, q, h => by
    unfold lv_args at h
    rcases List.mem_cons.mp h with rfl | h
    · exact List.mem_cons_self
    · exact List.mem_cons_of_mem _ (lv_args_in vs _ q h)
theorem mLoc_entry {ρ : mRho} {y : Nat} {vs : List Value} {as : List mV} {ls : Array Slot} (hs : mStk ρ vs as) (hc : mCs as ≤ as.length) (hm : as.length ≤ mMaxL y) (hl : lv_has ls (mMaxL y) (lv_args 0 vs)) : mLoc ρ y ls (mPad (mMaxL y) (as.map some)) := by
  refine ⟨?_, lv_args 0 vs, hl, fun i w h => ?_, fun _ q hq => mC1_of hs hc _ (lv_args_in vs 0 q hq)⟩
  · unfold mPad
    rw [List.length_append, List.length_map, List.length_replicate]
    omega
  · obtain ⟨x, g1, g2⟩ := mLoc_args _ 0 hs (mC1_of hs hc) i w h
    rw [Nat.zero_add] at g1
    exact ⟨x, g1, g2⟩
theorem mGood_all {ρ : mRho} {l : Launch} (hl : l.stackTraces = false) : ∀ D : Nat, mGood ρ l D
  | 0 => fun y as I S r I' S' mc ms hy h => h.elim
  | D + 1 => fun y as I S r I' S' mc ms hy h hmc hms => by
    refine vx_ofW (cc := mBy y) (maxL := mMaxL y) (ret := mRet y) (mMet hy).2.2.1 rfl ?_
    intro p e s m args below meth c s₁ B hml hex hP
    obtain ⟨⟨vs, rfl, hvs⟩, hH, hT, hW⟩ := hP
    have hts0 := atoms_spec (ws := mWs y) B.pre
    have hts : ∀ w ∈ mWl, w.before vs.toArray s = true := fun w hw => hts0 w (List.mem_cons_of_mem _ hw)
    have hown := findClass_of_methodNamed B.named
    rw [(mMet hy).2.1] at hown
    have hnm : meth.name = (mNm y).name := (name_of_methodNamed B.named B.method).1
    have C : mCx ρ p l e (mRm (D + 1) mc ms) s m vs.toArray below meth c _ y s.heap S S' D mc ms r I' := ⟨⟨B.exec, B.bytes, hml, hown⟩, ⟨hts, hT, hW⟩, ⟨rfl, fun _ => hex, B.notSynchronized, hl, fun _ => rfl, fun h9 => absurd h9 (by omega), fun h9 => absurd h9 (by omega), fun h9 => absurd h9 (by omega)⟩, ⟨mGood_all hl D, rfl, hmc, hms⟩, ⟨B.returns, fun _ => hnm⟩⟩
    have h2 := mBlkAll C (mChk_ok (by omega)) h.2
    have hlen : vs.length = as.length := mStk_len hvs
    have hl0 := lv_entry vs (n := mMaxL y) (by rw [lg_sl1 vs (mC1_of hvs h.1.1), hlen]; exact h.1.2)
    rw [lg_entry_eq]
    generalize (lg_sl vs ++ List.replicate (mMaxL y - (lg_sl vs).length) Slot.unset).toArray = ls at hl0 ⊢
    exact h2.2 s.heap [] 0 0 ls [] (mLoc_entry hvs h.1.1 h.1.2 hl0) trivial hH ⟨hH.2.1, Nat.le_refl _, fun _ _ => rfl, fun z hz => by cases hz⟩ ⟨by show S.2.2.2.1 = S.2.2.2.1 + 0; omega, by show S.2.2.2.2 = S.2.2.2.2 + 0; omega⟩
theorem mGoodH_all {ρ : mRho} {l : Launch} (hl : l.stackTraces = false) : ∀ D : Nat, mGoodH ρ l D
  | 0 => fun y as I S v I' S' mc ms hy hy2 h => h.elim
  | D + 1 => fun y as I S v I' S' mc ms hy hy2 h hmc hms => by
    refine vx_ofWH (cc := mBy y) (maxL := mMaxL y) (ret := mRet y) (hh := mHT y) (mMetH hy hy2).2.2.1 rfl ?_
    intro p e s m args below meth c s₁ B hml hP
    obtain ⟨⟨vs, rfl, hvs⟩, hH, hT, hW⟩ := hP
    have hts0 := atoms_spec (ws := mWsH1 y :: mWl) B.pre
    have hts : ∀ w ∈ mWl, w.before vs.toArray s = true := fun w hw => hts0 w (List.mem_cons_of_mem _ hw)
    have htb := vx_table B (hts0 (mWsH1 y) List.mem_cons_self)
    have hown := findClass_of_methodNamed B.named
    rw [(mMetH hy hy2).2.1] at hown
    have hnm : meth.name = (mNm y).name := (name_of_methodNamed B.named B.method).1
    have C : mCx ρ p l e (mRm (D + 1) mc ms) s m vs.toArray below meth c _ y s.heap S S' D mc ms (.inl v) I' := ⟨⟨B.exec, B.bytes, hml, hown⟩, ⟨hts, hT, hW⟩, ⟨rfl, fun h9 => absurd h9 (by omega), B.notSynchronized, hl, fun _ => rfl, fun _ => ⟨v, rfl⟩, fun _ _ => htb, fun h9 => absurd h9 (by omega)⟩, ⟨mGood_all hl D, rfl, hmc, hms⟩, ⟨B.returns, fun _ => hnm⟩⟩
    have h2 := mBlkAll C (mChk_ok (by omega)) h.2
    have hlen : vs.length = as.length := mStk_len hvs
    have hl0 := lv_entry vs (n := mMaxL y) (by rw [lg_sl1 vs (mC1_of hvs h.1.1), hlen]; exact h.1.2)
    rw [lg_entry_eq]
    generalize (lg_sl vs ++ List.replicate (mMaxL y - (lg_sl vs).length) Slot.unset).toArray = ls at hl0 ⊢
    exact h2.2 s.heap [] 0 0 ls [] (mLoc_entry hvs h.1.1 h.1.2 hl0) trivial hH ⟨hH.2.1, Nat.le_refl _, fun _ _ => rfl, fun z hz => by cases hz⟩ ⟨by show S.2.2.2.1 = S.2.2.2.1 + 0; omega, by show S.2.2.2.2 = S.2.2.2.2 + 0; omega⟩
