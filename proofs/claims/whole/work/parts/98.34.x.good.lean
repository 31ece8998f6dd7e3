/-! Every method of the program is checked: a run of the small machine is a run of the machine. -/
theorem mChkL_to0 (i : Nat) (h0 : 0 ≤ i) (h1 : i < 27) : (((mTabOf 413 mTabs).drop i).take 1).all (mChkU 413) = true := by
  by_cases c0 : i = 0
  · rw [c0]; exact mChkL_0
  by_cases c1 : i = 1
  · rw [c1]; exact mChkL_1
  by_cases c2 : i = 2
  · rw [c2]; exact mChkL_2
  by_cases c3 : i = 3
  · rw [c3]; exact mChkL_3
  by_cases c4 : i = 4
  · rw [c4]; exact mChkL_4
  by_cases c5 : i = 5
  · rw [c5]; exact mChkL_5
  by_cases c6 : i = 6
  · rw [c6]; exact mChkL_6
  by_cases c7 : i = 7
  · rw [c7]; exact mChkL_7
  by_cases c8 : i = 8
  · rw [c8]; exact mChkL_8
  by_cases c9 : i = 9
  · rw [c9]; exact mChkL_9
  by_cases c10 : i = 10
  · rw [c10]; exact mChkL_10
  by_cases c11 : i = 11
  · rw [c11]; exact mChkL_11
  by_cases c12 : i = 12
  · rw [c12]; exact mChkL_12
  by_cases c13 : i = 13
  · rw [c13]; exact mChkL_13
  by_cases c14 : i = 14
  · rw [c14]; exact mChkL_14
  by_cases c15 : i = 15
  · rw [c15]; exact mChkL_15
  by_cases c16 : i = 16
  · rw [c16]; exact mChkL_16
  by_cases c17 : i = 17
  · rw [c17]; exact mChkL_17
  by_cases c18 : i = 18
  · rw [c18]; exact mChkL_18
  by_cases c19 : i = 19
  · rw [c19]; exact mChkL_19
  by_cases c20 : i = 20
  · rw [c20]; exact mChkL_20
  by_cases c21 : i = 21
  · rw [c21]; exact mChkL_21
  by_cases c22 : i = 22
  · rw [c22]; exact mChkL_22
  by_cases c23 : i = 23
  · rw [c23]; exact mChkL_23
  by_cases c24 : i = 24
  · rw [c24]; exact mChkL_24
  by_cases c25 : i = 25
  · rw [c25]; exact mChkL_25
  have e : i = 26 := by omega
  rw [e]; exact mChkL_26
theorem mChkL_to1 (i : Nat) (h0 : 27 ≤ i) (h1 : i < 54) : (((mTabOf 413 mTabs).drop i).take 1).all (mChkU 413) = true := by
  by_cases c27 : i = 27
  · rw [c27]; exact mChkL_27
  by_cases c28 : i = 28
  · rw [c28]; exact mChkL_28
  by_cases c29 : i = 29
  · rw [c29]; exact mChkL_29
  by_cases c30 : i = 30
  · rw [c30]; exact mChkL_30
  by_cases c31 : i = 31
  · rw [c31]; exact mChkL_31
  by_cases c32 : i = 32
  · rw [c32]; exact mChkL_32
  by_cases c33 : i = 33
  · rw [c33]; exact mChkL_33
  by_cases c34 : i = 34
  · rw [c34]; exact mChkL_34
  by_cases c35 : i = 35
  · rw [c35]; exact mChkL_35
  by_cases c36 : i = 36
  · rw [c36]; exact mChkL_36
  by_cases c37 : i = 37
  · rw [c37]; exact mChkL_37
  by_cases c38 : i = 38
  · rw [c38]; exact mChkL_38
  by_cases c39 : i = 39
  · rw [c39]; exact mChkL_39
  by_cases c40 : i = 40
  · rw [c40]; exact mChkL_40
  by_cases c41 : i = 41
  · rw [c41]; exact mChkL_41
  by_cases c42 : i = 42
  · rw [c42]; exact mChkL_42
  by_cases c43 : i = 43
  · rw [c43]; exact mChkL_43
  by_cases c44 : i = 44
  · rw [c44]; exact mChkL_44
  by_cases c45 : i = 45
  · rw [c45]; exact mChkL_45
  by_cases c46 : i = 46
  · rw [c46]; exact mChkL_46
  by_cases c47 : i = 47
  · rw [c47]; exact mChkL_47
  by_cases c48 : i = 48
  · rw [c48]; exact mChkL_48
  by_cases c49 : i = 49
  · rw [c49]; exact mChkL_49
  by_cases c50 : i = 50
  · rw [c50]; exact mChkL_50
  by_cases c51 : i = 51
  · rw [c51]; exact mChkL_51
  by_cases c52 : i = 52
  · rw [c52]; exact mChkL_52
  have e : i = 53 := by omega
  rw [e]; exact mChkL_53
theorem mChkL_to2 (i : Nat) (h0 : 54 ≤ i) (h1 : i < 81) : (((mTabOf 413 mTabs).drop i).take 1).all (mChkU 413) = true := by
  by_cases c54 : i = 54
  · rw [c54]; exact mChkL_54
  by_cases c55 : i = 55
  · rw [c55]; exact mChkL_55
  by_cases c56 : i = 56
  · rw [c56]; exact mChkL_56
  by_cases c57 : i = 57
  · rw [c57]; exact mChkL_57
  by_cases c58 : i = 58
  · rw [c58]; exact mChkL_58
  by_cases c59 : i = 59
  · rw [c59]; exact mChkL_59
  by_cases c60 : i = 60
  · rw [c60]; exact mChkL_60
  by_cases c61 : i = 61
  · rw [c61]; exact mChkL_61
  by_cases c62 : i = 62
  · rw [c62]; exact mChkL_62
  by_cases c63 : i = 63
  · rw [c63]; exact mChkL_63
  by_cases c64 : i = 64
  · rw [c64]; exact mChkL_64
  by_cases c65 : i = 65
  · rw [c65]; exact mChkL_65
  by_cases c66 : i = 66
  · rw [c66]; exact mChkL_66
  by_cases c67 : i = 67
  · rw [c67]; exact mChkL_67
  by_cases c68 : i = 68
  · rw [c68]; exact mChkL_68
  by_cases c69 : i = 69
  · rw [c69]; exact mChkL_69
  by_cases c70 : i = 70
  · rw [c70]; exact mChkL_70
  by_cases c71 : i = 71
  · rw [c71]; exact mChkL_71
  by_cases c72 : i = 72
  · rw [c72]; exact mChkL_72
  by_cases c73 : i = 73
  · rw [c73]; exact mChkL_73
  by_cases c74 : i = 74
  · rw [c74]; exact mChkL_74
  by_cases c75 : i = 75
  · rw [c75]; exact mChkL_75
  by_cases c76 : i = 76
  · rw [c76]; exact mChkL_76
  by_cases c77 : i = 77
  · rw [c77]; exact mChkL_77
  by_cases c78 : i = 78
  · rw [c78]; exact mChkL_78
  by_cases c79 : i = 79
  · rw [c79]; exact mChkL_79
  have e : i = 80 := by omega
  rw [e]; exact mChkL_80
theorem mChkL_to3 (i : Nat) (h0 : 81 ≤ i) (h1 : i < 108) : (((mTabOf 413 mTabs).drop i).take 1).all (mChkU 413) = true := by
  by_cases c81 : i = 81
  · rw [c81]; exact mChkL_81
  by_cases c82 : i = 82
  · rw [c82]; exact mChkL_82
  by_cases c83 : i = 83
  · rw [c83]; exact mChkL_83
  by_cases c84 : i = 84
  · rw [c84]; exact mChkL_84
  by_cases c85 : i = 85
  · rw [c85]; exact mChkL_85
  by_cases c86 : i = 86
  · rw [c86]; exact mChkL_86
  by_cases c87 : i = 87
  · rw [c87]; exact mChkL_87
  by_cases c88 : i = 88
  · rw [c88]; exact mChkL_88
  by_cases c89 : i = 89
  · rw [c89]; exact mChkL_89
  by_cases c90 : i = 90
  · rw [c90]; exact mChkL_90
  by_cases c91 : i = 91
  · rw [c91]; exact mChkL_91
  by_cases c92 : i = 92
  · rw [c92]; exact mChkL_92
  by_cases c93 : i = 93
  · rw [c93]; exact mChkL_93
  by_cases c94 : i = 94
  · rw [c94]; exact mChkL_94
  by_cases c95 : i = 95
  · rw [c95]; exact mChkL_95
  by_cases c96 : i = 96
  · rw [c96]; exact mChkL_96
  by_cases c97 : i = 97
  · rw [c97]; exact mChkL_97
  by_cases c98 : i = 98
  · rw [c98]; exact mChkL_98
  by_cases c99 : i = 99
  · rw [c99]; exact mChkL_99
  by_cases c100 : i = 100
  · rw [c100]; exact mChkL_100
  by_cases c101 : i = 101
  · rw [c101]; exact mChkL_101
  by_cases c102 : i = 102
  · rw [c102]; exact mChkL_102
  by_cases c103 : i = 103
  · rw [c103]; exact mChkL_103
  by_cases c104 : i = 104
  · rw [c104]; exact mChkL_104
  by_cases c105 : i = 105
  · rw [c105]; exact mChkL_105
  by_cases c106 : i = 106
  · rw [c106]; exact mChkL_106
  have e : i = 107 := by omega
  rw [e]; exact mChkL_107
theorem mChkL_to4 (i : Nat) (h0 : 108 ≤ i) (h1 : i < 135) : (((mTabOf 413 mTabs).drop i).take 1).all (mChkU 413) = true := by
  by_cases c108 : i = 108
  · rw [c108]; exact mChkL_108
  by_cases c109 : i = 109
  · rw [c109]; exact mChkL_109
  by_cases c110 : i = 110
  · rw [c110]; exact mChkL_110
  by_cases c111 : i = 111
  · rw [c111]; exact mChkL_111
  by_cases c112 : i = 112
  · rw [c112]; exact mChkL_112
  by_cases c113 : i = 113
  · rw [c113]; exact mChkL_113
  by_cases c114 : i = 114
  · rw [c114]; exact mChkL_114
  by_cases c115 : i = 115
  · rw [c115]; exact mChkL_115
  by_cases c116 : i = 116
  · rw [c116]; exact mChkL_116
  by_cases c117 : i = 117
  · rw [c117]; exact mChkL_117
  by_cases c118 : i = 118
  · rw [c118]; exact mChkL_118
  by_cases c119 : i = 119
  · rw [c119]; exact mChkL_119
  by_cases c120 : i = 120
  · rw [c120]; exact mChkL_120
  by_cases c121 : i = 121
  · rw [c121]; exact mChkL_121
  by_cases c122 : i = 122
  · rw [c122]; exact mChkL_122
  by_cases c123 : i = 123
  · rw [c123]; exact mChkL_123
  by_cases c124 : i = 124
  · rw [c124]; exact mChkL_124
  by_cases c125 : i = 125
  · rw [c125]; exact mChkL_125
  by_cases c126 : i = 126
  · rw [c126]; exact mChkL_126
  by_cases c127 : i = 127
  · rw [c127]; exact mChkL_127
  by_cases c128 : i = 128
  · rw [c128]; exact mChkL_128
  by_cases c129 : i = 129
  · rw [c129]; exact mChkL_129
  by_cases c130 : i = 130
  · rw [c130]; exact mChkL_130
  by_cases c131 : i = 131
  · rw [c131]; exact mChkL_131
  by_cases c132 : i = 132
  · rw [c132]; exact mChkL_132
  by_cases c133 : i = 133
  · rw [c133]; exact mChkL_133
  have e : i = 134 := by omega
  rw [e]; exact mChkL_134
theorem mChkL_to5 (i : Nat) (h0 : 135 ≤ i) (h1 : i < 157) : (((mTabOf 413 mTabs).drop i).take 1).all (mChkU 413) = true := by
  by_cases c135 : i = 135
  · rw [c135]; exact mChkL_135
  by_cases c136 : i = 136
  · rw [c136]; exact mChkL_136
  by_cases c137 : i = 137
  · rw [c137]; exact mChkL_137
  by_cases c138 : i = 138
  · rw [c138]; exact mChkL_138
  by_cases c139 : i = 139
  · rw [c139]; exact mChkL_139
  by_cases c140 : i = 140
  · rw [c140]; exact mChkL_140
  by_cases c141 : i = 141
  · rw [c141]; exact mChkL_141
  by_cases c142 : i = 142
  · rw [c142]; exact mChkL_142
  by_cases c143 : i = 143
  · rw [c143]; exact mChkL_143
  by_cases c144 : i = 144
  · rw [c144]; exact mChkL_144
  by_cases c145 : i = 145
  · rw [c145]; exact mChkL_145
  by_cases c146 : i = 146
  · rw [c146]; exact mChkL_146
  by_cases c147 : i = 147
  · rw [c147]; exact mChkL_147
  by_cases c148 : i = 148
  · rw [c148]; exact mChkL_148
  by_cases c149 : i = 149
  · rw [c149]; exact mChkL_149
  by_cases c150 : i = 150
  · rw [c150]; exact mChkL_150
  by_cases c151 : i = 151
  · rw [c151]; exact mChkL_151
  by_cases c152 : i = 152
  · rw [c152]; exact mChkL_152
  by_cases c153 : i = 153
  · rw [c153]; exact mChkL_153
  by_cases c154 : i = 154
  · rw [c154]; exact mChkL_154
  by_cases c155 : i = 155
  · rw [c155]; exact mChkL_155
  have e : i = 156 := by omega
  rw [e]; exact mChkL_156
theorem mChk_law : mChkM 413 = true := by
  refine List.all_eq_true.mpr (fun b hb => ?_)
  obtain ⟨i, hi⟩ := List.mem_iff_getElem?.mp hb
  have hlen : (mTabOf 413 mTabs).length = 157 := by decide +kernel
  have hlt : i < 157 := by rw [← hlen]; exact (List.getElem?_eq_some_iff.mp hi).1
  have key : ∀ k : Nat, (((mTabOf 413 mTabs).drop k).take 1).all (mChkU 413) = true → i = k → mChkU 413 b = true := fun k h h1 => by
    subst h1
    refine List.all_eq_true.mp h b (List.mem_of_getElem? (i := 0) ?_)
    rw [List.getElem?_take, if_pos (by omega), List.getElem?_drop, Nat.add_zero]
    exact hi
  by_cases g0 : i < 27
  · exact key i (mChkL_to0 i (by omega) g0) rfl
  by_cases g1 : i < 54
  · exact key i (mChkL_to1 i (by omega) g1) rfl
  by_cases g2 : i < 81
  · exact key i (mChkL_to2 i (by omega) g2) rfl
  by_cases g3 : i < 108
  · exact key i (mChkL_to3 i (by omega) g3) rfl
  by_cases g4 : i < 135
  · exact key i (mChkL_to4 i (by omega) g4) rfl
  exact key i (mChkL_to5 i (by omega) hlt) rfl
theorem mChk_ok {y : Nat} (hy : y < 414) : mChkM y = true := by
  have key : ∀ k n : Nat, ((List.range n).all fun y => mChkM (y + k)) = true → k ≤ y → y < k + n → mChkM y = true := fun k n h h1 h2 => by
    have h3 := List.all_eq_true.mp h (y - k) (List.mem_range.mpr (by omega))
    rw [show y - k + k = y by omega] at h3
    exact h3
  by_cases h0 : y < 8
  · exact key _ _ mChk_0 (by omega) (by omega)
  by_cases h1 : y < 16
  · exact key _ _ mChk_1 (by omega) (by omega)
  by_cases h2 : y < 24
  · exact key _ _ mChk_2 (by omega) (by omega)
  by_cases h3 : y < 32
  · exact key _ _ mChk_3 (by omega) (by omega)
  by_cases h4 : y < 40
  · exact key _ _ mChk_4 (by omega) (by omega)
  by_cases h5 : y < 48
  · exact key _ _ mChk_5 (by omega) (by omega)
  by_cases h6 : y < 56
  · exact key _ _ mChk_6 (by omega) (by omega)
  by_cases h7 : y < 64
  · exact key _ _ mChk_7 (by omega) (by omega)
  by_cases h8 : y < 72
  · exact key _ _ mChk_8 (by omega) (by omega)
  by_cases h9 : y < 80
  · exact key _ _ mChk_9 (by omega) (by omega)
  by_cases h10 : y < 88
  · exact key _ _ mChk_10 (by omega) (by omega)
  by_cases h11 : y < 96
  · exact key _ _ mChk_11 (by omega) (by omega)
  by_cases h12 : y < 104
  · exact key _ _ mChk_12 (by omega) (by omega)
  by_cases h13 : y < 112
  · exact key _ _ mChk_13 (by omega) (by omega)
  by_cases h14 : y < 120
  · exact key _ _ mChk_14 (by omega) (by omega)
  by_cases h15 : y < 128
  · exact key _ _ mChk_15 (by omega) (by omega)
  by_cases h16 : y < 136
  · exact key _ _ mChk_16 (by omega) (by omega)
  by_cases h17 : y < 144
  · exact key _ _ mChk_17 (by omega) (by omega)
  by_cases h18 : y < 152
  · exact key _ _ mChk_18 (by omega) (by omega)
  by_cases h19 : y < 160
  · exact key _ _ mChk_19 (by omega) (by omega)
  by_cases h20 : y < 168
  · exact key _ _ mChk_20 (by omega) (by omega)
  by_cases h21 : y < 176
  · exact key _ _ mChk_21 (by omega) (by omega)
  by_cases h22 : y < 184
  · exact key _ _ mChk_22 (by omega) (by omega)
  by_cases h23 : y < 192
  · exact key _ _ mChk_23 (by omega) (by omega)
  by_cases h24 : y < 200
  · exact key _ _ mChk_24 (by omega) (by omega)
  by_cases h25 : y < 208
  · exact key _ _ mChk_25 (by omega) (by omega)
  by_cases h26 : y < 216
  · exact key _ _ mChk_26 (by omega) (by omega)
  by_cases h27 : y < 224
  · exact key _ _ mChk_27 (by omega) (by omega)
  by_cases h28 : y < 232
  · exact key _ _ mChk_28 (by omega) (by omega)
  by_cases h29 : y < 240
  · exact key _ _ mChk_29 (by omega) (by omega)
  by_cases h30 : y < 248
  · exact key _ _ mChk_30 (by omega) (by omega)
  by_cases h31 : y < 256
  · exact key _ _ mChk_31 (by omega) (by omega)
  by_cases h32 : y < 264
  · exact key _ _ mChk_32 (by omega) (by omega)
  by_cases h33 : y < 272
  · exact key _ _ mChk_33 (by omega) (by omega)
  by_cases h34 : y < 280
  · exact key _ _ mChk_34 (by omega) (by omega)
  by_cases h35 : y < 288
  · exact key _ _ mChk_35 (by omega) (by omega)
  by_cases h36 : y < 296
  · exact key _ _ mChk_36 (by omega) (by omega)
  by_cases h37 : y < 304
  · exact key _ _ mChk_37 (by omega) (by omega)
  by_cases h38 : y < 312
  · exact key _ _ mChk_38 (by omega) (by omega)
  by_cases h39 : y < 320
  · exact key _ _ mChk_39 (by omega) (by omega)
  by_cases h40 : y < 328
  · exact key _ _ mChk_40 (by omega) (by omega)
  by_cases h41 : y < 336
  · exact key _ _ mChk_41 (by omega) (by omega)
  by_cases h42 : y < 344
  · exact key _ _ mChk_42 (by omega) (by omega)
  by_cases h43 : y < 352
  · exact key _ _ mChk_43 (by omega) (by omega)
  by_cases h44 : y < 360
  · exact key _ _ mChk_44 (by omega) (by omega)
  by_cases h45 : y < 368
  · exact key _ _ mChk_45 (by omega) (by omega)
  by_cases h46 : y < 376
  · exact key _ _ mChk_46 (by omega) (by omega)
  by_cases h47 : y < 384
  · exact key _ _ mChk_47 (by omega) (by omega)
  by_cases h48 : y < 392
  · exact key _ _ mChk_48 (by omega) (by omega)
  by_cases h49 : y < 400
  · exact key _ _ mChk_49 (by omega) (by omega)
  by_cases h50 : y < 408
  · exact key _ _ mChk_50 (by omega) (by omega)
  by_cases h51 : y < 413
  · exact key _ _ mChk_51 (by omega) (by omega)
  obtain rfl : y = 413 := by omega
  exact mChk_law
theorem mCs_ge : ∀ (as : List mV), as.length ≤ mCs as
  | [] => Nat.le_refl 0
  | w :: as => by
    have ih := mCs_ge as
    rcases w with x | x | x | x | x | x
    · show as.length + 1 ≤ mCs as + 1; omega
    · show as.length + 1 ≤ mCs as + 1; omega
    · show as.length + 1 ≤ mCs as + 1; omega
    · show as.length + 1 ≤ mCs as + 2; omega
    · show as.length + 1 ≤ mCs as + 1; omega
    · show as.length + 1 ≤ mCs as + 2; omega
theorem mC1_of {ρ : mRho} : ∀ {vs : List Value} {as : List mV}, mStk ρ vs as → mCs as ≤ as.length → ∀ v ∈ vs, v.category = 1
  | [], [], _, _, v, hv => by cases hv
  | v :: vs, w :: as, h, hc, u, hu => by
    have hg := mCs_ge as
    have hw : (∀ x, w ≠ mL x) ∧ (∀ x, w ≠ mD x) ∧ mCs as ≤ as.length := by
      rcases w with x | x | x | x | x | x
      · have hc : mCs as + 1 ≤ as.length + 1 := hc
        exact ⟨(fun z q => by cases q), (fun z q => by cases q), by omega⟩
      · have hc : mCs as + 1 ≤ as.length + 1 := hc
        exact ⟨(fun z q => by cases q), (fun z q => by cases q), by omega⟩
      · have hc : mCs as + 1 ≤ as.length + 1 := hc
        exact ⟨(fun z q => by cases q), (fun z q => by cases q), by omega⟩
      · have hc : mCs as + 2 ≤ as.length + 1 := hc
        omega
      · have hc : mCs as + 1 ≤ as.length + 1 := hc
        exact ⟨(fun z q => by cases q), (fun z q => by cases q), by omega⟩
      · have hc : mCs as + 2 ≤ as.length + 1 := hc
        omega
    rcases List.mem_cons.mp hu with rfl | hu
    · exact mVal_c1 h.1 hw.1 hw.2.1
    · exact mC1_of h.2 hw.2.2 u hu
  | [], _ :: _, h, _, _, _ => h.elim
  | _ :: _, [], h, _, _, _ => h.elim
theorem mGet_nones : ∀ (n i : Nat), mGet (List.replicate n none) i = none
  | 0, i => by cases i <;> rfl
  | n + 1, 0 => rfl
  | n + 1, i + 1 => mGet_nones n i
theorem mLoc_args {ρ : mRho} (n : Nat) : ∀ {vs : List Value} {as : List mV} (k : Nat), mStk ρ vs as → (∀ v ∈ vs, v.category = 1) → ∀ (i : Nat) (w : mV), mGet (as.map some ++ List.replicate n none) i = some w → ∃ x, (k + i, x) ∈ lv_args k vs ∧ mVal ρ x w
  | [], [], k, _, _, i, w, h => by
    have h : mGet (List.replicate n none) i = some w := h
    rw [mGet_nones] at h
    cases h
  | v :: vs, w0 :: as, k, hs, hc, i, w, h => by
    have h1 := hc v List.mem_cons_self
    unfold lv_args
    rw [if_neg (by rw [h1]; decide)]
    cases i with
    | zero =>
      have h : some w0 = some w := h
      cases h
      exact ⟨v, List.mem_cons_self, hs.1⟩
    | succ i =>
      obtain ⟨x, g1, g2⟩ := mLoc_args n (k + 1) hs.2 (fun u hu => hc u (List.mem_cons_of_mem _ hu)) i w h
      exact ⟨x, List.mem_cons_of_mem _ (by rw [show k + (i + 1) = k + 1 + i by omega]; exact g1), g2⟩
  | [], _ :: _, _, h, _, _, _, _ => h.elim
  | _ :: _, [], _, h, _, _, _, _ => h.elim
theorem lv_args_in : ∀ (vs : List Value) (k : Nat) (q : Nat × Value), q ∈ lv_args k vs → q.2 ∈ vs
  | [], _, q, h => by cases h
  | v :: vs, k, q, h => by
    unfold lv_args at h
    rcases List.mem_cons.mp h with rfl | h
    · exact List.mem_cons_self
    · exact List.mem_cons_of_mem _ (lv_args_in vs _ q h)
theorem mLoc_entry {ρ : mRho} {y : Nat} {vs : List Value} {as : List mV} {ls : Array Slot} (hs : mStk ρ vs as) (hc : mCs as ≤ as.length) (hm : as.length ≤ mMaxL y) (hl : lv_has ls (mMaxL y) (lv_args 0 vs)) : mLoc ρ y ls (mPad (mMaxL y) (as.map some)) := by
  refine ⟨?_, lv_args 0 vs, hl, fun i w h => ?_, fun _ q hq => mC1_of hs hc _ (lv_args_in vs 0 q hq)⟩
  · unfold mPad
    rw [List.length_append, List.length_map, List.length_replicate]
    omega
  · obtain ⟨x, g1, g2⟩ := mLoc_args _ 0 hs (mC1_of hs hc) i w h
    rw [Nat.zero_add] at g1
    exact ⟨x, g1, g2⟩
theorem mGood_all {ρ : mRho} {l : Launch} (hl : l.stackTraces = false) : ∀ D : Nat, mGood ρ l D
  | 0 => fun y as I S r I' S' mc ms hy h => h.elim
  | D + 1 => fun y as I S r I' S' mc ms hy h hmc hms => by
    refine vx_ofW (cc := mBy y) (maxL := mMaxL y) (ret := mRet y) (mMet hy).2.2.1 rfl ?_
    intro p e s m args below meth c s₁ B hml hex hP
    obtain ⟨⟨vs, rfl, hvs⟩, hH, hT, hW⟩ := hP
    have hts0 := atoms_spec (ws := mWs y) B.pre
    have hts : ∀ w ∈ mWl, w.before vs.toArray s = true := fun w hw => hts0 w (List.mem_cons_of_mem _ hw)
    have hown := findClass_of_methodNamed B.named
    rw [(mMet hy).2.1] at hown
    have hnm : meth.name = (mNm y).name := (name_of_methodNamed B.named B.method).1
    have C : mCx ρ p l e (mRm (D + 1) mc ms) s m vs.toArray below meth c _ y s.heap S S' D mc ms r I' := ⟨⟨B.exec, B.bytes, hml, hown⟩, ⟨hts, hT, hW⟩, ⟨rfl, fun _ => hex, B.notSynchronized, hl, fun _ => rfl, fun h9 => absurd h9 (by omega), fun h9 => absurd h9 (by omega), fun h9 => absurd h9 (by omega)⟩, ⟨mGood_all hl D, rfl, hmc, hms⟩, ⟨B.returns, fun _ => hnm⟩⟩
    have h2 := mBlkAll C (mChk_ok (by omega)) h.2
    have hlen : vs.length = as.length := mStk_len hvs
    have hl0 := lv_entry vs (n := mMaxL y) (by rw [lg_sl1 vs (mC1_of hvs h.1.1), hlen]; exact h.1.2)
    rw [lg_entry_eq]
    generalize (lg_sl vs ++ List.replicate (mMaxL y - (lg_sl vs).length) Slot.unset).toArray = ls at hl0 ⊢
    exact h2.2 s.heap [] 0 0 ls [] (mLoc_entry hvs h.1.1 h.1.2 hl0) trivial hH ⟨hH.2.1, Nat.le_refl _, fun _ _ => rfl, fun z hz => by cases hz⟩ ⟨by show S.2.2.2.1 = S.2.2.2.1 + 0; omega, by show S.2.2.2.2 = S.2.2.2.2 + 0; omega⟩
theorem mGoodH_all {ρ : mRho} {l : Launch} (hl : l.stackTraces = false) : ∀ D : Nat, mGoodH ρ l D
  | 0 => fun y as I S v I' S' mc ms hy hy2 h => h.elim
  | D + 1 => fun y as I S v I' S' mc ms hy hy2 h hmc hms => by
    refine vx_ofWH (cc := mBy y) (maxL := mMaxL y) (ret := mRet y) (hh := mHT y) (mMetH hy hy2).2.2.1 rfl ?_
    intro p e s m args below meth c s₁ B hml hP
    obtain ⟨⟨vs, rfl, hvs⟩, hH, hT, hW⟩ := hP
    have hts0 := atoms_spec (ws := mWsH1 y :: mWl) B.pre
    have hts : ∀ w ∈ mWl, w.before vs.toArray s = true := fun w hw => hts0 w (List.mem_cons_of_mem _ hw)
    have htb := vx_table (x := mNm y) B (hts0 (mWsH1 y) List.mem_cons_self)
    have hown := findClass_of_methodNamed B.named
    rw [(mMetH hy hy2).2.1] at hown
    have hnm : meth.name = (mNm y).name := (name_of_methodNamed B.named B.method).1
    have C : mCx ρ p l e (mRm (D + 1) mc ms) s m vs.toArray below meth c _ y s.heap S S' D mc ms (.inl v) I' := ⟨⟨B.exec, B.bytes, hml, hown⟩, ⟨hts, hT, hW⟩, ⟨rfl, fun h9 => absurd h9 (by omega), B.notSynchronized, hl, fun _ => rfl, fun _ => ⟨v, rfl⟩, fun _ _ => htb, fun h9 => absurd h9 (by omega)⟩, ⟨mGood_all hl D, rfl, hmc, hms⟩, ⟨B.returns, fun _ => hnm⟩⟩
    have h2 := mBlkAll C (mChk_ok (by omega)) h.2
    have hlen : vs.length = as.length := mStk_len hvs
    have hl0 := lv_entry vs (n := mMaxL y) (by rw [lg_sl1 vs (mC1_of hvs h.1.1), hlen]; exact h.1.2)
    rw [lg_entry_eq]
    generalize (lg_sl vs ++ List.replicate (mMaxL y - (lg_sl vs).length) Slot.unset).toArray = ls at hl0 ⊢
    exact h2.2 s.heap [] 0 0 ls [] (mLoc_entry hvs h.1.1 h.1.2 hl0) trivial hH ⟨hH.2.1, Nat.le_refl _, fun _ _ => rfl, fun z hz => by cases hz⟩ ⟨by show S.2.2.2.1 = S.2.2.2.1 + 0; omega, by show S.2.2.2.2 = S.2.2.2.2 + 0; omega⟩
