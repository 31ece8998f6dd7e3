/-! Every method of the program is checked: a run of the small machine is a run of the machine. -/
theorem mChk_law : mChkM 410 = true := by
  refine List.all_eq_true.mpr (fun b hb => ?_)
  obtain ⟨i, hi⟩ := List.mem_iff_getElem?.mp hb
  have hlen : (mTabOf 410 mTabs).length = 157 := by decide +kernel
  have hlt : i < 157 := by rw [← hlen]; exact (List.getElem?_eq_some_iff.mp hi).1
  have key : ∀ k : Nat, (((mTabOf 410 mTabs).drop (10 * k)).take 10).all (mChkU 410) = true → 10 * k ≤ i → i < 10 * k + 10 → mChkU 410 b = true := fun k h h1 h2 => by
    refine List.all_eq_true.mp h b (List.mem_of_getElem? (i := i - 10 * k) ?_)
    rw [List.getElem?_take, if_pos (by omega), List.getElem?_drop, show 10 * k + (i - 10 * k) = i by omega]
    exact hi
  by_cases h0 : i < 10
  · exact key 0 mChkL_0 (by omega) (by omega)
  by_cases h1 : i < 20
  · exact key 1 mChkL_1 (by omega) (by omega)
  by_cases h2 : i < 30
  · exact key 2 mChkL_2 (by omega) (by omega)
  by_cases h3 : i < 40
  · exact key 3 mChkL_3 (by omega) (by omega)
  by_cases h4 : i < 50
  · exact key 4 mChkL_4 (by omega) (by omega)
  by_cases h5 : i < 60
  · exact key 5 mChkL_5 (by omega) (by omega)
  by_cases h6 : i < 70
  · exact key 6 mChkL_6 (by omega) (by omega)
  by_cases h7 : i < 80
  · exact key 7 mChkL_7 (by omega) (by omega)
  by_cases h8 : i < 90
  · exact key 8 mChkL_8 (by omega) (by omega)
  by_cases h9 : i < 100
  · exact key 9 mChkL_9 (by omega) (by omega)
  by_cases h10 : i < 110
  · exact key 10 mChkL_10 (by omega) (by omega)
  by_cases h11 : i < 120
  · exact key 11 mChkL_11 (by omega) (by omega)
  by_cases h12 : i < 130
  · exact key 12 mChkL_12 (by omega) (by omega)
  by_cases h13 : i < 140
  · exact key 13 mChkL_13 (by omega) (by omega)
  by_cases h14 : i < 150
  · exact key 14 mChkL_14 (by omega) (by omega)
  exact key 15 mChkL_15 (by omega) (by omega)
theorem mChk_ok {y : Nat} (hy : y < 411) : mChkM y = true := by
  have key : ∀ k n : Nat, ((List.range n).all fun y => mChkM (y + k)) = true → k ≤ y → y < k + n → mChkM y = true := fun k n h h1 h2 => by
    have h3 := List.all_eq_true.mp h (y - k) (List.mem_range.mpr (by omega))
    rw [show y - k + k = y by omega] at h3
    exact h3
  by_cases h0 : y < 8
  · exact key _ _ mChk_0 (by omega) (by omega)
  by_cases h1 : y < 16
  · exact key _ _ mChk_1 (by omega) (by omega)
  by_cases h2 : y < 24
  · exact key _ _ mChk_2 (by omega) (by omega)
  by_cases h3 : y < 32
  · exact key _ _ mChk_3 (by omega) (by omega)
  by_cases h4 : y < 40
  · exact key _ _ mChk_4 (by omega) (by omega)
  by_cases h5 : y < 48
  · exact key _ _ mChk_5 (by omega) (by omega)
  by_cases h6 : y < 56
  · exact key _ _ mChk_6 (by omega) (by omega)
  by_cases h7 : y < 64
  · exact key _ _ mChk_7 (by omega) (by omega)
  by_cases h8 : y < 72
  · exact key _ _ mChk_8 (by omega) (by omega)
  by_cases h9 : y < 80
  · exact key _ _ mChk_9 (by omega) (by omega)
  by_cases h10 : y < 88
  · exact key _ _ mChk_10 (by omega) (by omega)
  by_cases h11 : y < 96
  · exact key _ _ mChk_11 (by omega) (by omega)
  by_cases h12 : y < 104
  · exact key _ _ mChk_12 (by omega) (by omega)
  by_cases h13 : y < 112
  · exact key _ _ mChk_13 (by omega) (by omega)
  by_cases h14 : y < 120
  · exact key _ _ mChk_14 (by omega) (by omega)
  by_cases h15 : y < 128
  · exact key _ _ mChk_15 (by omega) (by omega)
  by_cases h16 : y < 136
  · exact key _ _ mChk_16 (by omega) (by omega)
  by_cases h17 : y < 144
  · exact key _ _ mChk_17 (by omega) (by omega)
  by_cases h18 : y < 152
  · exact key _ _ mChk_18 (by omega) (by omega)
  by_cases h19 : y < 160
  · exact key _ _ mChk_19 (by omega) (by omega)
  by_cases h20 : y < 168
  · exact key _ _ mChk_20 (by omega) (by omega)
  by_cases h21 : y < 176
  · exact key _ _ mChk_21 (by omega) (by omega)
  by_cases h22 : y < 184
  · exact key _ _ mChk_22 (by omega) (by omega)
  by_cases h23 : y < 192
  · exact key _ _ mChk_23 (by omega) (by omega)
  by_cases h24 : y < 200
  · exact key _ _ mChk_24 (by omega) (by omega)
  by_cases h25 : y < 208
  · exact key _ _ mChk_25 (by omega) (by omega)
  by_cases h26 : y < 216
  · exact key _ _ mChk_26 (by omega) (by omega)
  by_cases h27 : y < 224
  · exact key _ _ mChk_27 (by omega) (by omega)
  by_cases h28 : y < 232
  · exact key _ _ mChk_28 (by omega) (by omega)
  by_cases h29 : y < 240
  · exact key _ _ mChk_29 (by omega) (by omega)
  by_cases h30 : y < 248
  · exact key _ _ mChk_30 (by omega) (by omega)
  by_cases h31 : y < 256
  · exact key _ _ mChk_31 (by omega) (by omega)
  by_cases h32 : y < 264
  · exact key _ _ mChk_32 (by omega) (by omega)
  by_cases h33 : y < 272
  · exact key _ _ mChk_33 (by omega) (by omega)
  by_cases h34 : y < 280
  · exact key _ _ mChk_34 (by omega) (by omega)
  by_cases h35 : y < 288
  · exact key _ _ mChk_35 (by omega) (by omega)
  by_cases h36 : y < 296
  · exact key _ _ mChk_36 (by omega) (by omega)
  by_cases h37 : y < 304
  · exact key _ _ mChk_37 (by omega) (by omega)
  by_cases h38 : y < 312
  · exact key _ _ mChk_38 (by omega) (by omega)
  by_cases h39 : y < 320
  · exact key _ _ mChk_39 (by omega) (by omega)
  by_cases h40 : y < 328
  · exact key _ _ mChk_40 (by omega) (by omega)
  by_cases h41 : y < 336
  · exact key _ _ mChk_41 (by omega) (by omega)
  by_cases h42 : y < 344
  · exact key _ _ mChk_42 (by omega) (by omega)
  by_cases h43 : y < 352
  · exact key _ _ mChk_43 (by omega) (by omega)
  by_cases h44 : y < 360
  · exact key _ _ mChk_44 (by omega) (by omega)
  by_cases h45 : y < 368
  · exact key _ _ mChk_45 (by omega) (by omega)
  by_cases h46 : y < 376
  · exact key _ _ mChk_46 (by omega) (by omega)
  by_cases h47 : y < 384
  · exact key _ _ mChk_47 (by omega) (by omega)
  by_cases h48 : y < 392
  · exact key _ _ mChk_48 (by omega) (by omega)
  by_cases h49 : y < 400
  · exact key _ _ mChk_49 (by omega) (by omega)
  by_cases h50 : y < 408
  · exact key _ _ mChk_50 (by omega) (by omega)
  by_cases h51 : y < 410
  · exact key _ _ mChk_51 (by omega) (by omega)
  obtain rfl : y = 410 := by omega
  exact mChk_law
theorem mCs_ge : ∀ (as : List mV), as.length ≤ mCs as
  | [] => Nat.le_refl 0
  | w :: as => by
    have ih := mCs_ge as
    rcases w with x | x | x | x | x | x
    · show as.length + 1 ≤ mCs as + 1; omega
    · show as.length + 1 ≤ mCs as + 1; omega
    · show as.length + 1 ≤ mCs as + 1; omega
    · show as.length + 1 ≤ mCs as + 2; omega
    · show as.length + 1 ≤ mCs as + 1; omega
    · show as.length + 1 ≤ mCs as + 2; omega
theorem mC1_of {ρ : mRho} : ∀ {vs : List Value} {as : List mV}, mStk ρ vs as → mCs as ≤ as.length → ∀ v ∈ vs, v.category = 1
  | [], [], _, _, v, hv => by cases hv
  | v :: vs, w :: as, h, hc, u, hu => by
    have hg := mCs_ge as
    have hw : (∀ x, w ≠ mL x) ∧ (∀ x, w ≠ mD x) ∧ mCs as ≤ as.length := by
      rcases w with x | x | x | x | x | x
      · have hc : mCs as + 1 ≤ as.length + 1 := hc
        exact ⟨(fun z q => by cases q), (fun z q => by cases q), by omega⟩
      · have hc : mCs as + 1 ≤ as.length + 1 := hc
        exact ⟨(fun z q => by cases q), (fun z q => by cases q), by omega⟩
      · have hc : mCs as + 1 ≤ as.length + 1 := hc
        exact ⟨(fun z q => by cases q), (fun z q => by cases q), by omega⟩
      · have hc : mCs as + 2 ≤ as.length + 1 := hc
        omega
      · have hc : mCs as + 1 ≤ as.length + 1 := hc
        exact ⟨(fun z q => by cases q), (fun z q => by cases q), by omega⟩
      · have hc : mCs as + 2 ≤ as.length + 1 := hc
        omega
    rcases List.mem_cons.mp hu with rfl | hu
    · exact mVal_c1 h.1 hw.1 hw.2.1
    · exact mC1_of h.2 hw.2.2 u hu
  | [], _ :: _, h, _, _, _ => h.elim
  | _ :: _, [], h, _, _, _ => h.elim
theorem mGet_nones : ∀ (n i : Nat), mGet (List.replicate n none) i = none
  | 0, i => by cases i <;> rfl
  | n + 1, 0 => rfl
  | n + 1, i + 1 => mGet_nones n i
theorem mLoc_args {ρ : mRho} (n : Nat) : ∀ {vs : List Value} {as : List mV} (k : Nat), mStk ρ vs as → (∀ v ∈ vs, v.category = 1) → ∀ (i : Nat) (w : mV), mGet (as.map some ++ List.replicate n none) i = some w → ∃ x, (k + i, x) ∈ lv_args k vs ∧ mVal ρ x w
  | [], [], k, _, _, i, w, h => by
    have h : mGet (List.replicate n none) i = some w := h
    rw [mGet_nones] at h
    cases h
  | v :: vs, w0 :: as, k, hs, hc, i, w, h => by
    have h1 := hc v List.mem_cons_self
    unfold lv_args
    rw [if_neg (by rw [h1]; decide)]
    cases i with
    | zero =>
      have h : some w0 = some w := h
      cases h
      exact ⟨v, List.mem_cons_self, hs.1⟩
    | succ i =>
      obtain ⟨x, g1, g2⟩ := mLoc_args n (k + 1) hs.2 (fun u hu => hc u (List.mem_cons_of_mem _ hu)) i w h
      exact ⟨x, List.mem_cons_of_mem _ (by rw [show k + (i + 1) = k + 1 + i by omega]; exact g1), g2⟩
  | [], _ :: _, _, h, _, _, _, _ => h.elim
  | _ :: _, [], _, h, _, _, _, _ => h.elim
theorem lv_args_in : ∀ (vs : List Value) (k : Nat) (q : Nat × Value), q ∈ lv_args k vs → q.2 ∈ vs
  | [], _, q, h => by cases h
  | v :: vs, k, q, h => by
    unfold lv_args at h
    rcases List.mem_cons.mp h with rfl | h
    · exact List.mem_cons_self
    · exact List.mem_cons_of_mem _ (lv_args_in vs _ q h)
theorem mLoc_entry {ρ : mRho} {y : Nat} {vs : List Value} {as : List mV} {ls : Array Slot} (hs : mStk ρ vs as) (hc : mCs as ≤ as.length) (hm : as.length ≤ mMaxL y) (hl : lv_has ls (mMaxL y) (lv_args 0 vs)) : mLoc ρ y ls (mPad (mMaxL y) (as.map some)) := by
  refine ⟨?_, lv_args 0 vs, hl, fun i w h => ?_, fun _ q hq => mC1_of hs hc _ (lv_args_in vs 0 q hq)⟩
  · unfold mPad
    rw [List.length_append, List.length_map, List.length_replicate]
    omega
  · obtain ⟨x, g1, g2⟩ := mLoc_args _ 0 hs (mC1_of hs hc) i w h
    rw [Nat.zero_add] at g1
    exact ⟨x, g1, g2⟩
theorem mGood_all {ρ : mRho} {l : Launch} (hl : l.stackTraces = false) : ∀ D : Nat, mGood ρ l D
  | 0 => fun y as I S r I' S' mc ms hy h => h.elim
  | D + 1 => fun y as I S r I' S' mc ms hy h hmc hms => by
    refine vx_ofW (cc := mBy y) (maxL := mMaxL y) (ret := mRet y) (mMet hy).2.2.1 rfl ?_
    intro p e s m args below meth c s₁ B hml hex hP
    obtain ⟨⟨vs, rfl, hvs⟩, hH, hT, hW⟩ := hP
    have hts0 := atoms_spec (ws := mWs y) B.pre
    have hts : ∀ w ∈ mWl, w.before vs.toArray s = true := fun w hw => hts0 w (List.mem_cons_of_mem _ hw)
    have hown := findClass_of_methodNamed B.named
    rw [(mMet hy).2.1] at hown
    have hnm : meth.name = (mNm y).name := (name_of_methodNamed B.named B.method).1
    have C : mCx ρ p l e (mRm (D + 1) mc ms) s m vs.toArray below meth c _ y s.heap S S' D mc ms r I' := ⟨⟨B.exec, B.bytes, hml, hown⟩, ⟨hts, hT, hW⟩, ⟨rfl, fun _ => hex, B.notSynchronized, hl, fun _ => rfl, fun h9 => absurd h9 (by omega), fun h9 => absurd h9 (by omega), fun h9 => absurd h9 (by omega)⟩, ⟨mGood_all hl D, rfl, hmc, hms⟩, ⟨B.returns, fun _ => hnm⟩⟩
    have h2 := mBlkAll C (mChk_ok (by omega)) h.2
    have hlen : vs.length = as.length := mStk_len hvs
    have hl0 := lv_entry vs (n := mMaxL y) (by rw [lg_sl1 vs (mC1_of hvs h.1.1), hlen]; exact h.1.2)
    rw [lg_entry_eq]
    generalize (lg_sl vs ++ List.replicate (mMaxL y - (lg_sl vs).length) Slot.unset).toArray = ls at hl0 ⊢
    exact h2.2 s.heap [] 0 0 ls [] (mLoc_entry hvs h.1.1 h.1.2 hl0) trivial hH ⟨hH.2.1, Nat.le_refl _, fun _ _ => rfl, fun z hz => by cases hz⟩ ⟨by show S.2.2.2.1 = S.2.2.2.1 + 0; omega, by show S.2.2.2.2 = S.2.2.2.2 + 0; omega⟩
theorem mGoodH_all {ρ : mRho} {l : Launch} (hl : l.stackTraces = false) : ∀ D : Nat, mGoodH ρ l D
  | 0 => fun y as I S v I' S' mc ms hy hy2 h => h.elim
  | D + 1 => fun y as I S v I' S' mc ms hy hy2 h hmc hms => by
    refine vx_ofWH (cc := mBy y) (maxL := mMaxL y) (ret := mRet y) (hh := mHT y) (mMetH hy hy2).2.2.1 rfl ?_
    intro p e s m args below meth c s₁ B hml hP
    obtain ⟨⟨vs, rfl, hvs⟩, hH, hT, hW⟩ := hP
    have hts0 := atoms_spec (ws := mWsH1 y :: mWl) B.pre
    have hts : ∀ w ∈ mWl, w.before vs.toArray s = true := fun w hw => hts0 w (List.mem_cons_of_mem _ hw)
    have htb := vx_table B (hts0 (mWsH1 y) List.mem_cons_self)
    have hown := findClass_of_methodNamed B.named
    rw [(mMetH hy hy2).2.1] at hown
    have hnm : meth.name = (mNm y).name := (name_of_methodNamed B.named B.method).1
    have C : mCx ρ p l e (mRm (D + 1) mc ms) s m vs.toArray below meth c _ y s.heap S S' D mc ms (.inl v) I' := ⟨⟨B.exec, B.bytes, hml, hown⟩, ⟨hts, hT, hW⟩, ⟨rfl, fun h9 => absurd h9 (by omega), B.notSynchronized, hl, fun _ => rfl, fun _ => ⟨v, rfl⟩, fun _ _ => htb, fun h9 => absurd h9 (by omega)⟩, ⟨mGood_all hl D, rfl, hmc, hms⟩, ⟨B.returns, fun _ => hnm⟩⟩
    have h2 := mBlkAll C (mChk_ok (by omega)) h.2
    have hlen : vs.length = as.length := mStk_len hvs
    have hl0 := lv_entry vs (n := mMaxL y) (by rw [lg_sl1 vs (mC1_of hvs h.1.1), hlen]; exact h.1.2)
    rw [lg_entry_eq]
    generalize (lg_sl vs ++ List.replicate (mMaxL y - (lg_sl vs).length) Slot.unset).toArray = ls at hl0 ⊢
    exact h2.2 s.heap [] 0 0 ls [] (mLoc_entry hvs h.1.1 h.1.2 hl0) trivial hH ⟨hH.2.1, Nat.le_refl _, fun _ _ => rfl, fun z hz => by cases hz⟩ ⟨by show S.2.2.2.1 = S.2.2.2.1 + 0; omega, by show S.2.2.2.2 = S.2.2.2.2 + 0; omega⟩
