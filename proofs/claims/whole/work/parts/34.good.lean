/-! Every method of the program is checked: a run of the small machine is a run of the machine. -/
theorem mCs_ge : ∀ (as : List mV), as.length ≤ mCs as
  | [] => Nat.le_refl 0
  | w :: as => by
    have ih := mCs_ge as
    rcases w with x | x | x | x | x | x
    · show as.length + 1 ≤ mCs as + 1; omega
    · show as.length + 1 ≤ mCs as + 1; omega
    · show as.length + 1 ≤ mCs as + 1; omega
    · show as.length + 1 ≤ mCs as + 2; omega
    · show as.length + 1 ≤ mCs as + 1; omega
    · show as.length + 1 ≤ mCs as + 2; omega
theorem mC1_of {ρ : mRho} : ∀ {vs : List Value} {as : List mV}, mStk ρ vs as → mCs as ≤ as.length → ∀ v ∈ vs, v.category = 1
  | [], [], _, _, v, hv => by cases hv
  | v :: vs, w :: as, h, hc, u, hu => by
    have hg := mCs_ge as
    have hw : (∀ x, w ≠ mL x) ∧ (∀ x, w ≠ mD x) ∧ mCs as ≤ as.length := by
      rcases w with x | x | x | x | x | x
      · have hc : mCs as + 1 ≤ as.length + 1 := hc
        exact ⟨(fun z q => by cases q), (fun z q => by cases q), by omega⟩
      · have hc : mCs as + 1 ≤ as.length + 1 := hc
        exact ⟨(fun z q => by cases q), (fun z q => by cases q), by omega⟩
      · have hc : mCs as + 1 ≤ as.length + 1 := hc
        exact ⟨(fun z q => by cases q), (fun z q => by cases q), by omega⟩
      · have hc : mCs as + 2 ≤ as.length + 1 := hc
        omega
      · have hc : mCs as + 1 ≤ as.length + 1 := hc
        exact ⟨(fun z q => by cases q), (fun z q => by cases q), by omega⟩
      · have hc : mCs as + 2 ≤ as.length + 1 := hc
        omega
    rcases List.mem_cons.mp hu with rfl | hu
    · exact mVal_c1 h.1 hw.1 hw.2.1
    · exact mC1_of h.2 hw.2.2 u hu
  | [], _ :: _, h, _, _, _ => h.elim
  | _ :: _, [], h, _, _, _ => h.elim
theorem mGet_nones : ∀ (n i : Nat), mGet (List.replicate n none) i = none
  | 0, i => by cases i <;> rfl
  | n + 1, 0 => rfl
  | n + 1, i + 1 => mGet_nones n i
theorem mLoc_args {ρ : mRho} (n : Nat) : ∀ {vs : List Value} {as : List mV} (k : Nat), mStk ρ vs as → (∀ v ∈ vs, v.category = 1) → ∀ (i : Nat) (w : mV), mGet (as.map some ++ List.replicate n none) i = some w → ∃ x, (k + i, x) ∈ lv_args k vs ∧ mVal ρ x w
  | [], [], k, _, _, i, w, h => by
    have h : mGet (List.replicate n none) i = some w := h
    rw [mGet_nones] at h
    cases h
  | v :: vs, w0 :: as, k, hs, hc, i, w, h => by
    have h1 := hc v List.mem_cons_self
    unfold lv_args
    rw [if_neg (by rw [h1]; decide)]
    cases i with
    | zero =>
      have h : some w0 = some w := h
      cases h
      exact ⟨v, List.mem_cons_self, hs.1⟩
    | succ i =>
      obtain ⟨x, g1, g2⟩ := mLoc_args n (k + 1) hs.2 (fun u hu => hc u (List.mem_cons_of_mem _ hu)) i w h
      exact ⟨x, List.mem_cons_of_mem _ (by rw [show k + (i + 1) = k + 1 + i by omega]; exact g1), g2⟩
  | [], _ :: _, _, h, _, _, _, _ => h.elim
  | _ :: _, [], _, h, _, _, _, _ => h.elim
theorem lv_args_in : ∀ (vs : List Value) (k : Nat) (q : Nat × Value), q ∈ lv_args k vs → q.2 ∈ vs
  | [], _, q, h => by cases h
  | v :: vs, k, q, h => by
    unfold lv_args at h
    rcases List.mem_cons.mp h with rfl | h
    · exact List.mem_cons_self
    · exact List.mem_cons_of_mem _ (lv_args_in vs _ q h)
theorem mLoc_entry {ρ : mRho} {y : Nat} {vs : List Value} {as : List mV} {ls : Array Slot} (hs : mStk ρ vs as) (hc : mCs as ≤ as.length) (hm : as.length ≤ mMaxL y) (hl : lv_has ls (mMaxL y) (lv_args 0 vs)) : mLoc ρ y ls (mPad (mMaxL y) (as.map some)) := by
  refine ⟨?_, lv_args 0 vs, hl, fun i w h => ?_, fun _ q hq => mC1_of hs hc _ (lv_args_in vs 0 q hq)⟩
  · unfold mPad
    rw [List.length_append, List.length_map, List.length_replicate]
    omega
  · obtain ⟨x, g1, g2⟩ := mLoc_args _ 0 hs (mC1_of hs hc) i w h
    rw [Nat.zero_add] at g1
    exact ⟨x, g1, g2⟩
theorem mGood_all {ρ : mRho} {l : Launch} (hl : l.stackTraces = false) : ∀ D : Nat, mGood ρ l D
  | 0 => fun y as I S r I' S' mc ms hy h => h.elim
  | D + 1 => fun y as I S r I' S' mc ms hy h hmc hms => by
    refine vx_ofW (cc := mBy y) (maxL := mMaxL y) (ret := mRet y) (mMet hy).2.2.1 rfl ?_
    intro p e s m args below meth c s₁ B hml hex hP
    obtain ⟨⟨vs, rfl, hvs⟩, hH, hT, hW⟩ := hP
    have hts0 := atoms_spec (ws := mWs y) B.pre
    have hts : ∀ w ∈ mWl, w.before vs.toArray s = true := fun w hw => hts0 w (List.mem_cons_of_mem _ hw)
    have hown := findClass_of_methodNamed B.named
    rw [(mMet hy).2.1] at hown
    have hnm : meth.name = (mNm y).name := (name_of_methodNamed B.named B.method).1
    have C : mCx ρ p l e (mRm (D + 1) mc ms) s m vs.toArray below meth c _ y s.heap S S' D mc ms r I' := ⟨⟨B.exec, B.bytes, hml, hown⟩, ⟨hts, hT, hW⟩, ⟨rfl, fun _ => hex, B.notSynchronized, hl, fun _ => rfl, fun h9 => absurd h9 (by omega), fun h9 => absurd h9 (by omega), fun h9 => absurd h9 (by omega)⟩, ⟨mGood_all hl D, rfl, hmc, hms⟩, ⟨B.returns, fun _ => hnm⟩⟩
    have h2 := mBlkAll C (mChk_ok (by omega)) h.2
    have hlen : vs.length = as.length := mStk_len hvs
    have hl0 := lv_entry vs (n := mMaxL y) (by rw [lg_sl1 vs (mC1_of hvs h.1.1), hlen]; exact h.1.2)
    rw [lg_entry_eq]
    generalize (lg_sl vs ++ List.replicate (mMaxL y - (lg_sl vs).length) Slot.unset).toArray = ls at hl0 ⊢
    exact h2.2 s.heap [] 0 0 ls [] (mLoc_entry hvs h.1.1 h.1.2 hl0) trivial hH ⟨hH.2.1, Nat.le_refl _, fun _ _ => rfl, fun z hz => by cases hz⟩ ⟨by show S.2.2.2.1 = S.2.2.2.1 + 0; omega, by show S.2.2.2.2 = S.2.2.2.2 + 0; omega⟩
theorem mGoodH_all {ρ : mRho} {l : Launch} (hl : l.stackTraces = false) : ∀ D : Nat, mGoodH ρ l D
  | 0 => fun y as I S v I' S' mc ms hy hy2 h => h.elim
  | D + 1 => fun y as I S v I' S' mc ms hy hy2 h hmc hms => by
    refine vx_ofWH (cc := mBy y) (maxL := mMaxL y) (ret := mRet y) (hh := mHT y) (mMetH hy hy2).2.2.1 rfl ?_
    intro p e s m args below meth c s₁ B hml hP
    obtain ⟨⟨vs, rfl, hvs⟩, hH, hT, hW⟩ := hP
    have hts0 := atoms_spec (ws := mWsH1 y :: mWl) B.pre
    have hts : ∀ w ∈ mWl, w.before vs.toArray s = true := fun w hw => hts0 w (List.mem_cons_of_mem _ hw)
    have htb := vx_table B (hts0 (mWsH1 y) List.mem_cons_self)
    have hown := findClass_of_methodNamed B.named
    rw [(mMetH hy hy2).2.1] at hown
    have hnm : meth.name = (mNm y).name := (name_of_methodNamed B.named B.method).1
    have C : mCx ρ p l e (mRm (D + 1) mc ms) s m vs.toArray below meth c _ y s.heap S S' D mc ms (.inl v) I' := ⟨⟨B.exec, B.bytes, hml, hown⟩, ⟨hts, hT, hW⟩, ⟨rfl, fun h9 => absurd h9 (by omega), B.notSynchronized, hl, fun _ => rfl, fun _ => ⟨v, rfl⟩, fun _ _ => htb, fun h9 => absurd h9 (by omega)⟩, ⟨mGood_all hl D, rfl, hmc, hms⟩, ⟨B.returns, fun _ => hnm⟩⟩
    have h2 := mBlkAll C (mChk_ok (by omega)) h.2
    have hlen : vs.length = as.length := mStk_len hvs
    have hl0 := lv_entry vs (n := mMaxL y) (by rw [lg_sl1 vs (mC1_of hvs h.1.1), hlen]; exact h.1.2)
    rw [lg_entry_eq]
    generalize (lg_sl vs ++ List.replicate (mMaxL y - (lg_sl vs).length) Slot.unset).toArray = ls at hl0 ⊢
    exact h2.2 s.heap [] 0 0 ls [] (mLoc_entry hvs h.1.1 h.1.2 hl0) trivial hH ⟨hH.2.1, Nat.le_refl _, fun _ _ => rfl, fun z hz => by cases hz⟩ ⟨by show S.2.2.2.1 = S.2.2.2.1 + 0; omega, by show S.2.2.2.2 = S.2.2.2.2 + 0; omega⟩
