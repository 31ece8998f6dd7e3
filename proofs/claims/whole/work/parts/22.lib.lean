/-! Library calls and throws. -/
section NLB
variable {ρ : mRho} {p : Program} {l : Launch} {e : Env} {R : Room} {s : State} {m : MethodId} {args : Array Value} {below : List Frame} {meth : Method} {c : Code} {Qe : State → Prop} {y : Nat} {H0 : Heap} {S0 Sf : mH}
variable {pc : Nat} {mls : mM} {mst : List mV} {I I' : mN} {S S' : mH} {own : String} {idx : Nat}
theorem st_obj {a : Int} (hx : p.tables.exec = Jvm.exec) (hb : c.code = mBy y) (hml : c.maxLocals = mMaxL y) (hown : s.vm.findClass own = some m.cls) (hl : (Jvm.Cond.methodLink own idx Lib.objectInit).before args s = true) (hin : (Jvm.Cond.instanceMethod Lib.objectInit).before args s = true) (hco : (Jvm.Cond.code Lib.objectInit ⟨#[177]⟩ 1 none).before args s = true)
    (hR1 : 1 ≤ R.frames) (hR2 : 20 ≤ R.locals) (hcs : mCs mst ≤ 8) (ha : 0 ≤ a) (hd : decode (mBy y) pc = .ok (.invokespecial idx, 3)) (h : mPt ρ p l e R s m args below meth c Qe y H0 S0 Sf (pc + 3) (mls, mst, I, S)) : mPt ρ p l e R s m args below meth c Qe y H0 S0 Sf pc (mls, mR a :: mst, I, S) := by
  refine ⟨h.1, fun H locs cells slots ls stk hL hS hH hO hC => ?_⟩
  dsimp only at hL hS hH hC
  obtain ⟨v1, stk1, rfl, h1, hB⟩ := mStk_c hS
  have hv : v1 = .ref a.toNat := mRef_ge h1 ha
  subst hv
  have hlsz : ls.size = mMaxL y := by obtain ⟨-, lv, hl, -⟩ := hL; exact hl.1
  exact W.objInit hx hb hown hl hin hco rfl (by rw [hml]; exact hlsz) (a := a.toNat) (rest := stk1) rfl hd hR1 (by rw [mCs_ok hB]; show 2 * 0 + mCs mst + 12 ≤ R.locals; omega) (h.2 H locs cells slots ls stk1 hL hB hH hO hC)
theorem st_copy {a b sp dp n : Int} (hx : p.tables.exec = Jvm.exec) (hb : c.code = mBy y) (hml : c.maxLocals = mMaxL y) (hown : s.vm.findClass own = some m.cls) (hlink : (Jvm.Cond.methodLink own idx arraycopyName).before args s = true) (hnat : (Jvm.Cond.native arraycopyName).before args s = true) (hstat : (Jvm.Cond.static arraycopyName).before args s = true) (hini : (Jvm.Cond.initialized "java/lang/System").before args s = true)
    (hR1 : 1 ≤ R.frames) (hR2 : 200 ≤ R.locals) (hcs : mCs mst ≤ 8) (hka : S.2.1 a = 50) (hkb : S.2.1 b = 50) (h1 : 0 ≤ sp) (h2 : 0 ≤ dp) (h3 : 0 ≤ n) (h4 : sp + n ≤ S.2.2.1 a) (h5 : dp + n ≤ S.2.2.1 b) (hd : decode (mBy y) pc = .ok (.invokestatic idx, 3))
    (h : mPt ρ p l e R s m args below meth c Qe y H0 S0 Sf (pc + 3) (mls, mst, mUa I b (mTake (I a) (I b) sp dp n), S)) : mPt ρ p l e R s m args below meth c Qe y H0 S0 Sf pc (mls, mI n :: mI dp :: mR b :: mI sp :: mR a :: mst, I, S) := by
  refine ⟨h.1, fun H locs cells slots ls stk hL hS hH hO hC => ?_⟩
  dsimp only at hL hS hH hC
  obtain ⟨v5, stk5, rfl, g5, hS⟩ := mStk_c hS
  obtain ⟨v4, stk4, rfl, g4, hS⟩ := mStk_c hS
  obtain ⟨v3, stk3, rfl, g3, hS⟩ := mStk_c hS
  obtain ⟨v2, stk2, rfl, g2, hS⟩ := mStk_c hS
  obtain ⟨v1, stk1, rfl, g1, hB⟩ := mStk_c hS
  obtain ⟨i5, rfl⟩ := g5
  obtain ⟨i4, rfl⟩ := g4
  obtain ⟨i2, rfl⟩ := g2
  have hlsz : ls.size = mMaxL y := by obtain ⟨-, lv, hl, -⟩ := hL; exact hl.1
  have hI0 : ∀ {z : Int}, mIn z → 0 ≤ z → ¬ mO z < 0 := fun {z} hz h0 hn => by
    rw [← mO_0] at hn
    have := (mO_lt hz (by unfold mIn; omega)).mp hn
    omega
  obtain ⟨⟨a0, hla⟩, ⟨hNa, -⟩, cA, V, hcA, hVA⟩ := mHeap_arr hH hka (by omega) (by omega)
  obtain ⟨⟨b0, hlb⟩, ⟨hNb, hNb2⟩, cB, V', hcB, hVB⟩ := mHeap_arr hH hkb (by omega) (by omega)
  have e1 : v1 = .ref a.toNat := mRef_ge g1 a0
  have e3 : v3 = .ref b.toNat := mRef_ge g3 b0
  subst e1; subst e3
  have hVA : ArrOfT s cA .int ∧ ∀ j : Nat, (j : Int) < S.2.2.1 a → mIn (I a j) ∧ V j = .int (mO (I a j)) := by
    rcases hVA with ⟨z, hV⟩ | ⟨z, -⟩ | ⟨z, -⟩ | ⟨z, -⟩ | ⟨c', q', hc', z, -⟩
    · exact hV
    all_goals omega
  have hVB : ArrOfT s cB .int ∧ ∀ j : Nat, (j : Int) < S.2.2.1 b → mIn (I b j) ∧ V' j = .int (mO (I b j)) := by
    rcases hVB with ⟨z, hV⟩ | ⟨z, -⟩ | ⟨z, -⟩ | ⟨z, -⟩ | ⟨c', q', hc', z, -⟩
    · exact hV
    all_goals omega
  intro T hT X
  have t2 : (mO sp).toNatClampNeg = sp.toNat := mO_clamp i2 h1
  have t4 : (mO dp).toNatClampNeg = dp.toNat := mO_clamp i4 h2
  have t5 : (mO n).toNatClampNeg = n.toNat := mO_clamp i5 h3
  obtain ⟨-, k0, hk0, cm0, hkk0⟩ := hVA.1 (S.2.2.1 a).toNat V
  obtain ⟨-, k1, hk1, cm1, hkk1⟩ := hVB.1 (S.2.2.1 b).toNat V'
  have hfw : nativeFrameWords "java/lang/System" "arraycopy" 5 + 11 ≤ 190 := by decide +kernel
  obtain ⟨vm', X', step⟩ := X.arraycopy hx hown hlink hnat hstat hini (src := a.toNat) (dst := b.toNat) (cs := arrV cA (S.2.2.1 a).toNat V) (cd := arrV cB (S.2.2.1 b).toNat V') (srcPos := mO sp) (destPos := mO dp) (n := mO n) (by rw [hT]; exact hcA) (by rw [hT]; exact hcB)
    (fun _ h => by cases h) (fun _ h => by cases h) (fun h => by cases h) (fun h => by cases h) hk0 hk1 hkk0 hkk1 rfl (hI0 i2 h1) (hI0 i4 h2) (hI0 i5 h3)
    (by rw [mO_toInt i2, mO_toInt i5, arrV_size]; omega)
    (by rw [mO_toInt i4, mO_toInt i5, arrV_size]; omega)
    (fun vm₁ _ i hi => by
      rw [t5] at hi
      have e9 : (arrV cA (S.2.2.1 a).toNat V).slots.getD ((mO sp).toNatClampNeg + i) .null = V (sp.toNat + i) := by
        rw [t2, Array.getD_eq_getD_getElem?, arrV_read _ _ (by omega)]
        rfl
      rw [e9, (hVA.2 (sp.toNat + i) (by omega)).2]
      exact ⟨rfl, trivial⟩)
    (g := F0 m pc ls (.int (mO n) :: .int (mO dp) :: .ref b.toNat :: .int (mO sp) :: .ref a.toNat :: stk1)) rfl (by rw [hml]; exact hlsz) (rest := stk1) rfl (by rw [hb]; exact hd) hR1 (by rw [mCs_ok hB]; show 2 * 0 + mCs mst + (nativeFrameWords "java/lang/System" "arraycopy" 5 + 11) ≤ R.locals; omega)
  have e1 : copied (arrV cA (S.2.2.1 a).toNat V) (arrV cB (S.2.2.1 b).toNat V') (mO sp) (mO dp) (mO n) = arrV cB (S.2.2.1 b).toNat (va_cpy V V' (mO sp).toNatClampNeg (mO dp).toNatClampNeg (mO n).toNatClampNeg) := va_copied (fun z => z) cA cB V V' (by omega)
  rw [e1, t2, t4, t5] at X' step
  have hl : b.toNat < H.size := (Array.getElem?_eq_some_iff.mp hcB).1
  obtain ⟨cl, hcl⟩ : ∃ z, z = arrV cB (S.2.2.1 b).toNat (va_cpy V V' sp.toNat dp.toNat n.toNat) := ⟨_, rfl⟩
  rw [← hcl] at X' step
  have hheap : ((T.setVm vm').setCell b.toNat cl).heap = H.setIfInBounds b.toNat cl := by rw [← hT]; rfl
  have oq : ∀ q : Nat, q ≠ b.toNat → (H.setIfInBounds b.toNat cl)[q]? = H[q]? := fun q hq => by simp [Array.getElem?_setIfInBounds, Ne.symm hq]
  have oz : (H.setIfInBounds b.toNat cl).size = H.size := Array.size_setIfInBounds
  have ob : (H.setIfInBounds b.toNat cl)[b.toNat]? = some cl := by simp [Array.getElem?_setIfInBounds, hl]
  have hO' : mOld ρ H0 (H.setIfInBounds b.toNat cl) (locs ++ ((arrV cA (S.2.2.1 a).toNat V).stretch sp.toNat n.toNat).zipIdx.map fun q => ⟨b.toNat, dp.toNat + q.2⟩) := by
    refine ⟨hO.1, by rw [oz]; exact hO.2.1, fun q hq => by rw [oq q (by omega)]; exact hO.2.2.1 q hq, fun w hw => ?_⟩
    rcases List.mem_append.mp hw with hw | hw
    · exact hO.2.2.2 w hw
    · obtain ⟨z, -, hz⟩ := List.mem_map.mp hw
      rw [← hz]; exact hlb
  have hH' : mHeap ρ s (mUa I b (mTake (I a) (I b) sp dp n)) S (H.setIfInBounds b.toNat cl) := by
    refine mHeap_put hH b0 oz oq (fun z hz => mUa_ne hz) (fun z _ => rfl) rfl (Or.inr (Or.inr (Or.inl ⟨⟨b0, hlb⟩, ⟨hNb, hNb2⟩, cB, _, by rw [ob, hcl], Or.inl ⟨hkb, hVB.1, fun j hj => ?_⟩⟩)))
    have e7 : mUa I b (mTake (I a) (I b) sp dp n) b j = mTake (I a) (I b) sp dp n j := congrFun (mUa_eq rfl) _
    rw [e7]
    unfold va_cpy mTake
    by_cases z : dp.toNat ≤ j ∧ j < dp.toNat + n.toNat
    · rw [if_pos z, if_pos (by omega)]
      have h9 := hVA.2 (sp.toNat + (j - dp.toNat)) (by omega)
      have e8 : ((sp.toNat + (j - dp.toNat) : Nat) : Int) = sp + ((j : Int) - dp) := by omega
      rw [e8] at h9
      exact h9
    · rw [if_neg z, if_neg (by omega)]
      exact hVB.2 j hj
  obtain ⟨t, a1, b1⟩ := h.2 _ _ cells slots ls stk1 hL hB hH' hO' hC _ hheap X'
  exact ⟨t, step t a1, b1⟩
end NLB
