theorem mClz_d0 : mClz.all (fun q => (List.range q.2.2).all (fun k => decide (((q.2.1 k).2.2.1 = "I" ∧ mFt (q.2.1 k).2.2.1 = .int) ∨ ((q.2.1 k).2.2.1 = "Z" ∧ mFt (q.2.1 k).2.2.1 = .boolean) ∨ (((q.2.1 k).2.2.1 ≠ "I" ∧ (q.2.1 k).2.2.1 ≠ "Z") ∧ defaultValue (mFt (q.2.1 k).2.2.1) = .null)))) = true := by decide +kernel
theorem mFld_0 {c : Nat} {q : vw_C} (hc : mClz[c]? = some q) {k : Nat} (hk : k < q.2.2) : mFld (q.2.1 k).2.2.1 (defaultValue (mFt (q.2.1 k).2.2.1)) 0 (-1) := by
  have h1 := List.all_eq_true.mp mClz_d0 q (List.mem_of_getElem? hc)
  have h2 := of_decide_eq_true (List.all_eq_true.mp h1 k (List.mem_range.mpr hk))
  unfold mFld
  rcases h2 with ⟨a, b⟩ | ⟨a, b⟩ | ⟨⟨a1, a2⟩, b⟩
  · rw [if_pos a, b]; exact ⟨mIn_0, rfl⟩
  · rw [if_neg (by rw [a]; decide), if_pos a, b]; exact ⟨by omega, rfl⟩
  · rw [if_neg a1, if_neg a2, b]; exact Or.inl ⟨rfl, rfl⟩
/-! One instruction: references stored, new cells, switches, the library's own methods. -/
theorem mHeap_new {ρ : mRho} {U : State} {H H' : Heap} {I : mN} {S : mH} {k n : Int} (h : mHeap ρ U I S H) (hz : H'.size = H.size + 1) (hq : ∀ q : Nat, q < H.size → H'[q]? = H[q]?) (hc : mCell ρ U H' (mNewN I S) (mNewH S k n) (H.size : Int)) : mHeap ρ U (mNewN I S) (mNewH S k n) H' := by
  obtain ⟨h1, h2, h3, h4⟩ := id h
  refine ⟨by show S.2.2.2.1 + 1 = _; rw [h1, hz]; omega, by omega, h3, fun a => ?_⟩
  by_cases e : a = (H.size : Int)
  · rw [e]; exact hc
  · have e2 : a ≠ S.2.2.2.1 := by rw [h1]; exact e
    refine mCell_kept (h4 a) (fun hk => hq _ (mHeap_lt h hk).2) ?_ ?_ ?_ ?_ (fun e _ => by rw [e]; rfl)
    · exact mUa_ne e2
    · exact mUa_ne e2
    · exact mUk_ne e2
    · exact mUk_ne e2
theorem mOld_new {ρ : mRho} {H0 H H' : Heap} {locs : List Loc} (h : mOld ρ H0 H locs) (hz : H'.size = H.size + 1) (hq : ∀ q : Nat, q < H.size → H'[q]? = H[q]?) : mOld ρ H0 H' locs := ⟨h.1, by have := h.2.1; omega, fun q hlt => by rw [hq q (by have := h.1; have := h.2.1; omega)]; exact h.2.2.1 q hlt, h.2.2.2⟩
theorem mNew_at (I : mN) (S : mH) (k n : Int) : mNewN I S S.2.2.2.1 = (fun _ => 0) ∧ (mNewH S k n).1 S.2.2.2.1 = (fun _ => -1) ∧ (mNewH S k n).2.1 S.2.2.2.1 = k ∧ (mNewH S k n).2.2.1 S.2.2.2.1 = n := ⟨mUa_eq rfl, mUa_eq rfl, mUk_eq rfl, mUk_eq rfl⟩
section MS3
variable {ρ : mRho} {p : Program} {l : Launch} {e : Env} {R : Room} {s : State} {m : MethodId} {args : Array Value} {below : List Frame} {meth : Method} {c : Code} {Qe : State → Prop} {y : Nat} {H0 : Heap} {S0 Sf : mH}
variable {pc : Nat} {mls : mM} {mst : List mV} {I I' : mN} {S S' : mH} {x i : Int} {own : String} {idx : Nat} {cn k : Nat} {q : vw_C}
theorem st_aastore (hx : p.tables.exec = Jvm.exec) (hb : c.code = mBy y) {v : Int} (hT : mTab ρ s) (hc : mClz[cn]? = some q) (hkd : S.2.1 x = (cn : Int) + 60) (hkv : S.2.1 v = (cn : Int) + 1) (h0 : 0 ≤ i) (h3 : i < S.2.2.1 x) (hd : decode (mBy y) pc = .ok (.aastore, 1)) (h : mPt ρ p l e R s m args below meth c Qe y H0 S0 Sf (pc + 1) (mls, mst, I, (mUp S.1 x i v, S.2))) : mPt ρ p l e R s m args below meth c Qe y H0 S0 Sf pc (mls, mR v :: mI i :: mR x :: mst, I, S) := by
  refine ⟨h.1, fun H locs cells slots ls stk hL hS hH hO hC => ?_⟩
  dsimp only at hL hS hH hC
  have hcn := mClz_lt hc
  obtain ⟨v3, stk3, rfl, h9, hE⟩ := mStk_c hS
  obtain ⟨v2, stk2, rfl, h2, hA⟩ := mStk_c hE
  obtain ⟨v1, stk1, rfl, h1, hB⟩ := mStk_c hA
  obtain ⟨ii, rfl⟩ := h2
  obtain ⟨hco, hN, cA, V, hcell, hV⟩ := mHeap_arr hH hkd (by omega) (by omega)
  have hv := mRef_ge h1 hco.1
  subst hv
  obtain ⟨hov, W9, ⟨cv, g1, g2, g3, -⟩, -⟩ := mHeap_obj hH hc hkv
  have hv := mRef_ge h9 hov.1.1
  subst hv
  obtain ⟨hin, hrd, hcl⟩ := mIx (cA := cA) (V := V) ii h0 h3
  have hV : ArrOfT s cA (.object q.1) ∧ va_RA s cA (.object q.1) ∧ ∀ j : Nat, (j : Int) < S.2.2.1 x → mRef (V j) (S.1 x j) := by
    rcases hV with ⟨z, -⟩ | ⟨z, -⟩ | ⟨z, -⟩ | ⟨z, -⟩ | ⟨c', q', hc', z, hV1, hV2, hV3⟩
    rotate_left 4
    · have : c' = cn := by omega
      subst this
      cases hc.symm.trans hc'
      exact ⟨hV1, hV2, hV3⟩
    all_goals omega
  obtain ⟨hV1, ⟨kA, comp, k1, k2, k3, k4⟩, hV3⟩ := hV
  have hcls := (hT.1 cn q hc).2
  have hcomp : comp = ρ.1 cn := Option.some.inj (k3.symm.trans hcls.1)
  subst hcomp
  obtain ⟨kC, hkC, -⟩ := id hcls.2
  refine W.aast hx hb hcell (fun q h => by cases h) (fun h => by cases h) k1 k2 rfl hkC ⟨fun z => hin (Or.inl z), by rw [arrV_size, hcl]; omega⟩ g1 (fun q h => by rw [g3] at h; cases h) (by rw [g2]; exact hkC) (by rw [g2]; exact va_assign hcls) rfl rfl hd (fun H' e1 e2 e3 => ?_)
  rw [hcl, arrV_store] at e1
  refine h.2 H' _ cells slots ls _ hL hB ?_ (mOld_put hO hco.2 e2 e3 rfl) hC
  refine mHeap_put hH hco.1 e2 e3 (fun a _ => rfl) (fun a ha => mUp_a ha) rfl (Or.inr (Or.inr (Or.inl ⟨hco, hN, cA, _, e1, Or.inr (Or.inr (Or.inr (Or.inr ⟨cn, q, hc, hkd, hV1, ⟨kA, ρ.1 cn, k1, k2, k3, k4⟩, fun j hj => ?_⟩)))⟩)))
  have hj : (j : Int) < S.2.2.1 x := hj
  show mRef (updV V i.toNat (.ref v.toNat) j) (mUp S.1 x i v x j)
  by_cases ej : j = i.toNat
  · have e7 : mUp S.1 x i v x j = v := mUp_eq rfl (by omega)
    have e8 : updV V i.toNat (.ref v.toNat) j = .ref v.toNat := if_pos ej
    rw [e7, e8]; exact mRef_of hov.1.1
  · have e7 : mUp S.1 x i v x j = S.1 x j := mUp_nk (by omega)
    have e8 : updV V i.toNat (.ref v.toNat) j = V j := if_neg ej
    rw [e7, e8]; exact hV3 j hj
theorem st_newa_int (hx : p.tables.exec = Jvm.exec) (hb : c.code = mBy y) (hRc : Sf.2.2.2.1 ≤ S0.2.2.2.1 + (R.cells : Int)) (hRs : Sf.2.2.2.2 ≤ S0.2.2.2.2 + (R.slots : Int)) (harr : (Jvm.Cond.arrayClass .int).before args s = true) (h0 : 0 ≤ x) (h3 : x ≤ 100000) (hd : decode (mBy y) pc = .ok (.newarray .int, 2)) (h : mPt ρ p l e R s m args below meth c Qe y H0 S0 Sf (pc + 2) (mls, mR S.2.2.2.1 :: mst, (mNewN I S), (mNewH S 50 x))) : mPt ρ p l e R s m args below meth c Qe y H0 S0 Sf pc (mls, mI x :: mst, I, S) := by
  have hg := h.1
  dsimp only [mNewH] at hg
  refine ⟨by dsimp only; omega, fun H locs cells slots ls stk hL hS hH hO hC => ?_⟩
  dsimp only at hL hS hH hC
  obtain ⟨v1, stk1, rfl, h1, hA⟩ := mStk_c hS
  obtain ⟨ii, rfl⟩ := h1
  have hsz := hH.1
  obtain ⟨hc1, hc2⟩ := id hC
  refine va_newaK (N := x.toNat) (h := H.size) hx hb (atype := .int) harr rfl hd rfl (fun z => by have := (mO_lt ii mIn_0).mp z; omega) (mO_clamp ii h0) ?_ (by omega) (by omega) rfl (fun H' cA e1 z1 o1 hAr _ => ?_)
  · have hcb : componentBytes (newarray.typeOf .int) ≤ 8 := by decide
    have := Nat.mul_le_mul (show x.toNat ≤ 100000 by omega) hcb
    omega
  · refine h.2 H' locs _ _ ls _ hL ⟨?_, hA⟩ (mHeap_new hH z1 o1 ?_) (mOld_new hO z1 o1) ⟨by show S.2.2.2.1 + 1 = _; omega, by show S.2.2.2.2 + x = _; omega⟩
    · have := mRef_of (a := (H.size : Int)) (by omega)
      rw [hsz]; exact this
    · obtain ⟨n1, n2, n3, n4⟩ := mNew_at I S 50 x
      rw [hsz] at n1 n2 n3 n4
      refine Or.inr (Or.inr (Or.inl ⟨⟨by omega, by have := hH.2.1; omega⟩, by rw [n4]; omega, cA, _, by rw [n4]; exact e1, Or.inl ⟨n3, hAr, fun j hj => ?_⟩⟩))
      rw [n1]; exact ⟨mIn_0, rfl⟩
theorem st_newa_bool (hx : p.tables.exec = Jvm.exec) (hb : c.code = mBy y) (hRc : Sf.2.2.2.1 ≤ S0.2.2.2.1 + (R.cells : Int)) (hRs : Sf.2.2.2.2 ≤ S0.2.2.2.2 + (R.slots : Int)) (harr : (Jvm.Cond.arrayClass .boolean).before args s = true) (h0 : 0 ≤ x) (h3 : x ≤ 100000) (hd : decode (mBy y) pc = .ok (.newarray .boolean, 2)) (h : mPt ρ p l e R s m args below meth c Qe y H0 S0 Sf (pc + 2) (mls, mR S.2.2.2.1 :: mst, (mNewN I S), (mNewH S 51 x))) : mPt ρ p l e R s m args below meth c Qe y H0 S0 Sf pc (mls, mI x :: mst, I, S) := by
  have hg := h.1
  dsimp only [mNewH] at hg
  refine ⟨by dsimp only; omega, fun H locs cells slots ls stk hL hS hH hO hC => ?_⟩
  dsimp only at hL hS hH hC
  obtain ⟨v1, stk1, rfl, h1, hA⟩ := mStk_c hS
  obtain ⟨ii, rfl⟩ := h1
  have hsz := hH.1
  obtain ⟨hc1, hc2⟩ := id hC
  refine va_newaK (N := x.toNat) (h := H.size) hx hb (atype := .boolean) harr rfl hd rfl (fun z => by have := (mO_lt ii mIn_0).mp z; omega) (mO_clamp ii h0) ?_ (by omega) (by omega) rfl (fun H' cA e1 z1 o1 hAr _ => ?_)
  · have hcb : componentBytes (newarray.typeOf .boolean) ≤ 8 := by decide
    have := Nat.mul_le_mul (show x.toNat ≤ 100000 by omega) hcb
    omega
  · refine h.2 H' locs _ _ ls _ hL ⟨?_, hA⟩ (mHeap_new hH z1 o1 ?_) (mOld_new hO z1 o1) ⟨by show S.2.2.2.1 + 1 = _; omega, by show S.2.2.2.2 + x = _; omega⟩
    · have := mRef_of (a := (H.size : Int)) (by omega)
      rw [hsz]; exact this
    · obtain ⟨n1, n2, n3, n4⟩ := mNew_at I S 51 x
      rw [hsz] at n1 n2 n3 n4
      refine Or.inr (Or.inr (Or.inl ⟨⟨by omega, by have := hH.2.1; omega⟩, by rw [n4]; omega, cA, _, by rw [n4]; exact e1, Or.inr (Or.inl ⟨n3, hAr, fun j hj => ?_⟩)⟩))
      rw [n1]; exact ⟨by dsimp only; omega, rfl⟩
theorem st_newa_char (hx : p.tables.exec = Jvm.exec) (hb : c.code = mBy y) (hRc : Sf.2.2.2.1 ≤ S0.2.2.2.1 + (R.cells : Int)) (hRs : Sf.2.2.2.2 ≤ S0.2.2.2.2 + (R.slots : Int)) (harr : (Jvm.Cond.arrayClass .char).before args s = true) (h0 : 0 ≤ x) (h3 : x ≤ 100000) (hd : decode (mBy y) pc = .ok (.newarray .char, 2)) (h : mPt ρ p l e R s m args below meth c Qe y H0 S0 Sf (pc + 2) (mls, mR S.2.2.2.1 :: mst, (mNewN I S), (mNewH S 52 x))) : mPt ρ p l e R s m args below meth c Qe y H0 S0 Sf pc (mls, mI x :: mst, I, S) := by
  have hg := h.1
  dsimp only [mNewH] at hg
  refine ⟨by dsimp only; omega, fun H locs cells slots ls stk hL hS hH hO hC => ?_⟩
  dsimp only at hL hS hH hC
  obtain ⟨v1, stk1, rfl, h1, hA⟩ := mStk_c hS
  obtain ⟨ii, rfl⟩ := h1
  have hsz := hH.1
  obtain ⟨hc1, hc2⟩ := id hC
  refine va_newaK (N := x.toNat) (h := H.size) hx hb (atype := .char) harr rfl hd rfl (fun z => by have := (mO_lt ii mIn_0).mp z; omega) (mO_clamp ii h0) ?_ (by omega) (by omega) rfl (fun H' cA e1 z1 o1 hAr _ => ?_)
  · have hcb : componentBytes (newarray.typeOf .char) ≤ 8 := by decide
    have := Nat.mul_le_mul (show x.toNat ≤ 100000 by omega) hcb
    omega
  · refine h.2 H' locs _ _ ls _ hL ⟨?_, hA⟩ (mHeap_new hH z1 o1 ?_) (mOld_new hO z1 o1) ⟨by show S.2.2.2.1 + 1 = _; omega, by show S.2.2.2.2 + x = _; omega⟩
    · have := mRef_of (a := (H.size : Int)) (by omega)
      rw [hsz]; exact this
    · obtain ⟨n1, n2, n3, n4⟩ := mNew_at I S 52 x
      rw [hsz] at n1 n2 n3 n4
      refine Or.inr (Or.inr (Or.inl ⟨⟨by omega, by have := hH.2.1; omega⟩, by rw [n4]; omega, cA, _, by rw [n4]; exact e1, Or.inr (Or.inr (Or.inl ⟨n3, hAr, fun j hj => ?_⟩))⟩))
      rw [n1]; exact ⟨by dsimp only; omega, rfl⟩
theorem st_newa_long (hx : p.tables.exec = Jvm.exec) (hb : c.code = mBy y) (hRc : Sf.2.2.2.1 ≤ S0.2.2.2.1 + (R.cells : Int)) (hRs : Sf.2.2.2.2 ≤ S0.2.2.2.2 + (R.slots : Int)) (harr : (Jvm.Cond.arrayClass .long).before args s = true) (h0 : 0 ≤ x) (h3 : x ≤ 100000) (hd : decode (mBy y) pc = .ok (.newarray .long, 2)) (h : mPt ρ p l e R s m args below meth c Qe y H0 S0 Sf (pc + 2) (mls, mR S.2.2.2.1 :: mst, (mNewN I S), (mNewH S 53 x))) : mPt ρ p l e R s m args below meth c Qe y H0 S0 Sf pc (mls, mI x :: mst, I, S) := by
  have hg := h.1
  dsimp only [mNewH] at hg
  refine ⟨by dsimp only; omega, fun H locs cells slots ls stk hL hS hH hO hC => ?_⟩
  dsimp only at hL hS hH hC
  obtain ⟨v1, stk1, rfl, h1, hA⟩ := mStk_c hS
  obtain ⟨ii, rfl⟩ := h1
  have hsz := hH.1
  obtain ⟨hc1, hc2⟩ := id hC
  refine va_newaK (N := x.toNat) (h := H.size) hx hb (atype := .long) harr rfl hd rfl (fun z => by have := (mO_lt ii mIn_0).mp z; omega) (mO_clamp ii h0) ?_ (by omega) (by omega) rfl (fun H' cA e1 z1 o1 hAr _ => ?_)
  · have hcb : componentBytes (newarray.typeOf .long) ≤ 8 := by decide
    have := Nat.mul_le_mul (show x.toNat ≤ 100000 by omega) hcb
    omega
  · refine h.2 H' locs _ _ ls _ hL ⟨?_, hA⟩ (mHeap_new hH z1 o1 ?_) (mOld_new hO z1 o1) ⟨by show S.2.2.2.1 + 1 = _; omega, by show S.2.2.2.2 + x = _; omega⟩
    · have := mRef_of (a := (H.size : Int)) (by omega)
      rw [hsz]; exact this
    · obtain ⟨n1, n2, n3, n4⟩ := mNew_at I S 53 x
      rw [hsz] at n1 n2 n3 n4
      refine Or.inr (Or.inr (Or.inl ⟨⟨by omega, by have := hH.2.1; omega⟩, by rw [n4]; omega, cA, _, by rw [n4]; exact e1, Or.inr (Or.inr (Or.inr (Or.inl ⟨n3, hAr, fun j hj => ?_⟩)))⟩))
      rw [n1]; exact ⟨by unfold mInL; dsimp only; omega, rfl⟩
theorem st_anew (hx : p.tables.exec = Jvm.exec) (hb : c.code = mBy y) (hRc : Sf.2.2.2.1 ≤ S0.2.2.2.1 + (R.cells : Int)) (hRs : Sf.2.2.2.2 ≤ S0.2.2.2.2 + (R.slots : Int)) (hT : mTab ρ s) (hc : mClz[cn]? = some q) (hover : va_AO q.1 s) (hown : s.vm.findClass own = some m.cls) (hlink : (Jvm.Cond.classLink own idx q.1).before args s = true) (h0 : 0 ≤ x) (h3 : x ≤ 100000) (hd : decode (mBy y) pc = .ok (.anewarray idx, 3)) (h : mPt ρ p l e R s m args below meth c Qe y H0 S0 Sf (pc + 3) (mls, mR S.2.2.2.1 :: mst, (mNewN I S), (mNewH S ((cn : Int) + 60) x))) : mPt ρ p l e R s m args below meth c Qe y H0 S0 Sf pc (mls, mI x :: mst, I, S) := by
  have hg := h.1
  dsimp only [mNewH] at hg
  refine ⟨by dsimp only; omega, fun H locs cells slots ls stk hL hS hH hO hC => ?_⟩
  dsimp only at hL hS hH hC
  obtain ⟨v1, stk1, rfl, h1, hA⟩ := mStk_c hS
  obtain ⟨ii, rfl⟩ := h1
  have hsz := hH.1
  obtain ⟨hc1, hc2⟩ := id hC
  have ecl := mO_clamp ii h0
  refine W.anew hx hb hown hlink (va_AO.use hover) rfl hd rfl (fun z => by have := (mO_lt ii mIn_0).mp z; omega) (by rw [ecl]; omega) (by omega) (by rw [ecl]; omega) (fun cA kA comp f1 f2 f3 f4 => ?_)
  rw [ecl]
  generalize hH1 : H.push ({ cls := cA, slots := Array.replicate x.toNat .null, vm := .none } : Cell) = H1
  have z1 : H1.size = H.size + 1 := by rw [← hH1, Array.size_push]
  have e1 : H1[H.size]? = some (arrV cA x.toNat (fun _ => .null)) := by rw [← hH1, Array.getElem?_push_size, ← arrV_new]
  have o1 : ∀ q : Nat, q < H.size → H1[q]? = H[q]? := fun q hq => by rw [← hH1, Array.getElem?_push, if_neg (Nat.ne_of_lt hq)]
  have hAr : ArrOfT s cA (.object q.1) := fun N z => ⟨(fun k h => by cases h), kA, f2, comp, f3⟩
  refine h.2 H1 locs _ _ ls _ hL ⟨?_, hA⟩ (mHeap_new hH z1 o1 ?_) (mOld_new hO z1 o1) ⟨by show S.2.2.2.1 + 1 = _; omega, by show S.2.2.2.2 + x = _; omega⟩
  · have := mRef_of (a := (H.size : Int)) (by omega)
    rw [hsz]; exact this
  · obtain ⟨n1, n2, n3, n4⟩ := mNew_at I S ((cn : Int) + 60) x
    rw [hsz] at n1 n2 n3 n4
    refine Or.inr (Or.inr (Or.inl ⟨⟨by omega, by have := hH.2.1; omega⟩, by rw [n4]; omega, cA, _, by rw [n4]; exact e1, Or.inr (Or.inr (Or.inr (Or.inr ⟨cn, q, hc, n3, hAr, ⟨kA, comp, f2, f3, f4, f1⟩, fun j hj => ?_⟩)))⟩))
    rw [n2]; exact Or.inl ⟨rfl, rfl⟩
theorem st_new (hx : p.tables.exec = Jvm.exec) (hb : c.code = mBy y) (hRc : Sf.2.2.2.1 ≤ S0.2.2.2.1 + (R.cells : Int)) (hRs : Sf.2.2.2.2 ≤ S0.2.2.2.2 + (R.slots : Int)) (hT : mTab ρ s) (hts : ∀ w ∈ mWl, w.before args s = true) (hc : mClz[cn]? = some q) (hown : s.vm.findClass own = some m.cls) (hlink : (Jvm.Cond.classLink own idx q.1).before args s = true) (hins : (Jvm.Cond.instantiable q.1 q.2.2).before args s = true) (hini : (Jvm.Cond.initialized q.1).before args s = true) (hd : decode (mBy y) pc = .ok (.new idx, 3)) (h : mPt ρ p l e R s m args below meth c Qe y H0 S0 Sf (pc + 3) (mls, mR S.2.2.2.1 :: mst, (mNewN I S), (mNewH S ((cn : Int) + 1) q.2.2))) : mPt ρ p l e R s m args below meth c Qe y H0 S0 Sf pc (mls, mst, I, S) := by
  have hg := h.1
  dsimp only [mNewH] at hg
  refine ⟨by dsimp only; omega, fun H locs cells slots ls stk hL hS hH hO hC => ?_⟩
  dsimp only at hL hS hH hC
  have hsz := hH.1
  obtain ⟨hc1, hc2⟩ := id hC
  have hKn := hT.1 cn q hc
  refine W.newcK hx hb hown hlink hins hini rfl hd (by omega) (by omega) hKn.2.1 rfl (fun H1 kC hkC e1 z1 o1 => ?_)
  refine h.2 H1 locs _ _ ls _ hL ⟨?_, hS⟩ (mHeap_new hH z1 o1 ?_) (mOld_new hO z1 o1) ⟨by show S.2.2.2.1 + 1 = _; omega, by show S.2.2.2.2 + (q.2.2 : Int) = _; omega⟩
  · have := mRef_of (a := (H.size : Int)) (by omega)
    rw [hsz]; exact this
  · obtain ⟨n1, n2, n3, n4⟩ := mNew_at I S ((cn : Int) + 1) q.2.2
    rw [hsz] at n1 n2 n3 n4
    refine Or.inr (Or.inl ⟨⟨by omega, by have := hH.2.1; omega⟩, cn, q, hc, n3, _, u_born (fun k => mFt (q.2.1 k).2.2.1) hts (mClz_ws hc) hKn hkC e1 (mClz_ty hc), fun k hk => ?_⟩)
    rw [n1, n2]
    exact mFld_0 hc hk
theorem st_dstore (hx : p.tables.exec = Jvm.exec) (hb : c.code = mBy y) {a : Nat} {v : UInt64} (hy : y = 413) (ha0 : a + 1 < mMaxL y) (hd : decode (mBy y) pc = .ok (.dstore a, 2)) {n : Nat} (hn : n ≠ 0) (h : mPt ρ p l e R s m args below meth c Qe y H0 S0 Sf (pc + 2) ((mOff (mPut n mls a (mD v)) (a + 1)), mst, I, S)) : mPt ρ p l e R s m args below meth c Qe y H0 S0 Sf pc (mls, mD v :: mst, I, S) := by
  refine ⟨h.1, fun H locs cells slots ls stk hL hS hH hO hC => ?_⟩
  dsimp only at hL hS hH hC
  obtain ⟨v1, stk1, rfl, h1, hA⟩ := mStk_c hS
  have h1 : v1 = .double v := h1
  subst h1
  obtain ⟨hlen, lv, hl, h2, h3⟩ := hL
  refine lv_dstore hx hb hd hl ha0 rfl (fun ls' hl' => ?_)
  refine h.2 H locs cells slots ls' _ ⟨by rw [mOff_len, mPut_len]; exact hlen, _, hl', fun i w hg => ?_, fun z => absurd hy z⟩ hA hH hO hC
  obtain ⟨hne, hg⟩ := mOff_get _ _ _ _ hg
  rcases mPut_get _ _ _ _ _ _ hg with ⟨rfl, rfl⟩ | ⟨hi, hg, hk⟩
  · exact ⟨_, List.mem_cons_self, rfl⟩
  · obtain ⟨x, hx, hvx⟩ := h2 i w hg
    refine ⟨x, List.mem_cons_of_mem _ (List.mem_filter.mpr ⟨hx, ?_⟩), hvx⟩
    simp only [Bool.and_eq_true, Bool.not_eq_true', beq_eq_false_iff_ne, Bool.and_eq_false_iff, ne_eq]
    refine ⟨hi, hne, ?_⟩
    by_cases hia : i + 1 = a
    · right
      obtain ⟨z1, z2⟩ := hk hn hia
      rw [mVal_c1 hvx z1 z2]; decide
    · left; exact hia
theorem st_switch (hx : p.tables.exec = Jvm.exec) (hb : c.code = mBy y) {d lo hi : Int} {offs : Array Int} {len : Nat} {t : Nat} (hd : decode (mBy y) pc = .ok (.tableswitch d lo hi offs, len)) (ht : (pc : Int) + d = (t : Int)) (hsz : hi = lo + (offs.size : Nat) - 1) (hpos : ∀ o ∈ offs.toList, 0 ≤ (pc : Int) + o) (h : mSw (mPt ρ p l e R s m args below meth c Qe y H0 S0 Sf) x lo t (offs.toList.map (fun o => ((pc : Int) + o).toNat)) (mls, mst, I, S)) : mPt ρ p l e R s m args below meth c Qe y H0 S0 Sf pc (mls, mI x :: mst, I, S) := by
  obtain ⟨k1, k2⟩ := h
  simp only [List.length_map, Array.length_toList] at k1 k2
  have key : ∀ hin : ¬ (x < lo ∨ lo + (offs.size : Nat) ≤ x), ∃ (off : Int) (tg : Nat), offs[(x - lo).toNat]? = some off ∧ (pc : Int) + off = (tg : Int) ∧ mPt ρ p l e R s m args below meth c Qe y H0 S0 Sf tg (mls, mst, I, S) := by
    intro hin
    have hk : (x - lo).toNat < offs.size := by omega
    have k3 := k2 (x - lo).toNat hk (by omega)
    have hoff : offs.toList[(x - lo).toNat]? = some offs[(x - lo).toNat] := by
      rw [Array.getElem?_toList]; exact Array.getElem?_eq_getElem hk
    rw [List.getD_eq_getElem?_getD, List.getElem?_map, hoff] at k3
    have hp := hpos _ (List.mem_of_getElem? hoff)
    exact ⟨_, _, Array.getElem?_eq_getElem hk, (Int.toNat_of_nonneg hp).symm, k3⟩
  have hg : S.2.2.2.1 ≤ Sf.2.2.2.1 ∧ S.2.2.2.2 ≤ Sf.2.2.2.2 := by
    by_cases z : x < lo ∨ lo + (offs.size : Nat) ≤ x
    · exact (k1 z).1
    · obtain ⟨off, tg, -, -, k⟩ := key z
      exact k.1
  refine ⟨hg, fun H locs cells slots ls stk hL hS hH hO hC => ?_⟩
  dsimp only at hL hS hH hC
  obtain ⟨v1, stk1, rfl, h1, hA⟩ := mStk_c hS
  obtain ⟨ii, rfl⟩ := h1
  by_cases z : x < lo ∨ lo + (offs.size : Nat) ≤ x
  · refine lv_tableOut (tgt := t) hx hb hd (by rw [mO_toInt ii]; omega) ht ?_
    exact (k1 z).2 H locs cells slots ls _ hL hA hH hO hC
  · obtain ⟨off, tg, e1, e2, k⟩ := key z
    refine lv_tableIn (tgt := tg) hx hb hd (by rw [mO_toInt ii]; omega) (by rw [mO_toInt ii]; omega) (by rw [mO_toInt ii]; exact e1) e2 ?_
    exact k.2 H locs cells slots ls _ hL hA hH hO hC
theorem st_ldcI (hx : p.tables.exec = Jvm.exec) (hb : c.code = mBy y) {v : Int} (hv : mIn v) (hown : s.vm.findClass own = some m.cls) (hk : (Jvm.Cond.constant own idx (Int32.ofInt v)).before args s = true) (hd : decode (mBy y) pc = .ok (.ldc idx, 2)) (h : mPt ρ p l e R s m args below meth c Qe y H0 S0 Sf (pc + 2) (mls, mI v :: mst, I, S)) : mPt ρ p l e R s m args below meth c Qe y H0 S0 Sf pc (mls, mst, I, S) := by
  refine ⟨h.1, fun H locs cells slots ls stk hL hS hH hO hC => ?_⟩
  dsimp only at hL hS hH hC
  refine lv_ldc (v := mO v) hx hb hown hk hd ?_
  exact h.2 H locs cells slots ls _ hL ⟨⟨hv, rfl⟩, hS⟩ hH hO hC
theorem st_ldcwI (hx : p.tables.exec = Jvm.exec) (hb : c.code = mBy y) {v : Int} (hv : mIn v) (hown : s.vm.findClass own = some m.cls) (hk : (Jvm.Cond.constant own idx (Int32.ofInt v)).before args s = true) (hd : decode (mBy y) pc = .ok (.ldc_w idx, 3)) (h : mPt ρ p l e R s m args below meth c Qe y H0 S0 Sf (pc + 3) (mls, mI v :: mst, I, S)) : mPt ρ p l e R s m args below meth c Qe y H0 S0 Sf pc (mls, mst, I, S) := by
  refine ⟨h.1, fun H locs cells slots ls stk hL hS hH hO hC => ?_⟩
  dsimp only at hL hS hH hC
  refine lv_ldcw (v := mO v) hx hb hown hk hd ?_
  exact h.2 H locs cells slots ls _ hL ⟨⟨hv, rfl⟩, hS⟩ hH hO hC
theorem st_ldcS (hx : p.tables.exec = Jvm.exec) (hb : c.code = mBy y) {k : Nat} {tx : String} (hk : k < 37) (hown : s.vm.findClass own = some m.cls) (hZ : vk_R own idx tx (ρ.2.2.2.2.2.2 k) s) (hd : decode (mBy y) pc = .ok (.ldc idx, 2)) (h : mPt ρ p l e R s m args below meth c Qe y H0 S0 Sf (pc + 2) (mls, mS k :: mst, I, S)) : mPt ρ p l e R s m args below meth c Qe y H0 S0 Sf pc (mls, mst, I, S) := by
  refine ⟨h.1, fun H locs cells slots ls stk hL hS hH hO hC => ?_⟩
  dsimp only at hL hS hH hC
  refine va_ldcS hx hb hown hZ hd ?_
  exact h.2 H locs cells slots ls _ hL ⟨⟨hk, rfl⟩, hS⟩ hH hO hC
theorem st_min (hx : p.tables.exec = Jvm.exec) (hb : c.code = mBy y) {a w : Int} (hml : c.maxLocals = mMaxL y) (hown : s.vm.findClass own = some m.cls) (hlink : (Jvm.Cond.methodLink own idx Lib.Math.min.name).before args s = true) (hstat : (Jvm.Cond.static Lib.Math.min.name).before args s = true) (hini : (Jvm.Cond.initialized "java/lang/Math").before args s = true) (hcode : (Jvm.Cond.code Lib.Math.min.name Lib.Math.min.code 2 (some .int)).before args s = true)
    (hframes : 1 ≤ R.frames) (hlocals : 8 + 13 ≤ R.locals) (hRc : Sf.2.2.2.1 ≤ S0.2.2.2.1 + (R.cells : Int)) (hRs : Sf.2.2.2.2 ≤ S0.2.2.2.2 + (R.slots : Int)) (hcs : mCs mst ≤ 8) (hd : decode (mBy y) pc = .ok (.invokestatic idx, 3)) (h : mPt ρ p l e R s m args below meth c Qe y H0 S0 Sf (pc + 3) (mls, mI (if a ≤ w then a else w) :: mst, I, S)) : mPt ρ p l e R s m args below meth c Qe y H0 S0 Sf pc (mls, mI w :: mI a :: mst, I, S) := by
  refine ⟨h.1, fun H locs cells slots ls stk hL hS hH hO hC => ?_⟩
  dsimp only at hL hS hH hC
  obtain ⟨v2, stk2, rfl, h2, hA⟩ := mStk_c hS
  obtain ⟨v1, stk1, rfl, h1, hB⟩ := mStk_c hA
  obtain ⟨i2, rfl⟩ := h2
  obtain ⟨i1, rfl⟩ := h1
  have hg := h.1
  dsimp only at hg
  have hlsz : ls.size = mMaxL y := by obtain ⟨-, lv, hl, -⟩ := hL; exact hl.1
  refine va_mmin hx hb (by rw [hml, hlsz]) hown hlink hstat hini hcode hframes (by rw [mCs_ok hB]; omega) (by have := hC.1; omega) (by have := hC.2; omega) hd ?_
  have e9 : (if mO w < mO a then mO w else mO a) = mO (if a ≤ w then a else w) := by
    by_cases z : a ≤ w
    · rw [if_pos z, if_neg (fun q => by have := (mO_lt i2 i1).mp q; omega)]
    · rw [if_neg z, if_pos ((mO_lt i2 i1).mpr (by omega))]
  rw [e9]
  exact h.2 H locs cells slots ls _ hL ⟨⟨by split <;> assumption, rfl⟩, hB⟩ hH hO hC
end MS3
