theorem mUp_a {I : Int → Int → Int} {a k v b : Int} (h : b ≠ a) : mUp I a k v b = I b := by
  funext j
  exact mUp_na h
theorem mNar_z {v : Int} (hv : 0 ≤ v ∧ v ≤ 1) : narrow .boolean (.int (mO v)) = .int (mO v) := by
  rcases (show v = 0 ∨ v = 1 by omega) with rfl | rfl <;> rfl
theorem mNar_c {v : Int} (hv : 0 ≤ v ∧ v ≤ 65535) : narrow .char (.int (mO v)) = .int (mO v) := by
  have h := (pk_charN (q := v.toNat) (by omega)).1
  have e : nI v.toNat = mO v := by
    unfold nI
    rw [← Int32.ofInt_eq_ofNat, show ((v.toNat : Nat) : Int) = v by omega]
  rw [e] at h
  exact h
/-! One instruction: fields and arrays, read and written. -/
theorem mIx {cA : ClassId} {V : Nat → Value} {i N : Int} (hi : mIn i) (h0 : 0 ≤ i) (h1 : i < N) : ¬ (mO i < 0 ∨ (arrV cA N.toNat V).slots.size ≤ (mO i).toNatClampNeg) ∧ (arrV cA N.toNat V).slots[(mO i).toNatClampNeg]? = some (V i.toNat) ∧ (mO i).toNatClampNeg = i.toNat := by
  have e : (mO i).toNatClampNeg = i.toNat := mO_clamp hi h0
  have hlt : i.toNat < N.toNat := by omega
  refine ⟨fun z => ?_, ?_, e⟩
  · rcases z with z | z
    · have := (mO_lt hi mIn_0).mp z
      omega
    · rw [arrV_size, e] at z
      omega
  · rw [e]; exact arrV_read _ _ hlt
theorem mOld_put {ρ : mRho} {H0 H H' : Heap} {locs : List Loc} {x : Int} {z : Loc} (h : mOld ρ H0 H locs) (hx : ρ.2.2.1 ≤ x.toNat) (hz : H'.size = H.size) (hq : ∀ q : Nat, q ≠ x.toNat → H'[q]? = H[q]?) (hb : z.base = x.toNat) : mOld ρ H0 H' (locs ++ [z]) := by
  refine ⟨h.1, by rw [hz]; exact h.2.1, fun q hlt => by rw [hq q (by omega)]; exact h.2.2.1 q hlt, fun w hw => ?_⟩
  rcases List.mem_append.mp hw with hw | hw
  · exact h.2.2.2 w hw
  · rw [List.mem_singleton.mp hw, hb]; exact hx
section MS2
variable {ρ : mRho} {p : Program} {l : Launch} {e : Env} {R : Room} {s : State} {m : MethodId} {args : Array Value} {below : List Frame} {meth : Method} {c : Code} {Qe : State → Prop} {y : Nat} {H0 : Heap} {S0 Sf : mH}
variable {pc : Nat} {mls : mM} {mst : List mV} {I I' : mN} {S S' : mH} {x i : Int} {own : String} {idx : Nat} {cn k : Nat} {q : vw_C}
theorem st_getf (hx : p.tables.exec = Jvm.exec) (hb : c.code = mBy y) (hown : s.vm.findClass own = some m.cls) (hts : ∀ w ∈ mWl, w.before args s = true) (hT : mTab ρ s) (hc : mClz[cn]? = some q) (hk : k < q.2.2) (hlink : (Jvm.Cond.fieldLink own idx (q.2.1 k).1 (q.2.1 k).2.1 (q.2.1 k).2.2.1).before args s = true) (hkd : S.2.1 x = (cn : Int) + 1)
    (hd : decode (mBy y) pc = .ok (.getfield idx, 3)) {w : mV} (hw : ∀ v, mFld (q.2.1 k).2.2.1 v (I x k) (S.1 x k) → mVal ρ v w) (h : mPt ρ p l e R s m args below meth c Qe y H0 S0 Sf (pc + 3) (mls, w :: mst, I, S)) : mPt ρ p l e R s m args below meth c Qe y H0 S0 Sf pc (mls, mR x :: mst, I, S) := by
  refine ⟨h.1, fun H locs cells slots ls stk hL hS hH hO hC => ?_⟩
  dsimp only at hL hS hH hC
  obtain ⟨v1, stk1, rfl, h1, hA⟩ := mStk_c hS
  obtain ⟨hco, V, ⟨cell, q1, q2, q3, q4⟩, hV⟩ := mHeap_obj hH hc hkd
  have hv := mRef_ge h1 hco.1.1
  subst hv
  obtain ⟨hSl, hfc, kC, hkC, hkind⟩ := hT.1 cn q hc
  obtain ⟨cf, kf, fi, f, hi, hsl⟩ := hSl k hk
  have hst := (u_facts hfc hkC (u_lays hts (mClz_ws hc) hk) hi).1
  refine W.getf hx hb hown hlink hi hst q1 (by rw [q3]; exact fun h => by cases h) (v := V k) (by rw [hsl]; exact q4 k hk) rfl rfl hd ?_
  exact h.2 H locs cells slots ls _ hL ⟨hw _ (hV k hk), hA⟩ hH hO hC
theorem st_putf (hx : p.tables.exec = Jvm.exec) (hb : c.code = mBy y) (hown : s.vm.findClass own = some m.cls) (hts : ∀ w ∈ mWl, w.before args s = true) (hT : mTab ρ s) (hc : mClz[cn]? = some q) (hk : k < q.2.2) (hlink : (Jvm.Cond.fieldLink own idx (q.2.1 k).1 (q.2.1 k).2.1 (q.2.1 k).2.2.1).before args s = true) (hkd : S.2.1 x = (cn : Int) + 1)
    (hfin : (q.2.1 k).2.2.2 = false ∨ ((q.2.1 k).2.2.2 = true ∧ meth.name = "<init>" ∧ (q.2.1 k).1 = own)) (hd : decode (mBy y) pc = .ok (.putfield idx, 3)) {w : mV}
    (hw : ∀ v, mVal ρ v w → narrow (mFt (q.2.1 k).2.2.1) v = v ∧ fits (mFt (q.2.1 k).2.2.1) v = true ∧ mFld (q.2.1 k).2.2.1 v (I' x k) (S'.1 x k)) (hI : ∀ a, a ≠ x → I' a = I a) (hR : ∀ a, a ≠ x → S'.1 a = S.1 a) (hIx : ∀ j : Nat, j ≠ k → I' x j = I x j ∧ S'.1 x j = S.1 x j) (hS2 : S'.2 = S.2) (h : mPt ρ p l e R s m args below meth c Qe y H0 S0 Sf (pc + 3) (mls, mst, I', S')) : mPt ρ p l e R s m args below meth c Qe y H0 S0 Sf pc (mls, w :: mR x :: mst, I, S) := by
  refine ⟨by have h1 := h.1; dsimp only at h1 ⊢; rw [hS2] at h1; exact h1, fun H locs cells slots ls stk hL hS hH hO hC => ?_⟩
  dsimp only at hL hS hH hC
  obtain ⟨v2, stk2, rfl, h2, hA⟩ := mStk_c hS
  obtain ⟨v1, stk1, rfl, h1, hB⟩ := mStk_c hA
  obtain ⟨hco, V, ⟨cell, q1, q2, q3, q4⟩, hV⟩ := mHeap_obj hH hc hkd
  have hv := mRef_ge h1 hco.1.1
  subst hv
  obtain ⟨hn, hf, hm⟩ := hw v2 h2
  have hap := va_apart (D := (ρ.1, ρ.2.1)) (cl := mClz) (tys := []) (own := own) hts (mClz_ws hc) (fun k => mFt (q.2.1 k).2.2.1) (mClz_ty hc) (mClz_nm hc) ⟨hT.1, fun k q h => by simp at h⟩ hc
  obtain ⟨hSl, hfc, kC, hkC, hkind⟩ := hT.1 cn q hc
  obtain ⟨cf, kf, fi, f, hi, hsl⟩ := hSl k hk
  have hst := (u_facts hfc hkC (u_lays hts (mClz_ws hc) hk) hi).1
  have fin : ∀ H' : Heap, H'[x.toNat]? = some (cell.setSlot f.slot v2) → H'.size = H.size → (∀ q, q ≠ x.toNat → H'[q]? = H[q]?) → W p l e R s m args below meth c H' (locs ++ [⟨x.toNat, f.slot⟩]) cells slots Qe (F0 m (pc + 3) ls stk1) := by
    intro H' e1 e2 e3
    rw [hsl] at e1
    refine h.2 H' _ cells slots ls _ hL hB ?_ (mOld_put hO hco.1.2 e2 e3 rfl) (by unfold mCnt at hC ⊢; dsimp only at hC ⊢; rw [hS2]; exact hC)
    refine mHeap_put hH hco.1.1 e2 e3 hI hR hS2 (Or.inr (Or.inl ⟨hco.1, cn, q, hc, by rw [hS2]; exact hkd, updV V k v2, ⟨_, e1, q2, q3, t_set q4 hap hk v2⟩, fun j hj => ?_⟩))
    unfold updV
    by_cases e : j = k
    · rw [if_pos e, e]; exact hm
    · show mFld _ _ (I' x j) (S'.1 x j)
      rw [if_neg e, (hIx j e).1, (hIx j e).2]; exact hV j hj
  have hlay := hts _ (mClz_ws hc _ (u_in_lay hk))
  unfold u_lay at hlay
  rcases hfin with hfin | ⟨hfin, hin, hdecl⟩
  · rw [if_neg (by rw [hfin]; decide)] at hlay
    have h6 := u_store hfc hkC hkind hlay hi (mClz_ty hc k hk) hn hf
    exact W.putK hx hb (f := f) ⟨hown, hlink, ⟨_, _, _, hi⟩, hst⟩ (by rw [q2]; exact h6) q1 q3 (by rw [hsl]; exact k2_hasslot (q4 k hk)) rfl rfl hd fin
  · rw [if_pos hfin] at hlay
    have hcf : m.cls = cf := by
      obtain ⟨_, _, c', _, _, _, -, -, hf', -, -, -, hown2, -⟩ := Cond.laysFinal_spec hlay
      have e1 : c' = cf := by have := hi.symm.trans hf'; simp at this; exact this.1.symm
      rw [hdecl] at hown2
      rw [← e1]; exact Option.some.inj (hown.symm.trans hown2)
    have h6 := u_fits hfc hkC hkind (Or.inr hlay) hi (mClz_ty hc k hk) hn hf
    exact W.putFinK hx hb hown hlink hi hst hcf hin (by rw [q2]; exact h6) q1 q3 (by rw [hsl]; exact k2_hasslot (q4 k hk)) rfl rfl hd fin
theorem st_iaload (hx : p.tables.exec = Jvm.exec) (hb : c.code = mBy y) (hkd : S.2.1 x = 50) (h0 : 0 ≤ i) (h3 : i < S.2.2.1 x) (hd : decode (mBy y) pc = .ok (.iaload, 1)) (h : mPt ρ p l e R s m args below meth c Qe y H0 S0 Sf (pc + 1) (mls, mI (I x i) :: mst, I, S)) : mPt ρ p l e R s m args below meth c Qe y H0 S0 Sf pc (mls, mI i :: mR x :: mst, I, S) := by
  refine ⟨h.1, fun H locs cells slots ls stk hL hS hH hO hC => ?_⟩
  dsimp only at hL hS hH hC
  obtain ⟨v2, stk2, rfl, h2, hA⟩ := mStk_c hS
  obtain ⟨v1, stk1, rfl, h1, hB⟩ := mStk_c hA
  obtain ⟨ii, rfl⟩ := h2
  obtain ⟨hco, hN, cA, V, hcell, hV⟩ := mHeap_arr hH hkd (by omega) (by omega)
  have hv := mRef_ge h1 hco.1
  subst hv
  obtain ⟨hin, hrd, hcl⟩ := mIx (cA := cA) (V := V) ii h0 h3
  have hV : ArrOfT s cA .int ∧ ∀ j : Nat, (j : Int) < S.2.2.1 x → mIn (I x j) ∧ V j = .int (mO (I x j)) := by
    rcases hV with ⟨z, hV⟩ | ⟨z, -⟩ | ⟨z, -⟩ | ⟨z, -⟩ | ⟨c', q', hc', z, -⟩
    · exact hV
    all_goals omega
  have hj := hV.2 i.toNat (by omega)
  rw [show ((i.toNat : Nat) : Int) = i by omega] at hj
  refine W.iald hx hb hcell (hV.1 _ _) (fun q => by cases q) hin hrd rfl rfl hd ?_
  exact h.2 H locs cells slots ls _ hL ⟨⟨hj.1, hj.2⟩, hB⟩ hH hO hC
theorem st_baload (hx : p.tables.exec = Jvm.exec) (hb : c.code = mBy y) (hkd : S.2.1 x = 51) (h0 : 0 ≤ i) (h3 : i < S.2.2.1 x) (hd : decode (mBy y) pc = .ok (.baload, 1)) (h : mPt ρ p l e R s m args below meth c Qe y H0 S0 Sf (pc + 1) (mls, mI (I x i) :: mst, I, S)) : mPt ρ p l e R s m args below meth c Qe y H0 S0 Sf pc (mls, mI i :: mR x :: mst, I, S) := by
  refine ⟨h.1, fun H locs cells slots ls stk hL hS hH hO hC => ?_⟩
  dsimp only at hL hS hH hC
  obtain ⟨v2, stk2, rfl, h2, hA⟩ := mStk_c hS
  obtain ⟨v1, stk1, rfl, h1, hB⟩ := mStk_c hA
  obtain ⟨ii, rfl⟩ := h2
  obtain ⟨hco, hN, cA, V, hcell, hV⟩ := mHeap_arr hH hkd (by omega) (by omega)
  have hv := mRef_ge h1 hco.1
  subst hv
  obtain ⟨hin, hrd, hcl⟩ := mIx (cA := cA) (V := V) ii h0 h3
  have hV : ArrOfT s cA .boolean ∧ ∀ j : Nat, (j : Int) < S.2.2.1 x → (0 ≤ I x j ∧ I x j ≤ 1) ∧ V j = .int (mO (I x j)) := by
    rcases hV with ⟨z, -⟩ | ⟨z, hV⟩ | ⟨z, -⟩ | ⟨z, -⟩ | ⟨c', q', hc', z, -⟩
    rotate_left 1
    · exact hV
    all_goals omega
  have hj := hV.2 i.toNat (by omega)
  rw [show ((i.toNat : Nat) : Int) = i by omega] at hj
  refine W.zald hx hb hcell (hV.1 _ _) (fun q => by cases q) hin hrd rfl rfl hd ?_
  exact h.2 H locs cells slots ls _ hL ⟨⟨(by have := hj.1; unfold mIn; omega), hj.2⟩, hB⟩ hH hO hC
theorem st_caload (hx : p.tables.exec = Jvm.exec) (hb : c.code = mBy y) (hkd : S.2.1 x = 52) (h0 : 0 ≤ i) (h3 : i < S.2.2.1 x) (hd : decode (mBy y) pc = .ok (.caload, 1)) (h : mPt ρ p l e R s m args below meth c Qe y H0 S0 Sf (pc + 1) (mls, mI (I x i) :: mst, I, S)) : mPt ρ p l e R s m args below meth c Qe y H0 S0 Sf pc (mls, mI i :: mR x :: mst, I, S) := by
  refine ⟨h.1, fun H locs cells slots ls stk hL hS hH hO hC => ?_⟩
  dsimp only at hL hS hH hC
  obtain ⟨v2, stk2, rfl, h2, hA⟩ := mStk_c hS
  obtain ⟨v1, stk1, rfl, h1, hB⟩ := mStk_c hA
  obtain ⟨ii, rfl⟩ := h2
  obtain ⟨hco, hN, cA, V, hcell, hV⟩ := mHeap_arr hH hkd (by omega) (by omega)
  have hv := mRef_ge h1 hco.1
  subst hv
  obtain ⟨hin, hrd, hcl⟩ := mIx (cA := cA) (V := V) ii h0 h3
  have hV : ArrOfT s cA .char ∧ ∀ j : Nat, (j : Int) < S.2.2.1 x → (0 ≤ I x j ∧ I x j ≤ 65535) ∧ V j = .int (mO (I x j)) := by
    rcases hV with ⟨z, -⟩ | ⟨z, -⟩ | ⟨z, hV⟩ | ⟨z, -⟩ | ⟨c', q', hc', z, -⟩
    rotate_left 2
    · exact hV
    all_goals omega
  have hj := hV.2 i.toNat (by omega)
  rw [show ((i.toNat : Nat) : Int) = i by omega] at hj
  refine W.cald hx hb hcell (hV.1 _ _) (fun q => by cases q) hin hrd rfl rfl hd ?_
  exact h.2 H locs cells slots ls _ hL ⟨⟨(by have := hj.1; unfold mIn; omega), hj.2⟩, hB⟩ hH hO hC
theorem st_laload (hx : p.tables.exec = Jvm.exec) (hb : c.code = mBy y) (hkd : S.2.1 x = 53) (h0 : 0 ≤ i) (h3 : i < S.2.2.1 x) (hd : decode (mBy y) pc = .ok (.laload, 1)) (h : mPt ρ p l e R s m args below meth c Qe y H0 S0 Sf (pc + 1) (mls, mL (I x i) :: mst, I, S)) : mPt ρ p l e R s m args below meth c Qe y H0 S0 Sf pc (mls, mI i :: mR x :: mst, I, S) := by
  refine ⟨h.1, fun H locs cells slots ls stk hL hS hH hO hC => ?_⟩
  dsimp only at hL hS hH hC
  obtain ⟨v2, stk2, rfl, h2, hA⟩ := mStk_c hS
  obtain ⟨v1, stk1, rfl, h1, hB⟩ := mStk_c hA
  obtain ⟨ii, rfl⟩ := h2
  obtain ⟨hco, hN, cA, V, hcell, hV⟩ := mHeap_arr hH hkd (by omega) (by omega)
  have hv := mRef_ge h1 hco.1
  subst hv
  obtain ⟨hin, hrd, hcl⟩ := mIx (cA := cA) (V := V) ii h0 h3
  have hV : ArrOfT s cA .long ∧ ∀ j : Nat, (j : Int) < S.2.2.1 x → mInL (I x j) ∧ V j = .long (Int64.ofInt (I x j)) := by
    rcases hV with ⟨z, -⟩ | ⟨z, -⟩ | ⟨z, -⟩ | ⟨z, hV⟩ | ⟨c', q', hc', z, -⟩
    rotate_left 3
    · exact hV
    all_goals omega
  have hj := hV.2 i.toNat (by omega)
  rw [show ((i.toNat : Nat) : Int) = i by omega] at hj
  refine W.lald hx hb hcell (hV.1 _ _) (fun q => by cases q) hin hrd rfl rfl hd ?_
  exact h.2 H locs cells slots ls _ hL ⟨⟨hj.1, hj.2⟩, hB⟩ hH hO hC
theorem st_aaload (hx : p.tables.exec = Jvm.exec) (hb : c.code = mBy y) (hkd : S.2.1 x = (cn : Int) + 60) (hcn : cn < 12) (h0 : 0 ≤ i) (h3 : i < S.2.2.1 x) (hd : decode (mBy y) pc = .ok (.aaload, 1)) (h : mPt ρ p l e R s m args below meth c Qe y H0 S0 Sf (pc + 1) (mls, mR (S.1 x i) :: mst, I, S)) : mPt ρ p l e R s m args below meth c Qe y H0 S0 Sf pc (mls, mI i :: mR x :: mst, I, S) := by
  refine ⟨h.1, fun H locs cells slots ls stk hL hS hH hO hC => ?_⟩
  dsimp only at hL hS hH hC
  obtain ⟨v2, stk2, rfl, h2, hA⟩ := mStk_c hS
  obtain ⟨v1, stk1, rfl, h1, hB⟩ := mStk_c hA
  obtain ⟨ii, rfl⟩ := h2
  obtain ⟨hco, hN, cA, V, hcell, hV⟩ := mHeap_arr hH hkd (by omega) (by omega)
  have hv := mRef_ge h1 hco.1
  subst hv
  obtain ⟨hin, hrd, hcl⟩ := mIx (cA := cA) (V := V) ii h0 h3
  have hV : ∃ (q' : vw_C), ArrOfT s cA (.object q'.1) ∧ ∀ j : Nat, (j : Int) < S.2.2.1 x → mRef (V j) (S.1 x j) := by
    rcases hV with ⟨z, -⟩ | ⟨z, -⟩ | ⟨z, -⟩ | ⟨z, -⟩ | ⟨c', q', hc', z, hV1, hV2, hV3⟩
    rotate_left 4
    · exact ⟨q', hV1, hV3⟩
    all_goals omega
  obtain ⟨q', hV1, hV2⟩ := hV
  have hj := hV2 i.toNat (by omega)
  rw [show ((i.toNat : Nat) : Int) = i by omega] at hj
  refine W.aald hx hb hcell (hV1 _ _) rfl (fun q => by cases q) hin hrd rfl rfl hd ?_
  exact h.2 H locs cells slots ls _ hL ⟨hj, hB⟩ hH hO hC
theorem st_ialoadX (hx : p.tables.exec = Jvm.exec) (hb : c.code = mBy y) (hkd : S.2.1 x = 90) (h0 : 0 ≤ i) (h3 : i < S.2.2.1 x) (hd : decode (mBy y) pc = .ok (.iaload, 1)) (h : mPt ρ p l e R s m args below meth c Qe y H0 S0 Sf (pc + 1) (mls, mI (I x i) :: mst, I, S)) : mPt ρ p l e R s m args below meth c Qe y H0 S0 Sf pc (mls, mI i :: mR x :: mst, I, S) := by
  refine ⟨h.1, fun H locs cells slots ls stk hL hS hH hO hC => ?_⟩
  dsimp only at hL hS hH hC
  obtain ⟨v2, stk2, rfl, h2, hA⟩ := mStk_c hS
  obtain ⟨v1, stk1, rfl, h1, hB⟩ := mStk_c hA
  obtain ⟨ii, rfl⟩ := h2
  obtain ⟨-, ha, hN, hL3, ⟨scr, e1, e2, e3, e4, e5⟩, hV⟩ := mHeap_scr hH hkd
  have hv := mRef_ge h1 (by omega)
  subst hv
  have ec : (mO i).toNatClampNeg = i.toNat := mO_clamp ii h0
  have et : x.toNat = ρ.2.2.2.1 := by omega
  refine W.iald (v := .int (mO (I x i))) hx hb (by rw [et]; exact e1) e2 e3 (fun z => ?_) ?_ rfl rfl hd ?_
  · rcases z with z | z
    · have := (mO_lt ii mIn_0).mp z
      omega
    · rw [e4, ec] at z
      omega
  · rw [ec, e5 i.toNat (by omega)]
    have := hV i.toNat (by omega)
    rw [show ((i.toNat : Nat) : Int) = i by omega] at this
    rw [this, mO_ofInt]
  · refine h.2 H locs cells slots ls _ hL ⟨⟨?_, rfl⟩, hB⟩ hH hO hC
    have := hV i.toNat (by omega)
    rw [show ((i.toNat : Nat) : Int) = i by omega] at this
    rw [this]; exact mIn_toInt _
theorem st_alen (hx : p.tables.exec = Jvm.exec) (hb : c.code = mBy y) (hkd : S.2.1 x = 50) (hd : decode (mBy y) pc = .ok (.arraylength, 1)) (h : mPt ρ p l e R s m args below meth c Qe y H0 S0 Sf (pc + 1) (mls, mI (S.2.2.1 x) :: mst, I, S)) : mPt ρ p l e R s m args below meth c Qe y H0 S0 Sf pc (mls, mR x :: mst, I, S) := by
  refine ⟨h.1, fun H locs cells slots ls stk hL hS hH hO hC => ?_⟩
  dsimp only at hL hS hH hC
  obtain ⟨v1, stk1, rfl, h1, hA⟩ := mStk_c hS
  obtain ⟨hco, hN, cA, V, hcell, hV⟩ := mHeap_arr hH hkd (by omega) (by omega)
  have hv := mRef_ge h1 hco.1
  subst hv
  have hV : ArrOfT s cA .int ∧ ∀ j : Nat, (j : Int) < S.2.2.1 x → mIn (I x j) ∧ V j = .int (mO (I x j)) := by
    rcases hV with ⟨z, hV⟩ | ⟨z, -⟩ | ⟨z, -⟩ | ⟨z, -⟩ | ⟨c', q', hc', z, -⟩
    · exact hV
    all_goals omega
  refine W.alen (n := mO (S.2.2.1 x)) hx hb hcell (hV.1 _ _) ?_ rfl rfl hd ?_
  · rw [arrV_size]
    have := mO_size (n := (S.2.2.1 x).toNat) (by unfold mIn; omega)
    rw [this, show (((S.2.2.1 x).toNat : Nat) : Int) = S.2.2.1 x by omega]
  · exact h.2 H locs cells slots ls _ hL ⟨⟨by unfold mIn; omega, rfl⟩, hA⟩ hH hO hC
theorem st_alenX (hx : p.tables.exec = Jvm.exec) (hb : c.code = mBy y) (hkd : S.2.1 x = 90) (hd : decode (mBy y) pc = .ok (.arraylength, 1)) (h : mPt ρ p l e R s m args below meth c Qe y H0 S0 Sf (pc + 1) (mls, mI (S.2.2.1 x) :: mst, I, S)) : mPt ρ p l e R s m args below meth c Qe y H0 S0 Sf pc (mls, mR x :: mst, I, S) := by
  refine ⟨h.1, fun H locs cells slots ls stk hL hS hH hO hC => ?_⟩
  dsimp only at hL hS hH hC
  obtain ⟨v1, stk1, rfl, h1, hA⟩ := mStk_c hS
  obtain ⟨-, ha, hN, hL3, ⟨scr, e1, e2, e3, e4, e5⟩, hV⟩ := mHeap_scr hH hkd
  have hv := mRef_ge h1 (by omega)
  subst hv
  refine W.alen (n := mO (S.2.2.1 x)) hx hb (by rw [show x.toNat = ρ.2.2.2.1 by omega]; exact e1) e2 ?_ rfl rfl hd ?_
  · rw [e4, hN]; exact mO_size (by unfold mIn; omega)
  · exact h.2 H locs cells slots ls _ hL ⟨⟨by unfold mIn; omega, rfl⟩, hA⟩ hH hO hC
theorem st_iastore (hx : p.tables.exec = Jvm.exec) (hb : c.code = mBy y) {v : Int} (hkd : S.2.1 x = 50) (h0 : 0 ≤ i) (h3 : i < S.2.2.1 x) (hd : decode (mBy y) pc = .ok (.iastore, 1)) (h : mPt ρ p l e R s m args below meth c Qe y H0 S0 Sf (pc + 1) (mls, mst, (mUp I x i v), S)) : mPt ρ p l e R s m args below meth c Qe y H0 S0 Sf pc (mls, mI v :: mI i :: mR x :: mst, I, S) := by
  refine ⟨h.1, fun H locs cells slots ls stk hL hS hH hO hC => ?_⟩
  dsimp only at hL hS hH hC
  obtain ⟨v3, stk3, rfl, h9, hE⟩ := mStk_c hS
  obtain ⟨v2, stk2, rfl, h2, hA⟩ := mStk_c hE
  obtain ⟨v1, stk1, rfl, h1, hB⟩ := mStk_c hA
  obtain ⟨ii, rfl⟩ := h2
  obtain ⟨hco, hN, cA, V, hcell, hV⟩ := mHeap_arr hH hkd (by omega) (by omega)
  have hv := mRef_ge h1 hco.1
  subst hv
  obtain ⟨hin, hrd, hcl⟩ := mIx (cA := cA) (V := V) ii h0 h3
  have hV : ArrOfT s cA .int ∧ ∀ j : Nat, (j : Int) < S.2.2.1 x → mIn (I x j) ∧ V j = .int (mO (I x j)) := by
    rcases hV with ⟨z, hV⟩ | ⟨z, -⟩ | ⟨z, -⟩ | ⟨z, -⟩ | ⟨c', q', hc', z, -⟩
    · exact hV
    all_goals omega
  obtain ⟨hv9, rfl⟩ := h9
  refine W.iast hx hb hcell (hV.1 _ _) (fun q => by cases q) hin rfl rfl hd (fun H' e1 e2 e3 => ?_)
  rw [hcl, arrV_store] at e1
  refine h.2 H' _ cells slots ls _ hL hB ?_ (mOld_put hO hco.2 e2 e3 rfl) hC
  refine mHeap_put hH hco.1 e2 e3 (fun a ha => mUp_a ha) (fun a _ => rfl) rfl (Or.inr (Or.inr (Or.inl ⟨hco, hN, cA, _, e1, Or.inl ⟨hkd, hV.1, fun j hj => ?_⟩⟩)))
  have hj : (j : Int) < S.2.2.1 x := hj
  show mIn (mUp I x i v x j) ∧ updV V i.toNat (.int (mO v)) j = .int (mO (mUp I x i v x j))
  by_cases ej : j = i.toNat
  · have e7 : mUp I x i v x j = v := mUp_eq rfl (by omega)
    have e8 : updV V i.toNat (.int (mO v)) j = .int (mO v) := if_pos ej
    rw [e7, e8]; exact ⟨hv9, rfl⟩
  · have e7 : mUp I x i v x j = I x j := mUp_nk (by omega)
    have e8 : updV V i.toNat (.int (mO v)) j = V j := if_neg ej
    rw [e7, e8]; exact hV.2 j hj
theorem st_bastore (hx : p.tables.exec = Jvm.exec) (hb : c.code = mBy y) {v : Int} (hv : 0 ≤ v ∧ v ≤ 1) (hkd : S.2.1 x = 51) (h0 : 0 ≤ i) (h3 : i < S.2.2.1 x) (hd : decode (mBy y) pc = .ok (.bastore, 1)) (h : mPt ρ p l e R s m args below meth c Qe y H0 S0 Sf (pc + 1) (mls, mst, (mUp I x i v), S)) : mPt ρ p l e R s m args below meth c Qe y H0 S0 Sf pc (mls, mI v :: mI i :: mR x :: mst, I, S) := by
  refine ⟨h.1, fun H locs cells slots ls stk hL hS hH hO hC => ?_⟩
  dsimp only at hL hS hH hC
  obtain ⟨v3, stk3, rfl, h9, hE⟩ := mStk_c hS
  obtain ⟨v2, stk2, rfl, h2, hA⟩ := mStk_c hE
  obtain ⟨v1, stk1, rfl, h1, hB⟩ := mStk_c hA
  obtain ⟨ii, rfl⟩ := h2
  obtain ⟨hco, hN, cA, V, hcell, hV⟩ := mHeap_arr hH hkd (by omega) (by omega)
  have hv := mRef_ge h1 hco.1
  subst hv
  obtain ⟨hin, hrd, hcl⟩ := mIx (cA := cA) (V := V) ii h0 h3
  have hV : ArrOfT s cA .boolean ∧ ∀ j : Nat, (j : Int) < S.2.2.1 x → (0 ≤ I x j ∧ I x j ≤ 1) ∧ V j = .int (mO (I x j)) := by
    rcases hV with ⟨z, -⟩ | ⟨z, hV⟩ | ⟨z, -⟩ | ⟨z, -⟩ | ⟨c', q', hc', z, -⟩
    rotate_left 1
    · exact hV
    all_goals omega
  obtain ⟨hv9, rfl⟩ := h9
  refine W.zast hx hb hcell (hV.1 _ _) (fun q => by cases q) hin rfl rfl hd (fun H' e1 e2 e3 => ?_)
  rw [hcl, mNar_z hv, arrV_store] at e1
  refine h.2 H' _ cells slots ls _ hL hB ?_ (mOld_put hO hco.2 e2 e3 rfl) hC
  refine mHeap_put hH hco.1 e2 e3 (fun a ha => mUp_a ha) (fun a _ => rfl) rfl (Or.inr (Or.inr (Or.inl ⟨hco, hN, cA, _, e1, Or.inr (Or.inl ⟨hkd, hV.1, fun j hj => ?_⟩)⟩)))
  have hj : (j : Int) < S.2.2.1 x := hj
  show (0 ≤ mUp I x i v x j ∧ mUp I x i v x j ≤ 1) ∧ updV V i.toNat (.int (mO v)) j = .int (mO (mUp I x i v x j))
  by_cases ej : j = i.toNat
  · have e7 : mUp I x i v x j = v := mUp_eq rfl (by omega)
    have e8 : updV V i.toNat (.int (mO v)) j = .int (mO v) := if_pos ej
    rw [e7, e8]; exact ⟨hv, rfl⟩
  · have e7 : mUp I x i v x j = I x j := mUp_nk (by omega)
    have e8 : updV V i.toNat (.int (mO v)) j = V j := if_neg ej
    rw [e7, e8]; exact hV.2 j hj
theorem st_castore (hx : p.tables.exec = Jvm.exec) (hb : c.code = mBy y) {v : Int} (hv : 0 ≤ v ∧ v ≤ 65535) (hkd : S.2.1 x = 52) (h0 : 0 ≤ i) (h3 : i < S.2.2.1 x) (hd : decode (mBy y) pc = .ok (.castore, 1)) (h : mPt ρ p l e R s m args below meth c Qe y H0 S0 Sf (pc + 1) (mls, mst, (mUp I x i v), S)) : mPt ρ p l e R s m args below meth c Qe y H0 S0 Sf pc (mls, mI v :: mI i :: mR x :: mst, I, S) := by
  refine ⟨h.1, fun H locs cells slots ls stk hL hS hH hO hC => ?_⟩
  dsimp only at hL hS hH hC
  obtain ⟨v3, stk3, rfl, h9, hE⟩ := mStk_c hS
  obtain ⟨v2, stk2, rfl, h2, hA⟩ := mStk_c hE
  obtain ⟨v1, stk1, rfl, h1, hB⟩ := mStk_c hA
  obtain ⟨ii, rfl⟩ := h2
  obtain ⟨hco, hN, cA, V, hcell, hV⟩ := mHeap_arr hH hkd (by omega) (by omega)
  have hv := mRef_ge h1 hco.1
  subst hv
  obtain ⟨hin, hrd, hcl⟩ := mIx (cA := cA) (V := V) ii h0 h3
  have hV : ArrOfT s cA .char ∧ ∀ j : Nat, (j : Int) < S.2.2.1 x → (0 ≤ I x j ∧ I x j ≤ 65535) ∧ V j = .int (mO (I x j)) := by
    rcases hV with ⟨z, -⟩ | ⟨z, -⟩ | ⟨z, hV⟩ | ⟨z, -⟩ | ⟨c', q', hc', z, -⟩
    rotate_left 2
    · exact hV
    all_goals omega
  obtain ⟨hv9, rfl⟩ := h9
  refine W.cast hx hb hcell (hV.1 _ _) (fun q => by cases q) hin rfl rfl hd (fun H' e1 e2 e3 => ?_)
  rw [hcl, mNar_c hv, arrV_store] at e1
  refine h.2 H' _ cells slots ls _ hL hB ?_ (mOld_put hO hco.2 e2 e3 rfl) hC
  refine mHeap_put hH hco.1 e2 e3 (fun a ha => mUp_a ha) (fun a _ => rfl) rfl (Or.inr (Or.inr (Or.inl ⟨hco, hN, cA, _, e1, Or.inr (Or.inr (Or.inl ⟨hkd, hV.1, fun j hj => ?_⟩))⟩)))
  have hj : (j : Int) < S.2.2.1 x := hj
  show (0 ≤ mUp I x i v x j ∧ mUp I x i v x j ≤ 65535) ∧ updV V i.toNat (.int (mO v)) j = .int (mO (mUp I x i v x j))
  by_cases ej : j = i.toNat
  · have e7 : mUp I x i v x j = v := mUp_eq rfl (by omega)
    have e8 : updV V i.toNat (.int (mO v)) j = .int (mO v) := if_pos ej
    rw [e7, e8]; exact ⟨hv, rfl⟩
  · have e7 : mUp I x i v x j = I x j := mUp_nk (by omega)
    have e8 : updV V i.toNat (.int (mO v)) j = V j := if_neg ej
    rw [e7, e8]; exact hV.2 j hj
theorem st_lastore (hx : p.tables.exec = Jvm.exec) (hb : c.code = mBy y) {v : Int} (hkd : S.2.1 x = 53) (h0 : 0 ≤ i) (h3 : i < S.2.2.1 x) (hd : decode (mBy y) pc = .ok (.lastore, 1)) (h : mPt ρ p l e R s m args below meth c Qe y H0 S0 Sf (pc + 1) (mls, mst, (mUp I x i v), S)) : mPt ρ p l e R s m args below meth c Qe y H0 S0 Sf pc (mls, mL v :: mI i :: mR x :: mst, I, S) := by
  refine ⟨h.1, fun H locs cells slots ls stk hL hS hH hO hC => ?_⟩
  dsimp only at hL hS hH hC
  obtain ⟨v3, stk3, rfl, h9, hE⟩ := mStk_c hS
  obtain ⟨v2, stk2, rfl, h2, hA⟩ := mStk_c hE
  obtain ⟨v1, stk1, rfl, h1, hB⟩ := mStk_c hA
  obtain ⟨ii, rfl⟩ := h2
  obtain ⟨hco, hN, cA, V, hcell, hV⟩ := mHeap_arr hH hkd (by omega) (by omega)
  have hv := mRef_ge h1 hco.1
  subst hv
  obtain ⟨hin, hrd, hcl⟩ := mIx (cA := cA) (V := V) ii h0 h3
  have hV : ArrOfT s cA .long ∧ ∀ j : Nat, (j : Int) < S.2.2.1 x → mInL (I x j) ∧ V j = .long (Int64.ofInt (I x j)) := by
    rcases hV with ⟨z, -⟩ | ⟨z, -⟩ | ⟨z, -⟩ | ⟨z, hV⟩ | ⟨c', q', hc', z, -⟩
    rotate_left 3
    · exact hV
    all_goals omega
  obtain ⟨hv9, rfl⟩ := h9
  refine W.last hx hb hcell (hV.1 _ _) (fun q => by cases q) hin rfl rfl hd (fun H' e1 e2 e3 => ?_)
  rw [hcl, arrV_store] at e1
  refine h.2 H' _ cells slots ls _ hL hB ?_ (mOld_put hO hco.2 e2 e3 rfl) hC
  refine mHeap_put hH hco.1 e2 e3 (fun a ha => mUp_a ha) (fun a _ => rfl) rfl (Or.inr (Or.inr (Or.inl ⟨hco, hN, cA, _, e1, Or.inr (Or.inr (Or.inr (Or.inl ⟨hkd, hV.1, fun j hj => ?_⟩)))⟩)))
  have hj : (j : Int) < S.2.2.1 x := hj
  show mInL (mUp I x i v x j) ∧ updV V i.toNat (.long (Int64.ofInt v)) j = .long (Int64.ofInt (mUp I x i v x j))
  by_cases ej : j = i.toNat
  · have e7 : mUp I x i v x j = v := mUp_eq rfl (by omega)
    have e8 : updV V i.toNat (.long (Int64.ofInt v)) j = .long (Int64.ofInt v) := if_pos ej
    rw [e7, e8]; exact ⟨hv9, rfl⟩
  · have e7 : mUp I x i v x j = I x j := mUp_nk (by omega)
    have e8 : updV V i.toNat (.long (Int64.ofInt v)) j = V j := if_neg ej
    rw [e7, e8]; exact hV.2 j hj
end MS2
