/-! locals: read, stored -/
theorem mO_8 {v : Int} (h : -128 ≤ v ∧ v ≤ 127) : (Int8.ofInt v).toInt32 = mO v := by
  apply Int32.toInt_inj.mp
  rw [mO_toInt (by unfold mIn; omega), Int8.toInt_toInt32, Int8.toInt_ofInt_of_le (by omega) (by omega)]
theorem mO_16 {v : Int} (h : -32768 ≤ v ∧ v ≤ 32767) : (Int16.ofInt v).toInt32 = mO v := by
  apply Int32.toInt_inj.mp
  rw [mO_toInt (by unfold mIn; omega), Int16.toInt_toInt32, Int16.toInt_ofInt_of_le (by omega) (by omega)]
theorem mLoc_get {ρ : mRho} {y : Nat} {ls : Array Slot} {mls : mM} {a : Nat} {w : mV} (h : mLoc ρ y ls mls) (hg : mGet mls a = some w) : ∃ v, ls[a]? = some (.val v) ∧ mVal ρ v w := by
  obtain ⟨-, lv, hl, h2, -⟩ := h
  obtain ⟨x, hx, hv⟩ := h2 a w hg
  exact ⟨x, hl.2.2 (a, x) hx, hv⟩
theorem mSet_len : ∀ (l : mM) (k : Nat) (v : mV), (mSet l k v).length = l.length
  | [], _, _ => rfl
  | _ :: l, 0, _ => rfl
  | _ :: l, k + 1, v => by show (mSet l k v).length + 1 = l.length + 1; rw [mSet_len l k v]
theorem mOff_len : ∀ (l : mM) (k : Nat), (mOff l k).length = l.length
  | [], _ => rfl
  | _ :: l, 0 => rfl
  | _ :: l, k + 1 => by show (mOff l k).length + 1 = l.length + 1; rw [mOff_len l k]
theorem mSet_get : ∀ (l : mM) (k : Nat) (v : mV) (i : Nat) (w : mV), mGet (mSet l k v) i = some w → (i = k ∧ w = v) ∨ (i ≠ k ∧ mGet l i = some w)
  | [], _, _, i, w, h => by cases h
  | x :: l, 0, v, 0, w, h => Or.inl ⟨rfl, (Option.some.inj h).symm⟩
  | x :: l, 0, v, i + 1, w, h => Or.inr ⟨by omega, h⟩
  | x :: l, k + 1, v, 0, w, h => Or.inr ⟨by omega, h⟩
  | x :: l, k + 1, v, i + 1, w, h => by
    rcases mSet_get l k v i w h with ⟨a, b⟩ | ⟨a, b⟩
    · exact Or.inl ⟨by omega, b⟩
    · exact Or.inr ⟨by omega, b⟩
theorem mOff_get : ∀ (l : mM) (k : Nat) (i : Nat) (w : mV), mGet (mOff l k) i = some w → i ≠ k ∧ mGet l i = some w
  | [], _, i, w, h => by cases h
  | x :: l, 0, 0, w, h => by cases h
  | x :: l, 0, i + 1, w, h => ⟨by omega, h⟩
  | x :: l, k + 1, 0, w, h => ⟨by omega, h⟩
  | x :: l, k + 1, i + 1, w, h => by
    obtain ⟨a, b⟩ := mOff_get l k i w h
    exact ⟨by omega, b⟩
theorem mKill_len (l : mM) (k : Nat) : (mKill l k).length = l.length := by
  unfold mKill
  split
  · rfl
  · split <;> first | exact mOff_len _ _ | rfl
theorem mKill_get (l : mM) (k i : Nat) (w : mV) (h : mGet (mKill l k) i = some w) : mGet l i = some w ∧ (i + 1 = k → (∀ x, w ≠ mL x) ∧ ∀ x, w ≠ mD x) := by
  unfold mKill at h
  split at h
  · exact ⟨h, fun z => by omega⟩
  · rename_i j
    split at h
    · obtain ⟨a, b⟩ := mOff_get _ _ _ _ h
      exact ⟨b, fun z => by omega⟩
    · obtain ⟨a, b⟩ := mOff_get _ _ _ _ h
      exact ⟨b, fun z => by omega⟩
    · rename_i h1 h2
      refine ⟨h, fun z => ⟨fun x e => ?_, fun x e => ?_⟩⟩
      · have : i = j := by omega
        subst this; subst e
        exact h1 _ h
      · have : i = j := by omega
        subst this; subst e
        exact h2 _ h
theorem mPut_len (n : Nat) (l : mM) (k : Nat) (v : mV) : (mPut n l k v).length = l.length := by
  unfold mPut
  split
  · exact mSet_len _ _ _
  · rw [mSet_len, mKill_len]
theorem mPut_get (n : Nat) (l : mM) (k : Nat) (v : mV) (i : Nat) (w : mV) (h : mGet (mPut n l k v) i = some w) : (i = k ∧ w = v) ∨ (i ≠ k ∧ mGet l i = some w ∧ (n ≠ 0 → i + 1 = k → (∀ x, w ≠ mL x) ∧ ∀ x, w ≠ mD x)) := by
  unfold mPut at h
  split at h
  · rcases mSet_get _ _ _ _ _ h with h | ⟨a, b⟩
    · exact Or.inl h
    · exact Or.inr ⟨a, b, fun z => absurd rfl z⟩
  · rcases mSet_get _ _ _ _ _ h with h | ⟨a, b⟩
    · exact Or.inl h
    · have := mKill_get _ _ _ _ b
      exact Or.inr ⟨a, this.1, fun _ => this.2⟩
theorem mLoc_set0 {ρ : mRho} {y : Nat} {ls : Array Slot} {mls : mM} {a n : Nat} {w : mV} {v : Value} {lv : List (Nat × Value)} (hlen : mls.length = mMaxL y) (h2 : ∀ i w, mGet mls i = some w → ∃ x, (i, x) ∈ lv ∧ mVal ρ x w) (h3 : y ≠ 413 → ∀ q ∈ lv, q.2.category = 1) (hn : y = 413 → n ≠ 0) (hv : mVal ρ v w) (hc : v.category = 1) (ls' : Array Slot) (hl : lv_has ls' (mMaxL y) ((a, v) :: lv.filter (fun q => !(q.1 == a) && !(q.1 + 1 == a && q.2.category == 2)))) : mLoc ρ y ls' (mPut n mls a w) := by
  refine ⟨by rw [mPut_len]; exact hlen, _, hl, fun i w2 hg => ?_, fun hy q hq => ?_⟩
  · rcases mPut_get _ _ _ _ _ _ hg with ⟨rfl, rfl⟩ | ⟨hi, hg, hk⟩
    · exact ⟨v, List.mem_cons_self, hv⟩
    · obtain ⟨x, hx, hvx⟩ := h2 i w2 hg
      refine ⟨x, List.mem_cons_of_mem _ (List.mem_filter.mpr ⟨hx, ?_⟩), hvx⟩
      have hcat : i + 1 = a → x.category = 1 := by
        intro hia
        by_cases hy : y = 413
        · obtain ⟨z1, z2⟩ := hk (hn hy) hia
          exact mVal_c1 hvx z1 z2
        · exact h3 hy _ hx
      simp only [Bool.and_eq_true, Bool.not_eq_true', beq_eq_false_iff_ne, Bool.and_eq_false_iff, ne_eq]
      refine ⟨hi, ?_⟩
      by_cases hia : i + 1 = a
      · right; rw [hcat hia]; decide
      · left; exact hia
  · rcases List.mem_cons.mp hq with rfl | hq
    · exact hc
    · exact h3 hy q (List.mem_filter.mp hq).1
theorem mLoc_set {ρ : mRho} {y : Nat} {ls : Array Slot} {mls : mM} {a n : Nat} {w : mV} {v : Value} (h : mLoc ρ y ls mls) (hn : y = 413 → n ≠ 0) (ha : a < mMaxL y) (hv : mVal ρ v w) (hc : v.category = 1) : ∃ lv, lv_has ls (mMaxL y) lv ∧ ∀ ls', lv_has ls' (mMaxL y) ((a, v) :: lv.filter (fun q => !(q.1 == a) && !(q.1 + 1 == a && q.2.category == 2))) → mLoc ρ y ls' (mPut n mls a w) := by
  obtain ⟨hlen, lv, hl, h2, h3⟩ := h
  exact ⟨lv, hl, mLoc_set0 (ls := ls) hlen h2 h3 hn hv hc⟩
theorem mLoc_inc {ρ : mRho} {y : Nat} {ls : Array Slot} {mls : mM} {a n : Nat} {w : mV} {v : Value} {x : Int} (h : mLoc ρ y ls mls) (hn : y = 413 → n ≠ 0) (ha : a < mMaxL y) (hg : mGet mls a = some (mI x)) (hv : mVal ρ v w) (hc : v.category = 1) : ∃ lv : List (Nat × Value), lv_has ls (mMaxL y) lv ∧ ∃ k : Nat, (lv : List (Nat × Value))[k]? = some (a, Value.int (mO x)) ∧ ∀ ls', lv_has ls' (mMaxL y) ((a, v) :: lv.filter (fun q => !(q.1 == a) && !(q.1 + 1 == a && q.2.category == 2))) → mLoc ρ y ls' (mPut n mls a w) := by
  obtain ⟨hlen, lv, hl, h2, h3⟩ := h
  obtain ⟨z, hz, hzi, rfl⟩ := h2 a _ hg
  obtain ⟨k, hk⟩ := List.getElem?_of_mem hz
  exact ⟨lv, hl, k, hk, mLoc_set0 (ls := ls) hlen h2 h3 hn hv hc⟩
/-! One instruction of the small machine is one of the machine's: what holds behind it holds ahead of it (mPt). -/
def mPt (ρ : mRho) (p : Program) (l : Launch) (e : Env) (R : Room) (s : State) (m : MethodId) (args : Array Value) (below : List Frame) (meth : Method) (c : Code) (Qe : State → Prop) (y : Nat) (H0 : Heap) (S0 Sf : mH) (pc : Nat) (k : mC) : Prop :=
  (k.2.2.2.2.2.2.1 ≤ Sf.2.2.2.1 ∧ k.2.2.2.2.2.2.2 ≤ Sf.2.2.2.2) ∧
  ∀ (H : Heap) (locs : List Loc) (cells slots : Nat) (ls : Array Slot) (stk : List Value), mLoc ρ y ls k.1 → mStk ρ stk k.2.1 → mHeap ρ s k.2.2.1 k.2.2.2 H → mOld ρ H0 H locs → mCnt S0 k.2.2.2 cells slots → W p l e R s m args below meth c H locs cells slots Qe (F0 m pc ls stk)
section MST
variable {ρ : mRho} {p : Program} {l : Launch} {e : Env} {R : Room} {s : State} {m : MethodId} {args : Array Value} {below : List Frame} {meth : Method} {c : Code} {Qe : State → Prop} {y : Nat} {H0 : Heap} {S0 Sf : mH}
variable {pc : Nat} {mls : mM} {mst : List mV} {I : mN} {S : mH}
theorem st_iconst (hx : p.tables.exec = Jvm.exec) (hb : c.code = mBy y) {v : Int} (hv : mIn v) (hd : decode (mBy y) pc = .ok (.iconst v, 1)) (h : mPt ρ p l e R s m args below meth c Qe y H0 S0 Sf (pc + 1) (mls, mI v :: mst, I, S)) : mPt ρ p l e R s m args below meth c Qe y H0 S0 Sf pc (mls, mst, I, S) := by
  refine ⟨h.1, fun H locs cells slots ls stk hL hS hH hO hC => ?_⟩
  refine lv_iconst (v := mO v) hx hb hd rfl ?_
  exact h.2 H locs cells slots ls _ hL ⟨⟨hv, rfl⟩, hS⟩ hH hO hC
theorem st_bipush (hx : p.tables.exec = Jvm.exec) (hb : c.code = mBy y) {v : Int} (hv : -128 ≤ v ∧ v ≤ 127) (hd : decode (mBy y) pc = .ok (.bipush v, 2)) (h : mPt ρ p l e R s m args below meth c Qe y H0 S0 Sf (pc + 2) (mls, mI v :: mst, I, S)) : mPt ρ p l e R s m args below meth c Qe y H0 S0 Sf pc (mls, mst, I, S) := by
  refine ⟨h.1, fun H locs cells slots ls stk hL hS hH hO hC => ?_⟩
  refine lv_bipush (v := mO v) hx hb hd (mO_8 hv) ?_
  exact h.2 H locs cells slots ls _ hL ⟨⟨by unfold mIn; omega, rfl⟩, hS⟩ hH hO hC
theorem st_sipush (hx : p.tables.exec = Jvm.exec) (hb : c.code = mBy y) {v : Int} (hv : -32768 ≤ v ∧ v ≤ 32767) (hd : decode (mBy y) pc = .ok (.sipush v, 3)) (h : mPt ρ p l e R s m args below meth c Qe y H0 S0 Sf (pc + 3) (mls, mI v :: mst, I, S)) : mPt ρ p l e R s m args below meth c Qe y H0 S0 Sf pc (mls, mst, I, S) := by
  refine ⟨h.1, fun H locs cells slots ls stk hL hS hH hO hC => ?_⟩
  refine lv_sipush (v := mO v) hx hb hd (mO_16 hv) ?_
  exact h.2 H locs cells slots ls _ hL ⟨⟨by unfold mIn; omega, rfl⟩, hS⟩ hH hO hC
theorem st_lconst (hx : p.tables.exec = Jvm.exec) (hb : c.code = mBy y) {v : Fin 2} (hd : decode (mBy y) pc = .ok (.lconst v, 1)) (h : mPt ρ p l e R s m args below meth c Qe y H0 S0 Sf (pc + 1) (mls, mL (v : Nat) :: mst, I, S)) : mPt ρ p l e R s m args below meth c Qe y H0 S0 Sf pc (mls, mst, I, S) := by
  refine ⟨h.1, fun H locs cells slots ls stk hL hS hH hO hC => ?_⟩
  refine lv_lconst (v := Int64.ofInt ((v : Nat) : Int)) hx hb hd Int64.ofInt_eq_ofNat.symm ?_
  exact h.2 H locs cells slots ls _ hL ⟨⟨by unfold mInL; omega, rfl⟩, hS⟩ hH hO hC
theorem st_fconst (hx : p.tables.exec = Jvm.exec) (hb : c.code = mBy y) (hd : decode (mBy y) pc = .ok (.fconst 0, 1)) (h : mPt ρ p l e R s m args below meth c Qe y H0 S0 Sf (pc + 1) (mls, mF 0 :: mst, I, S)) : mPt ρ p l e R s m args below meth c Qe y H0 S0 Sf pc (mls, mst, I, S) := by
  refine ⟨h.1, fun H locs cells slots ls stk hL hS hH hO hC => ?_⟩
  refine lv_fconst0 hx hb hd ?_
  exact h.2 H locs cells slots ls _ hL ⟨rfl, hS⟩ hH hO hC
theorem st_dconst (hx : p.tables.exec = Jvm.exec) (hb : c.code = mBy y) (hd : decode (mBy y) pc = .ok (.dconst 0, 1)) (h : mPt ρ p l e R s m args below meth c Qe y H0 S0 Sf (pc + 1) (mls, mD 0 :: mst, I, S)) : mPt ρ p l e R s m args below meth c Qe y H0 S0 Sf pc (mls, mst, I, S) := by
  refine ⟨h.1, fun H locs cells slots ls stk hL hS hH hO hC => ?_⟩
  refine lv_dconst0 hx hb hd ?_
  exact h.2 H locs cells slots ls _ hL ⟨rfl, hS⟩ hH hO hC
theorem st_iload (hx : p.tables.exec = Jvm.exec) (hb : c.code = mBy y) {a : Nat} {x : Int} (hd : decode (mBy y) pc = .ok (.iload a, 2)) (hg : mGet mls a = some (mI x)) (h : mPt ρ p l e R s m args below meth c Qe y H0 S0 Sf (pc + 2) (mls, mI x :: mst, I, S)) : mPt ρ p l e R s m args below meth c Qe y H0 S0 Sf pc (mls, mst, I, S) := by
  refine ⟨h.1, fun H locs cells slots ls stk hL hS hH hO hC => ?_⟩
  obtain ⟨v1, hv1, hm⟩ := mLoc_get hL hg
  obtain ⟨hi, rfl⟩ := hm
  refine lv_iload hx hb hd hv1 ?_
  exact h.2 H locs cells slots ls _ hL ⟨⟨hi, rfl⟩, hS⟩ hH hO hC
theorem st_iload_n (hx : p.tables.exec = Jvm.exec) (hb : c.code = mBy y) {a : Nat} {x : Int} {v : Fin 4} (ha : (v : Nat) = a) (hd : decode (mBy y) pc = .ok (.iload_n v, 1)) (hg : mGet mls a = some (mI x)) (h : mPt ρ p l e R s m args below meth c Qe y H0 S0 Sf (pc + 1) (mls, mI x :: mst, I, S)) : mPt ρ p l e R s m args below meth c Qe y H0 S0 Sf pc (mls, mst, I, S) := by
  refine ⟨h.1, fun H locs cells slots ls stk hL hS hH hO hC => ?_⟩
  obtain ⟨v1, hv1, hm⟩ := mLoc_get hL hg
  obtain ⟨hi, rfl⟩ := hm
  refine lv_iload_n hx hb hd ha hv1 ?_
  exact h.2 H locs cells slots ls _ hL ⟨⟨hi, rfl⟩, hS⟩ hH hO hC
theorem st_aload_r (hx : p.tables.exec = Jvm.exec) (hb : c.code = mBy y) {a : Nat} {x : Int} (hd : decode (mBy y) pc = .ok (.aload a, 2)) (hg : mGet mls a = some (mR x)) (h : mPt ρ p l e R s m args below meth c Qe y H0 S0 Sf (pc + 2) (mls, mR x :: mst, I, S)) : mPt ρ p l e R s m args below meth c Qe y H0 S0 Sf pc (mls, mst, I, S) := by
  refine ⟨h.1, fun H locs cells slots ls stk hL hS hH hO hC => ?_⟩
  obtain ⟨v1, hv1, hm⟩ := mLoc_get hL hg
  rcases id hm with ⟨-, rfl⟩ | ⟨-, rfl⟩ | ⟨-, q, rfl⟩
  · refine lv_aloadN hx hb hd hv1 ?_
    exact h.2 H locs cells slots ls _ hL ⟨hm, hS⟩ hH hO hC
  · refine lv_aload hx hb hd hv1 ?_
    exact h.2 H locs cells slots ls _ hL ⟨hm, hS⟩ hH hO hC
  · refine lv_aload hx hb hd hv1 ?_
    exact h.2 H locs cells slots ls _ hL ⟨hm, hS⟩ hH hO hC
theorem st_aload_s (hx : p.tables.exec = Jvm.exec) (hb : c.code = mBy y) {a x : Nat} (hd : decode (mBy y) pc = .ok (.aload a, 2)) (hg : mGet mls a = some (mS x)) (h : mPt ρ p l e R s m args below meth c Qe y H0 S0 Sf (pc + 2) (mls, mS x :: mst, I, S)) : mPt ρ p l e R s m args below meth c Qe y H0 S0 Sf pc (mls, mst, I, S) := by
  refine ⟨h.1, fun H locs cells slots ls stk hL hS hH hO hC => ?_⟩
  obtain ⟨v1, hv1, hm⟩ := mLoc_get hL hg
  obtain ⟨hk, rfl⟩ := hm
  refine lv_aload hx hb hd hv1 ?_
  exact h.2 H locs cells slots ls _ hL ⟨⟨hk, rfl⟩, hS⟩ hH hO hC
theorem st_aload_n_r (hx : p.tables.exec = Jvm.exec) (hb : c.code = mBy y) {a : Nat} {x : Int} {v : Fin 4} (ha : (v : Nat) = a) (hd : decode (mBy y) pc = .ok (.aload_n v, 1)) (hg : mGet mls a = some (mR x)) (h : mPt ρ p l e R s m args below meth c Qe y H0 S0 Sf (pc + 1) (mls, mR x :: mst, I, S)) : mPt ρ p l e R s m args below meth c Qe y H0 S0 Sf pc (mls, mst, I, S) := by
  refine ⟨h.1, fun H locs cells slots ls stk hL hS hH hO hC => ?_⟩
  obtain ⟨v1, hv1, hm⟩ := mLoc_get hL hg
  rcases id hm with ⟨-, rfl⟩ | ⟨-, rfl⟩ | ⟨-, q, rfl⟩
  · refine lv_aload_nN hx hb hd ha hv1 ?_
    exact h.2 H locs cells slots ls _ hL ⟨hm, hS⟩ hH hO hC
  · refine lv_aload_n hx hb hd ha hv1 ?_
    exact h.2 H locs cells slots ls _ hL ⟨hm, hS⟩ hH hO hC
  · refine lv_aload_n hx hb hd ha hv1 ?_
    exact h.2 H locs cells slots ls _ hL ⟨hm, hS⟩ hH hO hC
theorem st_aload_n_s (hx : p.tables.exec = Jvm.exec) (hb : c.code = mBy y) {a x : Nat} {v : Fin 4} (ha : (v : Nat) = a) (hd : decode (mBy y) pc = .ok (.aload_n v, 1)) (hg : mGet mls a = some (mS x)) (h : mPt ρ p l e R s m args below meth c Qe y H0 S0 Sf (pc + 1) (mls, mS x :: mst, I, S)) : mPt ρ p l e R s m args below meth c Qe y H0 S0 Sf pc (mls, mst, I, S) := by
  refine ⟨h.1, fun H locs cells slots ls stk hL hS hH hO hC => ?_⟩
  obtain ⟨v1, hv1, hm⟩ := mLoc_get hL hg
  obtain ⟨hk, rfl⟩ := hm
  refine lv_aload_n hx hb hd ha hv1 ?_
  exact h.2 H locs cells slots ls _ hL ⟨⟨hk, rfl⟩, hS⟩ hH hO hC
theorem st_dload (hx : p.tables.exec = Jvm.exec) (hb : c.code = mBy y) {a : Nat} {x : UInt64} (hd : decode (mBy y) pc = .ok (.dload a, 2)) (hg : mGet mls a = some (mD x)) (h : mPt ρ p l e R s m args below meth c Qe y H0 S0 Sf (pc + 2) (mls, mD x :: mst, I, S)) : mPt ρ p l e R s m args below meth c Qe y H0 S0 Sf pc (mls, mst, I, S) := by
  refine ⟨h.1, fun H locs cells slots ls stk hL hS hH hO hC => ?_⟩
  obtain ⟨v1, hv1, hm⟩ := mLoc_get hL hg
  have hm : v1 = .double x := hm
  subst hm
  refine lv_dload hx hb hd hv1 ?_
  exact h.2 H locs cells slots ls _ hL ⟨rfl, hS⟩ hH hO hC
theorem st_istore (hx : p.tables.exec = Jvm.exec) (hb : c.code = mBy y) {a n : Nat} {x : Int} (hd : decode (mBy y) pc = .ok (.istore a, 2)) (hn : y = 413 → n ≠ 0) (ha0 : a < mMaxL y) (h : mPt ρ p l e R s m args below meth c Qe y H0 S0 Sf (pc + 2) ((mPut n mls a (mI x)), mst, I, S)) : mPt ρ p l e R s m args below meth c Qe y H0 S0 Sf pc (mls, mI x :: mst, I, S) := by
  refine ⟨h.1, fun H locs cells slots ls stk hL hS hH hO hC => ?_⟩
  obtain ⟨v1, stk1, rfl, hm, hA⟩ := mStk_c hS
  obtain ⟨hi, rfl⟩ := hm
  obtain ⟨lv, h1, h2⟩ := mLoc_set hL hn ha0 (w := mI x) (v := .int (mO x)) ⟨hi, rfl⟩ rfl
  refine lv_istore hx hb hd h1 ha0 rfl (fun ls hl => ?_)
  exact h.2 H locs cells slots ls _ (h2 ls hl) hA hH hO hC
theorem st_istore_n (hx : p.tables.exec = Jvm.exec) (hb : c.code = mBy y) {a n : Nat} {x : Int} {v : Fin 4} (ha : (v : Nat) = a) (hd : decode (mBy y) pc = .ok (.istore_n v, 1)) (hn : y = 413 → n ≠ 0) (ha0 : a < mMaxL y) (h : mPt ρ p l e R s m args below meth c Qe y H0 S0 Sf (pc + 1) ((mPut n mls a (mI x)), mst, I, S)) : mPt ρ p l e R s m args below meth c Qe y H0 S0 Sf pc (mls, mI x :: mst, I, S) := by
  refine ⟨h.1, fun H locs cells slots ls stk hL hS hH hO hC => ?_⟩
  obtain ⟨v1, stk1, rfl, hm, hA⟩ := mStk_c hS
  obtain ⟨hi, rfl⟩ := hm
  obtain ⟨lv, h1, h2⟩ := mLoc_set hL hn ha0 (w := mI x) (v := .int (mO x)) ⟨hi, rfl⟩ rfl
  refine lv_istore_n hx hb hd ha h1 ha0 rfl (fun ls hl => ?_)
  exact h.2 H locs cells slots ls _ (h2 ls hl) hA hH hO hC
theorem st_astore_r (hx : p.tables.exec = Jvm.exec) (hb : c.code = mBy y) {a n : Nat} {x : Int} (hd : decode (mBy y) pc = .ok (.astore a, 2)) (hn : y = 413 → n ≠ 0) (ha0 : a < mMaxL y) (h : mPt ρ p l e R s m args below meth c Qe y H0 S0 Sf (pc + 2) ((mPut n mls a (mR x)), mst, I, S)) : mPt ρ p l e R s m args below meth c Qe y H0 S0 Sf pc (mls, mR x :: mst, I, S) := by
  refine ⟨h.1, fun H locs cells slots ls stk hL hS hH hO hC => ?_⟩
  obtain ⟨v1, stk1, rfl, hm, hA⟩ := mStk_c hS
  rcases id hm with ⟨-, rfl⟩ | ⟨-, rfl⟩ | ⟨-, q, rfl⟩
  · obtain ⟨lv, h1, h2⟩ := mLoc_set hL hn ha0 (w := mR x) (v := .null) hm rfl
    refine lv_astoreN hx hb hd h1 ha0 rfl (fun ls hl => ?_)
    exact h.2 H locs cells slots ls _ (h2 ls hl) hA hH hO hC
  · obtain ⟨lv, h1, h2⟩ := mLoc_set hL hn ha0 (w := mR x) (v := .ref x.toNat) hm rfl
    refine lv_astore hx hb hd h1 ha0 rfl (fun ls hl => ?_)
    exact h.2 H locs cells slots ls _ (h2 ls hl) hA hH hO hC
  · obtain ⟨lv, h1, h2⟩ := mLoc_set hL hn ha0 (w := mR x) (v := .ref q) hm rfl
    refine lv_astore hx hb hd h1 ha0 rfl (fun ls hl => ?_)
    exact h.2 H locs cells slots ls _ (h2 ls hl) hA hH hO hC
theorem st_astore_s (hx : p.tables.exec = Jvm.exec) (hb : c.code = mBy y) {a n : Nat} {x : Nat} (hd : decode (mBy y) pc = .ok (.astore a, 2)) (hn : y = 413 → n ≠ 0) (ha0 : a < mMaxL y) (h : mPt ρ p l e R s m args below meth c Qe y H0 S0 Sf (pc + 2) ((mPut n mls a (mS x)), mst, I, S)) : mPt ρ p l e R s m args below meth c Qe y H0 S0 Sf pc (mls, mS x :: mst, I, S) := by
  refine ⟨h.1, fun H locs cells slots ls stk hL hS hH hO hC => ?_⟩
  obtain ⟨v1, stk1, rfl, hm, hA⟩ := mStk_c hS
  obtain ⟨hk, rfl⟩ := hm
  obtain ⟨lv, h1, h2⟩ := mLoc_set hL hn ha0 (w := mS x) (v := .ref (ρ.2.2.2.2.2.2 x)) ⟨hk, rfl⟩ rfl
  refine lv_astore hx hb hd h1 ha0 rfl (fun ls hl => ?_)
  exact h.2 H locs cells slots ls _ (h2 ls hl) hA hH hO hC
theorem st_astore_n_r (hx : p.tables.exec = Jvm.exec) (hb : c.code = mBy y) {a n : Nat} {x : Int} {v : Fin 4} (ha : (v : Nat) = a) (hd : decode (mBy y) pc = .ok (.astore_n v, 1)) (hn : y = 413 → n ≠ 0) (ha0 : a < mMaxL y) (h : mPt ρ p l e R s m args below meth c Qe y H0 S0 Sf (pc + 1) ((mPut n mls a (mR x)), mst, I, S)) : mPt ρ p l e R s m args below meth c Qe y H0 S0 Sf pc (mls, mR x :: mst, I, S) := by
  refine ⟨h.1, fun H locs cells slots ls stk hL hS hH hO hC => ?_⟩
  obtain ⟨v1, stk1, rfl, hm, hA⟩ := mStk_c hS
  rcases id hm with ⟨-, rfl⟩ | ⟨-, rfl⟩ | ⟨-, q, rfl⟩
  · obtain ⟨lv, h1, h2⟩ := mLoc_set hL hn ha0 (w := mR x) (v := .null) hm rfl
    refine lv_astore_nN hx hb hd ha h1 ha0 rfl (fun ls hl => ?_)
    exact h.2 H locs cells slots ls _ (h2 ls hl) hA hH hO hC
  · obtain ⟨lv, h1, h2⟩ := mLoc_set hL hn ha0 (w := mR x) (v := .ref x.toNat) hm rfl
    refine lv_astore_n hx hb hd ha h1 ha0 rfl (fun ls hl => ?_)
    exact h.2 H locs cells slots ls _ (h2 ls hl) hA hH hO hC
  · obtain ⟨lv, h1, h2⟩ := mLoc_set hL hn ha0 (w := mR x) (v := .ref q) hm rfl
    refine lv_astore_n hx hb hd ha h1 ha0 rfl (fun ls hl => ?_)
    exact h.2 H locs cells slots ls _ (h2 ls hl) hA hH hO hC
theorem st_astore_n_s (hx : p.tables.exec = Jvm.exec) (hb : c.code = mBy y) {a n : Nat} {x : Nat} {v : Fin 4} (ha : (v : Nat) = a) (hd : decode (mBy y) pc = .ok (.astore_n v, 1)) (hn : y = 413 → n ≠ 0) (ha0 : a < mMaxL y) (h : mPt ρ p l e R s m args below meth c Qe y H0 S0 Sf (pc + 1) ((mPut n mls a (mS x)), mst, I, S)) : mPt ρ p l e R s m args below meth c Qe y H0 S0 Sf pc (mls, mS x :: mst, I, S) := by
  refine ⟨h.1, fun H locs cells slots ls stk hL hS hH hO hC => ?_⟩
  obtain ⟨v1, stk1, rfl, hm, hA⟩ := mStk_c hS
  obtain ⟨hk, rfl⟩ := hm
  obtain ⟨lv, h1, h2⟩ := mLoc_set hL hn ha0 (w := mS x) (v := .ref (ρ.2.2.2.2.2.2 x)) ⟨hk, rfl⟩ rfl
  refine lv_astore_n hx hb hd ha h1 ha0 rfl (fun ls hl => ?_)
  exact h.2 H locs cells slots ls _ (h2 ls hl) hA hH hO hC
theorem st_iinc (hx : p.tables.exec = Jvm.exec) (hb : c.code = mBy y) {a n : Nat} {x w : Int} (hd : decode (mBy y) pc = .ok (.iinc a w, 3)) (hn : y = 413 → n ≠ 0) (ha0 : a < mMaxL y) (hg : mGet mls a = some (mI x)) (h : mPt ρ p l e R s m args below meth c Qe y H0 S0 Sf (pc + 3) ((mPut n mls a (mI (mWrap (x + w)))), mst, I, S)) : mPt ρ p l e R s m args below meth c Qe y H0 S0 Sf pc (mls, mst, I, S) := by
  refine ⟨h.1, fun H locs cells slots ls stk hL hS hH hO hC => ?_⟩
  obtain ⟨lv, h1, i, hi, h2⟩ := mLoc_inc hL hn ha0 hg (w := mI (mWrap (x + w))) (v := .int (mO (mWrap (x + w)))) ⟨mIn_wrap _, rfl⟩ rfl
  refine lv_iinc (v := mO (mWrap (x + w))) hx hb hd h1 hi (mO_add x w) ha0 rfl (fun ls hl => ?_)
  exact h.2 H locs cells slots ls _ (h2 ls hl) hS hH hO hC
theorem st_iadd (hx : p.tables.exec = Jvm.exec) (hb : c.code = mBy y) {x w : Int} (hd : decode (mBy y) pc = .ok (.iadd, 1)) (h : mPt ρ p l e R s m args below meth c Qe y H0 S0 Sf (pc + 1) (mls, mI (mWrap (x + w)) :: mst, I, S)) : mPt ρ p l e R s m args below meth c Qe y H0 S0 Sf pc (mls, mI w :: mI x :: mst, I, S) := by
  refine ⟨h.1, fun H locs cells slots ls stk hL hS hH hO hC => ?_⟩
  obtain ⟨v2, stk2, rfl, h2, hA⟩ := mStk_c hS
  obtain ⟨v1, stk1, rfl, h1, hB⟩ := mStk_c hA
  obtain ⟨i2, rfl⟩ := h2
  obtain ⟨i1, rfl⟩ := h1
  refine lv_iadd hx hb hd ?_
  rw [mO_add]
  exact h.2 H locs cells slots ls _ hL ⟨⟨mIn_wrap _, rfl⟩, hB⟩ hH hO hC
theorem st_isub (hx : p.tables.exec = Jvm.exec) (hb : c.code = mBy y) {x w : Int} (hd : decode (mBy y) pc = .ok (.isub, 1)) (h : mPt ρ p l e R s m args below meth c Qe y H0 S0 Sf (pc + 1) (mls, mI (mWrap (x - w)) :: mst, I, S)) : mPt ρ p l e R s m args below meth c Qe y H0 S0 Sf pc (mls, mI w :: mI x :: mst, I, S) := by
  refine ⟨h.1, fun H locs cells slots ls stk hL hS hH hO hC => ?_⟩
  obtain ⟨v2, stk2, rfl, h2, hA⟩ := mStk_c hS
  obtain ⟨v1, stk1, rfl, h1, hB⟩ := mStk_c hA
  obtain ⟨i2, rfl⟩ := h2
  obtain ⟨i1, rfl⟩ := h1
  refine lv_isub hx hb hd ?_
  rw [mO_sub]
  exact h.2 H locs cells slots ls _ hL ⟨⟨mIn_wrap _, rfl⟩, hB⟩ hH hO hC
theorem st_imul (hx : p.tables.exec = Jvm.exec) (hb : c.code = mBy y) {x w : Int} (hd : decode (mBy y) pc = .ok (.imul, 1)) (h : mPt ρ p l e R s m args below meth c Qe y H0 S0 Sf (pc + 1) (mls, mI (mWrap (x * w)) :: mst, I, S)) : mPt ρ p l e R s m args below meth c Qe y H0 S0 Sf pc (mls, mI w :: mI x :: mst, I, S) := by
  refine ⟨h.1, fun H locs cells slots ls stk hL hS hH hO hC => ?_⟩
  obtain ⟨v2, stk2, rfl, h2, hA⟩ := mStk_c hS
  obtain ⟨v1, stk1, rfl, h1, hB⟩ := mStk_c hA
  obtain ⟨i2, rfl⟩ := h2
  obtain ⟨i1, rfl⟩ := h1
  refine lv_imul hx hb hd ?_
  rw [mO_mul]
  exact h.2 H locs cells slots ls _ hL ⟨⟨mIn_wrap _, rfl⟩, hB⟩ hH hO hC
theorem st_iand (hx : p.tables.exec = Jvm.exec) (hb : c.code = mBy y) {x w : Int} (hd : decode (mBy y) pc = .ok (.iand, 1)) (h : mPt ρ p l e R s m args below meth c Qe y H0 S0 Sf (pc + 1) (mls, mI (mAnd x w) :: mst, I, S)) : mPt ρ p l e R s m args below meth c Qe y H0 S0 Sf pc (mls, mI w :: mI x :: mst, I, S) := by
  refine ⟨h.1, fun H locs cells slots ls stk hL hS hH hO hC => ?_⟩
  obtain ⟨v2, stk2, rfl, h2, hA⟩ := mStk_c hS
  obtain ⟨v1, stk1, rfl, h1, hB⟩ := mStk_c hA
  obtain ⟨i2, rfl⟩ := h2
  obtain ⟨i1, rfl⟩ := h1
  refine lv_iand hx hb hd ?_
  rw [mO_and]
  exact h.2 H locs cells slots ls _ hL ⟨⟨mIn_and _ _, rfl⟩, hB⟩ hH hO hC
theorem st_idiv (hx : p.tables.exec = Jvm.exec) (hb : c.code = mBy y) {x w : Int} (h0 : w ≠ 0) (hd : decode (mBy y) pc = .ok (.idiv, 1)) (h : mPt ρ p l e R s m args below meth c Qe y H0 S0 Sf (pc + 1) (mls, mI (mWrap (x.tdiv w)) :: mst, I, S)) : mPt ρ p l e R s m args below meth c Qe y H0 S0 Sf pc (mls, mI w :: mI x :: mst, I, S) := by
  refine ⟨h.1, fun H locs cells slots ls stk hL hS hH hO hC => ?_⟩
  obtain ⟨v2, stk2, rfl, h2, hA⟩ := mStk_c hS
  obtain ⟨v1, stk1, rfl, h1, hB⟩ := mStk_c hA
  obtain ⟨i2, rfl⟩ := h2
  obtain ⟨i1, rfl⟩ := h1
  refine lv_idiv hx hb hd (fun z => h0 ((mO_eq i2 mIn_0).mp z)) ?_
  rw [mO_div i1 i2]
  exact h.2 H locs cells slots ls _ hL ⟨⟨mIn_wrap _, rfl⟩, hB⟩ hH hO hC
theorem st_irem (hx : p.tables.exec = Jvm.exec) (hb : c.code = mBy y) {x w : Int} (h0 : w ≠ 0) (hd : decode (mBy y) pc = .ok (.irem, 1)) (h : mPt ρ p l e R s m args below meth c Qe y H0 S0 Sf (pc + 1) (mls, mI (x.tmod w) :: mst, I, S)) : mPt ρ p l e R s m args below meth c Qe y H0 S0 Sf pc (mls, mI w :: mI x :: mst, I, S) := by
  refine ⟨h.1, fun H locs cells slots ls stk hL hS hH hO hC => ?_⟩
  obtain ⟨v2, stk2, rfl, h2, hA⟩ := mStk_c hS
  obtain ⟨v1, stk1, rfl, h1, hB⟩ := mStk_c hA
  obtain ⟨i2, rfl⟩ := h2
  obtain ⟨i1, rfl⟩ := h1
  refine lv_irem hx hb hd (fun z => h0 ((mO_eq i2 mIn_0).mp z)) ?_
  rw [mO_rem i1 i2]
  exact h.2 H locs cells slots ls _ hL ⟨⟨mIn_tmod i1 i2 h0, rfl⟩, hB⟩ hH hO hC
theorem st_iushr (hx : p.tables.exec = Jvm.exec) (hb : c.code = mBy y) {x w : Int} (hd : decode (mBy y) pc = .ok (.iushr, 1)) (h : mPt ρ p l e R s m args below meth c Qe y H0 S0 Sf (pc + 1) (mls, mI (mShr x w) :: mst, I, S)) : mPt ρ p l e R s m args below meth c Qe y H0 S0 Sf pc (mls, mI w :: mI x :: mst, I, S) := by
  refine ⟨h.1, fun H locs cells slots ls stk hL hS hH hO hC => ?_⟩
  obtain ⟨v2, stk2, rfl, h2, hA⟩ := mStk_c hS
  obtain ⟨v1, stk1, rfl, h1, hB⟩ := mStk_c hA
  obtain ⟨i2, rfl⟩ := h2
  obtain ⟨i1, rfl⟩ := h1
  refine lv_iushr hx hb hd (mO_shr x w) ?_
  exact h.2 H locs cells slots ls _ hL ⟨⟨mIn_shr _ _, rfl⟩, hB⟩ hH hO hC
theorem st_ineg (hx : p.tables.exec = Jvm.exec) (hb : c.code = mBy y) {x : Int} (hd : decode (mBy y) pc = .ok (.ineg, 1)) (h : mPt ρ p l e R s m args below meth c Qe y H0 S0 Sf (pc + 1) (mls, mI (mWrap (-x)) :: mst, I, S)) : mPt ρ p l e R s m args below meth c Qe y H0 S0 Sf pc (mls, mI x :: mst, I, S) := by
  refine ⟨h.1, fun H locs cells slots ls stk hL hS hH hO hC => ?_⟩
  obtain ⟨v1, stk1, rfl, h1, hA⟩ := mStk_c hS
  obtain ⟨i1, rfl⟩ := h1
  refine lv_ineg hx hb hd ?_
  rw [mO_neg]
  exact h.2 H locs cells slots ls _ hL ⟨⟨mIn_wrap _, rfl⟩, hA⟩ hH hO hC
theorem st_i2l (hx : p.tables.exec = Jvm.exec) (hb : c.code = mBy y) {x : Int} (hd : decode (mBy y) pc = .ok (.i2l, 1)) (h : mPt ρ p l e R s m args below meth c Qe y H0 S0 Sf (pc + 1) (mls, mL x :: mst, I, S)) : mPt ρ p l e R s m args below meth c Qe y H0 S0 Sf pc (mls, mI x :: mst, I, S) := by
  refine ⟨h.1, fun H locs cells slots ls stk hL hS hH hO hC => ?_⟩
  obtain ⟨v1, stk1, rfl, h1, hA⟩ := mStk_c hS
  obtain ⟨i1, rfl⟩ := h1
  refine lv_i2l hx hb hd (mL_of i1) ?_
  exact h.2 H locs cells slots ls _ hL ⟨⟨by unfold mIn at i1; unfold mInL; omega, rfl⟩, hA⟩ hH hO hC
theorem st_i2c (hx : p.tables.exec = Jvm.exec) (hb : c.code = mBy y) {x : Int} (hd : decode (mBy y) pc = .ok (.i2c, 1)) (h : mPt ρ p l e R s m args below meth c Qe y H0 S0 Sf (pc + 1) (mls, mI (x % 65536) :: mst, I, S)) : mPt ρ p l e R s m args below meth c Qe y H0 S0 Sf pc (mls, mI x :: mst, I, S) := by
  refine ⟨h.1, fun H locs cells slots ls stk hL hS hH hO hC => ?_⟩
  obtain ⟨v1, stk1, rfl, h1, hA⟩ := mStk_c hS
  obtain ⟨i1, rfl⟩ := h1
  refine lv_i2c hx hb hd (mO_char i1) ?_
  exact h.2 H locs cells slots ls _ hL ⟨⟨by unfold mIn; omega, rfl⟩, hA⟩ hH hO hC
theorem st_i2f (hx : p.tables.exec = Jvm.exec) (hb : c.code = mBy y) {x : Int} (hd : decode (mBy y) pc = .ok (.i2f, 1)) (h : mPt ρ p l e R s m args below meth c Qe y H0 S0 Sf (pc + 1) (mls, mF (FP.i2f (Int32.ofInt x)) :: mst, I, S)) : mPt ρ p l e R s m args below meth c Qe y H0 S0 Sf pc (mls, mI x :: mst, I, S) := by
  refine ⟨h.1, fun H locs cells slots ls stk hL hS hH hO hC => ?_⟩
  obtain ⟨v1, stk1, rfl, h1, hA⟩ := mStk_c hS
  obtain ⟨i1, rfl⟩ := h1
  refine lv_i2f hx hb hd ?_
  exact h.2 H locs cells slots ls _ hL ⟨rfl, hA⟩ hH hO hC
theorem st_i2d (hx : p.tables.exec = Jvm.exec) (hb : c.code = mBy y) {x : Int} (hd : decode (mBy y) pc = .ok (.i2d, 1)) (h : mPt ρ p l e R s m args below meth c Qe y H0 S0 Sf (pc + 1) (mls, mD (FP.i2d (Int32.ofInt x)) :: mst, I, S)) : mPt ρ p l e R s m args below meth c Qe y H0 S0 Sf pc (mls, mI x :: mst, I, S) := by
  refine ⟨h.1, fun H locs cells slots ls stk hL hS hH hO hC => ?_⟩
  obtain ⟨v1, stk1, rfl, h1, hA⟩ := mStk_c hS
  obtain ⟨i1, rfl⟩ := h1
  refine lv_i2d hx hb hd ?_
  exact h.2 H locs cells slots ls _ hL ⟨rfl, hA⟩ hH hO hC
theorem st_f2d (hx : p.tables.exec = Jvm.exec) (hb : c.code = mBy y) {x : UInt32} (h0 : vf_n64 (FP.f2d x)) (hd : decode (mBy y) pc = .ok (.f2d, 1)) (h : mPt ρ p l e R s m args below meth c Qe y H0 S0 Sf (pc + 1) (mls, mD (FP.f2d x) :: mst, I, S)) : mPt ρ p l e R s m args below meth c Qe y H0 S0 Sf pc (mls, mF x :: mst, I, S) := by
  refine ⟨h.1, fun H locs cells slots ls stk hL hS hH hO hC => ?_⟩
  obtain ⟨v1, stk1, rfl, h1, hA⟩ := mStk_c hS
  have h1 : v1 = .float x := h1
  subst h1
  refine lv_f2d hx hb hd h0 ?_
  exact h.2 H locs cells slots ls _ hL ⟨rfl, hA⟩ hH hO hC
theorem st_lcmp (hx : p.tables.exec = Jvm.exec) (hb : c.code = mBy y) {x w : Int} (hd : decode (mBy y) pc = .ok (.lcmp, 1)) (h : mPt ρ p l e R s m args below meth c Qe y H0 S0 Sf (pc + 1) (mls, mI (mCmp x w) :: mst, I, S)) : mPt ρ p l e R s m args below meth c Qe y H0 S0 Sf pc (mls, mL w :: mL x :: mst, I, S) := by
  refine ⟨h.1, fun H locs cells slots ls stk hL hS hH hO hC => ?_⟩
  obtain ⟨v2, stk2, rfl, h2, hA⟩ := mStk_c hS
  obtain ⟨v1, stk1, rfl, h1, hB⟩ := mStk_c hA
  obtain ⟨i2, rfl⟩ := h2
  obtain ⟨i1, rfl⟩ := h1
  refine W.lcmp (pc := pc) (ls := ls) hx hb hd ?_
  rw [mL_cmp i1 i2]
  exact h.2 H locs cells slots ls _ hL ⟨⟨mIn_cmp _ _, rfl⟩, hB⟩ hH hO hC
theorem st_dcmp (hx : p.tables.exec = Jvm.exec) (hb : c.code = mBy y) {x w : UInt64} {v : CmpOp} (hd : decode (mBy y) pc = .ok (.dcmp v, 1)) (h : mPt ρ p l e R s m args below meth c Qe y H0 S0 Sf (pc + 1) (mls, mI (Op.cmpValue (FP.dcmp x w) v).toInt :: mst, I, S)) : mPt ρ p l e R s m args below meth c Qe y H0 S0 Sf pc (mls, mD w :: mD x :: mst, I, S) := by
  refine ⟨h.1, fun H locs cells slots ls stk hL hS hH hO hC => ?_⟩
  obtain ⟨v2, stk2, rfl, h2, hA⟩ := mStk_c hS
  obtain ⟨v1, stk1, rfl, h1, hB⟩ := mStk_c hA
  have h2 : v2 = .double w := h2
  have h1 : v1 = .double x := h1
  subst h1 h2
  refine lv_dcmp hx hb hd ?_
  exact h.2 H locs cells slots ls _ hL ⟨⟨mIn_toInt _, by rw [mO_ofInt]⟩, hB⟩ hH hO hC
theorem st_fdiv (hx : p.tables.exec = Jvm.exec) (hb : c.code = mBy y) {x w : UInt32} (h0 : vf_n32 (FP.fdiv x w)) (hd : decode (mBy y) pc = .ok (.fdiv, 1)) (h : mPt ρ p l e R s m args below meth c Qe y H0 S0 Sf (pc + 1) (mls, mF (FP.fdiv x w) :: mst, I, S)) : mPt ρ p l e R s m args below meth c Qe y H0 S0 Sf pc (mls, mF w :: mF x :: mst, I, S) := by
  refine ⟨h.1, fun H locs cells slots ls stk hL hS hH hO hC => ?_⟩
  obtain ⟨v2, stk2, rfl, h2, hA⟩ := mStk_c hS
  obtain ⟨v1, stk1, rfl, h1, hB⟩ := mStk_c hA
  have h2 : v2 = .float w := h2
  have h1 : v1 = .float x := h1
  subst h1 h2
  refine lv_fdiv hx hb hd h0 ?_
  exact h.2 H locs cells slots ls _ hL ⟨rfl, hB⟩ hH hO hC
theorem st_ddiv (hx : p.tables.exec = Jvm.exec) (hb : c.code = mBy y) {x w : UInt64} (h0 : vf_n64 (FP.ddiv x w)) (hd : decode (mBy y) pc = .ok (.ddiv, 1)) (h : mPt ρ p l e R s m args below meth c Qe y H0 S0 Sf (pc + 1) (mls, mD (FP.ddiv x w) :: mst, I, S)) : mPt ρ p l e R s m args below meth c Qe y H0 S0 Sf pc (mls, mD w :: mD x :: mst, I, S) := by
  refine ⟨h.1, fun H locs cells slots ls stk hL hS hH hO hC => ?_⟩
  obtain ⟨v2, stk2, rfl, h2, hA⟩ := mStk_c hS
  obtain ⟨v1, stk1, rfl, h1, hB⟩ := mStk_c hA
  have h2 : v2 = .double w := h2
  have h1 : v1 = .double x := h1
  subst h1 h2
  refine lv_ddiv hx hb hd h0 ?_
  exact h.2 H locs cells slots ls _ hL ⟨rfl, hB⟩ hH hO hC
theorem st_dup (hx : p.tables.exec = Jvm.exec) (hb : c.code = mBy y) {x : mV} (h1 : ∀ z, x ≠ mL z) (h2 : ∀ z, x ≠ mD z) (hd : decode (mBy y) pc = .ok (.dup, 1)) (h : mPt ρ p l e R s m args below meth c Qe y H0 S0 Sf (pc + 1) (mls, x :: x :: mst, I, S)) : mPt ρ p l e R s m args below meth c Qe y H0 S0 Sf pc (mls, x :: mst, I, S) := by
  refine ⟨h.1, fun H locs cells slots ls stk hL hS hH hO hC => ?_⟩
  obtain ⟨v1, stk1, rfl, hm, hA⟩ := mStk_c hS
  refine lv_dup hx hb hd (mVal_c1 hm h1 h2) ?_
  exact h.2 H locs cells slots ls _ hL ⟨hm, hm, hA⟩ hH hO hC
theorem st_pop (hx : p.tables.exec = Jvm.exec) (hb : c.code = mBy y) {x : mV} (h1 : ∀ z, x ≠ mL z) (h2 : ∀ z, x ≠ mD z) (hd : decode (mBy y) pc = .ok (.pop, 1)) (h : mPt ρ p l e R s m args below meth c Qe y H0 S0 Sf (pc + 1) (mls, mst, I, S)) : mPt ρ p l e R s m args below meth c Qe y H0 S0 Sf pc (mls, x :: mst, I, S) := by
  refine ⟨h.1, fun H locs cells slots ls stk hL hS hH hO hC => ?_⟩
  obtain ⟨v1, stk1, rfl, hm, hA⟩ := mStk_c hS
  refine lv_pop hx hb hd (mVal_c1 hm h1 h2) ?_
  exact h.2 H locs cells slots ls _ hL hA hH hO hC
theorem st_dup2 (hx : p.tables.exec = Jvm.exec) (hb : c.code = mBy y) {x w : mV} (h1 : ∀ z, x ≠ mL z) (h2 : ∀ z, x ≠ mD z) (h3 : ∀ z, w ≠ mL z) (h4 : ∀ z, w ≠ mD z) (hd : decode (mBy y) pc = .ok (.dup2, 1)) (h : mPt ρ p l e R s m args below meth c Qe y H0 S0 Sf (pc + 1) (mls, w :: x :: w :: x :: mst, I, S)) : mPt ρ p l e R s m args below meth c Qe y H0 S0 Sf pc (mls, w :: x :: mst, I, S) := by
  refine ⟨h.1, fun H locs cells slots ls stk hL hS hH hO hC => ?_⟩
  obtain ⟨v2, stk2, rfl, hw, hA⟩ := mStk_c hS
  obtain ⟨v1, stk1, rfl, hm, hB⟩ := mStk_c hA
  refine lv_dup2_11 hx hb hd (mVal_c1 hw h3 h4) (mVal_c1 hm h1 h2) ?_
  exact h.2 H locs cells slots ls _ hL ⟨hw, hm, hw, hm, hB⟩ hH hO hC
theorem st_dup_x2 (hx : p.tables.exec = Jvm.exec) (hb : c.code = mBy y) {x w z : mV} (h1 : ∀ q, x ≠ mL q) (h2 : ∀ q, x ≠ mD q) (h3 : ∀ q, w ≠ mL q) (h4 : ∀ q, w ≠ mD q) (h5 : ∀ q, z ≠ mL q) (h6 : ∀ q, z ≠ mD q) (hd : decode (mBy y) pc = .ok (.dup_x2, 1)) (h : mPt ρ p l e R s m args below meth c Qe y H0 S0 Sf (pc + 1) (mls, z :: w :: x :: z :: mst, I, S)) : mPt ρ p l e R s m args below meth c Qe y H0 S0 Sf pc (mls, z :: w :: x :: mst, I, S) := by
  refine ⟨h.1, fun H locs cells slots ls stk hL hS hH hO hC => ?_⟩
  obtain ⟨v3, stk3, rfl, hz, hA⟩ := mStk_c hS
  obtain ⟨v2, stk2, rfl, hw, hB⟩ := mStk_c hA
  obtain ⟨v1, stk1, rfl, hm, hE⟩ := mStk_c hB
  refine lv_dup_x2 hx hb hd (mVal_c1 hz h5 h6) (mVal_c1 hw h3 h4) (mVal_c1 hm h1 h2) ?_
  exact h.2 H locs cells slots ls _ hL ⟨hz, hw, hm, hz, hE⟩ hH hO hC
theorem st_if_eq (hx : p.tables.exec = Jvm.exec) (hb : c.code = mBy y) {x : Int} {off : Int} {t : Nat} (ht : (pc : Int) + off = (t : Int)) (hd : decode (mBy y) pc = .ok (.ifCond .eq off, 3)) (h1 : mHold .eq x 0 → mPt ρ p l e R s m args below meth c Qe y H0 S0 Sf t (mls, mst, I, S)) (h2 : ¬ mHold .eq x 0 → mPt ρ p l e R s m args below meth c Qe y H0 S0 Sf (pc + 3) (mls, mst, I, S)) : mPt ρ p l e R s m args below meth c Qe y H0 S0 Sf pc (mls, mI x :: mst, I, S) := by
  have hg : S.2.2.2.1 ≤ Sf.2.2.2.1 ∧ S.2.2.2.2 ≤ Sf.2.2.2.2 := by
    by_cases z : mHold .eq x 0
    · exact (h1 z).1
    · exact (h2 z).1
  refine ⟨hg, fun H locs cells slots ls stk hL hS hH hO hC => ?_⟩
  obtain ⟨v1, stk1, rfl, h1, hA⟩ := mStk_c hS
  obtain ⟨i1, rfl⟩ := h1
  refine lv_if_eq (tgt := t) hx hb hd ht (fun z => (h1 ?_).2 H locs cells slots ls _ hL hA hH hO hC) (fun z => (h2 ?_).2 H locs cells slots ls _ hL hA hH hO hC)
  · exact (mO_eq i1 mIn_0).mp z
  · exact fun q => z ((mO_eq i1 mIn_0).mpr q)
theorem st_icmp_eq (hx : p.tables.exec = Jvm.exec) (hb : c.code = mBy y) {x w : Int} {off : Int} {t : Nat} (ht : (pc : Int) + off = (t : Int)) (hd : decode (mBy y) pc = .ok (.if_icmp .eq off, 3)) (h1 : mHold .eq x w → mPt ρ p l e R s m args below meth c Qe y H0 S0 Sf t (mls, mst, I, S)) (h2 : ¬ mHold .eq x w → mPt ρ p l e R s m args below meth c Qe y H0 S0 Sf (pc + 3) (mls, mst, I, S)) : mPt ρ p l e R s m args below meth c Qe y H0 S0 Sf pc (mls, mI w :: mI x :: mst, I, S) := by
  have hg : S.2.2.2.1 ≤ Sf.2.2.2.1 ∧ S.2.2.2.2 ≤ Sf.2.2.2.2 := by
    by_cases z : mHold .eq x w
    · exact (h1 z).1
    · exact (h2 z).1
  refine ⟨hg, fun H locs cells slots ls stk hL hS hH hO hC => ?_⟩
  obtain ⟨v2, stk2, rfl, h2, hA⟩ := mStk_c hS
  obtain ⟨v1, stk1, rfl, h1, hB⟩ := mStk_c hA
  obtain ⟨i2, rfl⟩ := h2
  obtain ⟨i1, rfl⟩ := h1
  refine lv_icmp_eq (tgt := t) hx hb hd ht (fun z => (h1 ?_).2 H locs cells slots ls _ hL hB hH hO hC) (fun z => (h2 ?_).2 H locs cells slots ls _ hL hB hH hO hC)
  · exact (mO_eq i1 i2).mp z
  · exact fun q => z ((mO_eq i1 i2).mpr q)
theorem st_if_ne (hx : p.tables.exec = Jvm.exec) (hb : c.code = mBy y) {x : Int} {off : Int} {t : Nat} (ht : (pc : Int) + off = (t : Int)) (hd : decode (mBy y) pc = .ok (.ifCond .ne off, 3)) (h1 : mHold .ne x 0 → mPt ρ p l e R s m args below meth c Qe y H0 S0 Sf t (mls, mst, I, S)) (h2 : ¬ mHold .ne x 0 → mPt ρ p l e R s m args below meth c Qe y H0 S0 Sf (pc + 3) (mls, mst, I, S)) : mPt ρ p l e R s m args below meth c Qe y H0 S0 Sf pc (mls, mI x :: mst, I, S) := by
  have hg : S.2.2.2.1 ≤ Sf.2.2.2.1 ∧ S.2.2.2.2 ≤ Sf.2.2.2.2 := by
    by_cases z : mHold .ne x 0
    · exact (h1 z).1
    · exact (h2 z).1
  refine ⟨hg, fun H locs cells slots ls stk hL hS hH hO hC => ?_⟩
  obtain ⟨v1, stk1, rfl, h1, hA⟩ := mStk_c hS
  obtain ⟨i1, rfl⟩ := h1
  refine lv_if_ne (tgt := t) hx hb hd ht (fun z => (h1 ?_).2 H locs cells slots ls _ hL hA hH hO hC) (fun z => (h2 ?_).2 H locs cells slots ls _ hL hA hH hO hC)
  · exact fun q => z ((mO_eq i1 mIn_0).mpr q)
  · exact fun q => q ((mO_eq i1 mIn_0).mp z)
theorem st_icmp_ne (hx : p.tables.exec = Jvm.exec) (hb : c.code = mBy y) {x w : Int} {off : Int} {t : Nat} (ht : (pc : Int) + off = (t : Int)) (hd : decode (mBy y) pc = .ok (.if_icmp .ne off, 3)) (h1 : mHold .ne x w → mPt ρ p l e R s m args below meth c Qe y H0 S0 Sf t (mls, mst, I, S)) (h2 : ¬ mHold .ne x w → mPt ρ p l e R s m args below meth c Qe y H0 S0 Sf (pc + 3) (mls, mst, I, S)) : mPt ρ p l e R s m args below meth c Qe y H0 S0 Sf pc (mls, mI w :: mI x :: mst, I, S) := by
  have hg : S.2.2.2.1 ≤ Sf.2.2.2.1 ∧ S.2.2.2.2 ≤ Sf.2.2.2.2 := by
    by_cases z : mHold .ne x w
    · exact (h1 z).1
    · exact (h2 z).1
  refine ⟨hg, fun H locs cells slots ls stk hL hS hH hO hC => ?_⟩
  obtain ⟨v2, stk2, rfl, h2, hA⟩ := mStk_c hS
  obtain ⟨v1, stk1, rfl, h1, hB⟩ := mStk_c hA
  obtain ⟨i2, rfl⟩ := h2
  obtain ⟨i1, rfl⟩ := h1
  refine lv_icmp_ne (tgt := t) hx hb hd ht (fun z => (h1 ?_).2 H locs cells slots ls _ hL hB hH hO hC) (fun z => (h2 ?_).2 H locs cells slots ls _ hL hB hH hO hC)
  · exact fun q => z ((mO_eq i1 i2).mpr q)
  · exact fun q => q ((mO_eq i1 i2).mp z)
theorem st_if_lt (hx : p.tables.exec = Jvm.exec) (hb : c.code = mBy y) {x : Int} {off : Int} {t : Nat} (ht : (pc : Int) + off = (t : Int)) (hd : decode (mBy y) pc = .ok (.ifCond .lt off, 3)) (h1 : mHold .lt x 0 → mPt ρ p l e R s m args below meth c Qe y H0 S0 Sf t (mls, mst, I, S)) (h2 : ¬ mHold .lt x 0 → mPt ρ p l e R s m args below meth c Qe y H0 S0 Sf (pc + 3) (mls, mst, I, S)) : mPt ρ p l e R s m args below meth c Qe y H0 S0 Sf pc (mls, mI x :: mst, I, S) := by
  have hg : S.2.2.2.1 ≤ Sf.2.2.2.1 ∧ S.2.2.2.2 ≤ Sf.2.2.2.2 := by
    by_cases z : mHold .lt x 0
    · exact (h1 z).1
    · exact (h2 z).1
  refine ⟨hg, fun H locs cells slots ls stk hL hS hH hO hC => ?_⟩
  obtain ⟨v1, stk1, rfl, h1, hA⟩ := mStk_c hS
  obtain ⟨i1, rfl⟩ := h1
  refine lv_if_lt (tgt := t) hx hb hd ht (fun z => (h1 ?_).2 H locs cells slots ls _ hL hA hH hO hC) (fun z => (h2 ?_).2 H locs cells slots ls _ hL hA hH hO hC)
  · exact (mO_lt i1 mIn_0).mp z
  · exact fun q => z ((mO_lt i1 mIn_0).mpr q)
theorem st_icmp_lt (hx : p.tables.exec = Jvm.exec) (hb : c.code = mBy y) {x w : Int} {off : Int} {t : Nat} (ht : (pc : Int) + off = (t : Int)) (hd : decode (mBy y) pc = .ok (.if_icmp .lt off, 3)) (h1 : mHold .lt x w → mPt ρ p l e R s m args below meth c Qe y H0 S0 Sf t (mls, mst, I, S)) (h2 : ¬ mHold .lt x w → mPt ρ p l e R s m args below meth c Qe y H0 S0 Sf (pc + 3) (mls, mst, I, S)) : mPt ρ p l e R s m args below meth c Qe y H0 S0 Sf pc (mls, mI w :: mI x :: mst, I, S) := by
  have hg : S.2.2.2.1 ≤ Sf.2.2.2.1 ∧ S.2.2.2.2 ≤ Sf.2.2.2.2 := by
    by_cases z : mHold .lt x w
    · exact (h1 z).1
    · exact (h2 z).1
  refine ⟨hg, fun H locs cells slots ls stk hL hS hH hO hC => ?_⟩
  obtain ⟨v2, stk2, rfl, h2, hA⟩ := mStk_c hS
  obtain ⟨v1, stk1, rfl, h1, hB⟩ := mStk_c hA
  obtain ⟨i2, rfl⟩ := h2
  obtain ⟨i1, rfl⟩ := h1
  refine lv_icmp_lt (tgt := t) hx hb hd ht (fun z => (h1 ?_).2 H locs cells slots ls _ hL hB hH hO hC) (fun z => (h2 ?_).2 H locs cells slots ls _ hL hB hH hO hC)
  · exact (mO_lt i1 i2).mp z
  · exact fun q => z ((mO_lt i1 i2).mpr q)
theorem st_if_ge (hx : p.tables.exec = Jvm.exec) (hb : c.code = mBy y) {x : Int} {off : Int} {t : Nat} (ht : (pc : Int) + off = (t : Int)) (hd : decode (mBy y) pc = .ok (.ifCond .ge off, 3)) (h1 : mHold .ge x 0 → mPt ρ p l e R s m args below meth c Qe y H0 S0 Sf t (mls, mst, I, S)) (h2 : ¬ mHold .ge x 0 → mPt ρ p l e R s m args below meth c Qe y H0 S0 Sf (pc + 3) (mls, mst, I, S)) : mPt ρ p l e R s m args below meth c Qe y H0 S0 Sf pc (mls, mI x :: mst, I, S) := by
  have hg : S.2.2.2.1 ≤ Sf.2.2.2.1 ∧ S.2.2.2.2 ≤ Sf.2.2.2.2 := by
    by_cases z : mHold .ge x 0
    · exact (h1 z).1
    · exact (h2 z).1
  refine ⟨hg, fun H locs cells slots ls stk hL hS hH hO hC => ?_⟩
  obtain ⟨v1, stk1, rfl, h1, hA⟩ := mStk_c hS
  obtain ⟨i1, rfl⟩ := h1
  refine lv_if_ge (tgt := t) hx hb hd ht (fun z => (h1 ?_).2 H locs cells slots ls _ hL hA hH hO hC) (fun z => (h2 ?_).2 H locs cells slots ls _ hL hA hH hO hC)
  · exact (mO_le mIn_0 i1).mp z
  · exact fun q => z ((mO_le mIn_0 i1).mpr q)
theorem st_icmp_ge (hx : p.tables.exec = Jvm.exec) (hb : c.code = mBy y) {x w : Int} {off : Int} {t : Nat} (ht : (pc : Int) + off = (t : Int)) (hd : decode (mBy y) pc = .ok (.if_icmp .ge off, 3)) (h1 : mHold .ge x w → mPt ρ p l e R s m args below meth c Qe y H0 S0 Sf t (mls, mst, I, S)) (h2 : ¬ mHold .ge x w → mPt ρ p l e R s m args below meth c Qe y H0 S0 Sf (pc + 3) (mls, mst, I, S)) : mPt ρ p l e R s m args below meth c Qe y H0 S0 Sf pc (mls, mI w :: mI x :: mst, I, S) := by
  have hg : S.2.2.2.1 ≤ Sf.2.2.2.1 ∧ S.2.2.2.2 ≤ Sf.2.2.2.2 := by
    by_cases z : mHold .ge x w
    · exact (h1 z).1
    · exact (h2 z).1
  refine ⟨hg, fun H locs cells slots ls stk hL hS hH hO hC => ?_⟩
  obtain ⟨v2, stk2, rfl, h2, hA⟩ := mStk_c hS
  obtain ⟨v1, stk1, rfl, h1, hB⟩ := mStk_c hA
  obtain ⟨i2, rfl⟩ := h2
  obtain ⟨i1, rfl⟩ := h1
  refine lv_icmp_ge (tgt := t) hx hb hd ht (fun z => (h1 ?_).2 H locs cells slots ls _ hL hB hH hO hC) (fun z => (h2 ?_).2 H locs cells slots ls _ hL hB hH hO hC)
  · exact (mO_le i2 i1).mp z
  · exact fun q => z ((mO_le i2 i1).mpr q)
theorem st_if_gt (hx : p.tables.exec = Jvm.exec) (hb : c.code = mBy y) {x : Int} {off : Int} {t : Nat} (ht : (pc : Int) + off = (t : Int)) (hd : decode (mBy y) pc = .ok (.ifCond .gt off, 3)) (h1 : mHold .gt x 0 → mPt ρ p l e R s m args below meth c Qe y H0 S0 Sf t (mls, mst, I, S)) (h2 : ¬ mHold .gt x 0 → mPt ρ p l e R s m args below meth c Qe y H0 S0 Sf (pc + 3) (mls, mst, I, S)) : mPt ρ p l e R s m args below meth c Qe y H0 S0 Sf pc (mls, mI x :: mst, I, S) := by
  have hg : S.2.2.2.1 ≤ Sf.2.2.2.1 ∧ S.2.2.2.2 ≤ Sf.2.2.2.2 := by
    by_cases z : mHold .gt x 0
    · exact (h1 z).1
    · exact (h2 z).1
  refine ⟨hg, fun H locs cells slots ls stk hL hS hH hO hC => ?_⟩
  obtain ⟨v1, stk1, rfl, h1, hA⟩ := mStk_c hS
  obtain ⟨i1, rfl⟩ := h1
  refine lv_if_gt (tgt := t) hx hb hd ht (fun z => (h1 ?_).2 H locs cells slots ls _ hL hA hH hO hC) (fun z => (h2 ?_).2 H locs cells slots ls _ hL hA hH hO hC)
  · exact (mO_lt mIn_0 i1).mp z
  · exact fun q => z ((mO_lt mIn_0 i1).mpr q)
theorem st_icmp_gt (hx : p.tables.exec = Jvm.exec) (hb : c.code = mBy y) {x w : Int} {off : Int} {t : Nat} (ht : (pc : Int) + off = (t : Int)) (hd : decode (mBy y) pc = .ok (.if_icmp .gt off, 3)) (h1 : mHold .gt x w → mPt ρ p l e R s m args below meth c Qe y H0 S0 Sf t (mls, mst, I, S)) (h2 : ¬ mHold .gt x w → mPt ρ p l e R s m args below meth c Qe y H0 S0 Sf (pc + 3) (mls, mst, I, S)) : mPt ρ p l e R s m args below meth c Qe y H0 S0 Sf pc (mls, mI w :: mI x :: mst, I, S) := by
  have hg : S.2.2.2.1 ≤ Sf.2.2.2.1 ∧ S.2.2.2.2 ≤ Sf.2.2.2.2 := by
    by_cases z : mHold .gt x w
    · exact (h1 z).1
    · exact (h2 z).1
  refine ⟨hg, fun H locs cells slots ls stk hL hS hH hO hC => ?_⟩
  obtain ⟨v2, stk2, rfl, h2, hA⟩ := mStk_c hS
  obtain ⟨v1, stk1, rfl, h1, hB⟩ := mStk_c hA
  obtain ⟨i2, rfl⟩ := h2
  obtain ⟨i1, rfl⟩ := h1
  refine lv_icmp_gt (tgt := t) hx hb hd ht (fun z => (h1 ?_).2 H locs cells slots ls _ hL hB hH hO hC) (fun z => (h2 ?_).2 H locs cells slots ls _ hL hB hH hO hC)
  · exact (mO_lt i2 i1).mp z
  · exact fun q => z ((mO_lt i2 i1).mpr q)
theorem st_if_le (hx : p.tables.exec = Jvm.exec) (hb : c.code = mBy y) {x : Int} {off : Int} {t : Nat} (ht : (pc : Int) + off = (t : Int)) (hd : decode (mBy y) pc = .ok (.ifCond .le off, 3)) (h1 : mHold .le x 0 → mPt ρ p l e R s m args below meth c Qe y H0 S0 Sf t (mls, mst, I, S)) (h2 : ¬ mHold .le x 0 → mPt ρ p l e R s m args below meth c Qe y H0 S0 Sf (pc + 3) (mls, mst, I, S)) : mPt ρ p l e R s m args below meth c Qe y H0 S0 Sf pc (mls, mI x :: mst, I, S) := by
  have hg : S.2.2.2.1 ≤ Sf.2.2.2.1 ∧ S.2.2.2.2 ≤ Sf.2.2.2.2 := by
    by_cases z : mHold .le x 0
    · exact (h1 z).1
    · exact (h2 z).1
  refine ⟨hg, fun H locs cells slots ls stk hL hS hH hO hC => ?_⟩
  obtain ⟨v1, stk1, rfl, h1, hA⟩ := mStk_c hS
  obtain ⟨i1, rfl⟩ := h1
  refine lv_if_le (tgt := t) hx hb hd ht (fun z => (h1 ?_).2 H locs cells slots ls _ hL hA hH hO hC) (fun z => (h2 ?_).2 H locs cells slots ls _ hL hA hH hO hC)
  · exact (mO_le i1 mIn_0).mp z
  · exact fun q => z ((mO_le i1 mIn_0).mpr q)
theorem st_icmp_le (hx : p.tables.exec = Jvm.exec) (hb : c.code = mBy y) {x w : Int} {off : Int} {t : Nat} (ht : (pc : Int) + off = (t : Int)) (hd : decode (mBy y) pc = .ok (.if_icmp .le off, 3)) (h1 : mHold .le x w → mPt ρ p l e R s m args below meth c Qe y H0 S0 Sf t (mls, mst, I, S)) (h2 : ¬ mHold .le x w → mPt ρ p l e R s m args below meth c Qe y H0 S0 Sf (pc + 3) (mls, mst, I, S)) : mPt ρ p l e R s m args below meth c Qe y H0 S0 Sf pc (mls, mI w :: mI x :: mst, I, S) := by
  have hg : S.2.2.2.1 ≤ Sf.2.2.2.1 ∧ S.2.2.2.2 ≤ Sf.2.2.2.2 := by
    by_cases z : mHold .le x w
    · exact (h1 z).1
    · exact (h2 z).1
  refine ⟨hg, fun H locs cells slots ls stk hL hS hH hO hC => ?_⟩
  obtain ⟨v2, stk2, rfl, h2, hA⟩ := mStk_c hS
  obtain ⟨v1, stk1, rfl, h1, hB⟩ := mStk_c hA
  obtain ⟨i2, rfl⟩ := h2
  obtain ⟨i1, rfl⟩ := h1
  refine lv_icmp_le (tgt := t) hx hb hd ht (fun z => (h1 ?_).2 H locs cells slots ls _ hL hB hH hO hC) (fun z => (h2 ?_).2 H locs cells slots ls _ hL hB hH hO hC)
  · exact (mO_le i1 i2).mp z
  · exact fun q => z ((mO_le i1 i2).mpr q)
theorem st_goto (hx : p.tables.exec = Jvm.exec) (hb : c.code = mBy y) {off : Int} {t : Nat} (ht : (pc : Int) + off = (t : Int)) (hd : decode (mBy y) pc = .ok (.goto off, 3)) (h : mPt ρ p l e R s m args below meth c Qe y H0 S0 Sf t (mls, mst, I, S)) : mPt ρ p l e R s m args below meth c Qe y H0 S0 Sf pc (mls, mst, I, S) := by
  refine ⟨h.1, fun H locs cells slots ls stk hL hS hH hO hC => ?_⟩
  refine lv_goto (tgt := t) hx hb hd ht ?_
  exact h.2 H locs cells slots ls _ hL hS hH hO hC
end MST
