/-! The law: frames, what a wrapper and a call of the law do. -/
theorem mAft_h (m pc e t : Nat) (h : mHnd m pc e = some t) {ls : mM} {st : List mV} {X : Nat → mC → Prop} {Q : mQ} {rest : mC → Prop} {I : mN} {S : mH} : mAft m pc ls st X Q rest (.inr e) I S = X t (ls, [mR (-2)], I, S) := by
  unfold mAft
  dsimp only
  rw [h]
theorem lw_S {D y : Nat} {a : List mV} {I : mN} {S : mH} {m : Int} {Q : mQ} (h : mRun D y a I (mSx S m (S.1 m 45)) Q) : mRun D y a I S Q := by rw [mSx_self] at h; exact h
theorem and63 (x : Int) : 0 ≤ mAnd x 63 ∧ mAnd x 63 ≤ 63 := by
  unfold mAnd
  generalize Int32.ofInt x = y
  have h : (y &&& Int32.ofInt 63).toBitVec = y.toBitVec &&& 63#32 := rfl
  show 0 ≤ (y &&& Int32.ofInt 63).toBitVec.toInt ∧ (y &&& Int32.ofInt 63).toBitVec.toInt ≤ 63
  rw [h]
  have h2 : (y.toBitVec &&& 63#32).toNat ≤ 63 := by rw [BitVec.toNat_and]; exact Nat.and_le_right
  rw [BitVec.toInt_eq_toNat_of_lt (by omega)]
  omega
theorem mCmp_e {x : Int} : mCmp x x = 0 := by
  unfold mCmp
  rw [if_neg (by omega), if_pos rfl]
theorem mCmp_0 : mCmp 0 (((0 : Fin 2) : Nat) : Int) = 0 := mCmp_e
theorem mCmp_1 : mCmp 1 (((1 : Fin 2) : Nat) : Int) = 0 := mCmp_e
def zOk (l : List Nat) (q : mZ) : Prop := (∃ u : Int, q = .inl (some (mI u))) ∨ ∃ e : Nat, e ∈ l ∧ q = .inr e
theorem zTh_i {l : List Nat} {v : Option mV} : zTh l (.inl v) = 0 := rfl
theorem zTh_r {l : List Nat} {e : Nat} : zTh l (.inr e) = ((l.idxOf e : Nat) : Int) + 1 := rfl
theorem lw_m1 {e a : Nat} (h : e ∈ [a]) : e = a := List.mem_singleton.mp h
theorem lw_m2 {e a b : Nat} (h : e ∈ [a, b]) : e = a ∨ e = b := (List.mem_cons.mp h).imp id lw_m1
theorem lw_m3 {e a b c : Nat} (h : e ∈ [a, b, c]) : e = a ∨ e = b ∨ e = c := (List.mem_cons.mp h).imp id lw_m2
theorem lp_2 {a0 v : mV} {o : Int} {z : Option mV} : mPut 1 [some a0, some (mR o), z] 2 v = [some a0, some (mR o), some v] := rfl
theorem lp_3 {a0 a1 v : mV} {o : Int} {z : Option mV} : mPut 1 [some a0, some a1, some (mR o), z] 3 v = [some a0, some a1, some (mR o), some v] := rfl
theorem lp_4 {a0 a1 a2 v : mV} {o : Int} {z : Option mV} : mPut 1 [some a0, some a1, some a2, some (mR o), z] 4 v = [some a0, some a1, some a2, some (mR o), some v] := rfl
theorem lp_5 {a0 a1 a2 a3 v : mV} {o : Int} {z : Option mV} : mPut 1 [some a0, some a1, some a2, some a3, some (mR o), z] 5 v = [some a0, some a1, some a2, some a3, some (mR o), some v] := rfl
theorem lp_6 {a0 a1 a2 a3 a4 v : mV} {o : Int} {z : Option mV} : mPut 1 [some a0, some a1, some a2, some a3, some a4, some (mR o), z] 6 v = [some a0, some a1, some a2, some a3, some a4, some (mR o), some v] := rfl
theorem lp_7 {a0 a1 a2 a3 a4 a5 v : mV} {o : Int} {z : Option mV} : mPut 1 [some a0, some a1, some a2, some a3, some a4, some a5, some (mR o), z] 7 v = [some a0, some a1, some a2, some a3, some a4, some a5, some (mR o), some v] := rfl
theorem lq_4 {a0 a1 a2 v : mV} {o : Int} {z z5 z6 z7 z8 : Option mV} : mPut 1 [some a0, some a1, some a2, some (mR o), z, z5, z6, z7, z8] 4 v = [some a0, some a1, some a2, some (mR o), some v, z5, z6, z7, z8] := rfl
theorem lq_5 {a0 a1 a2 a3 v : mV} {i : Int} {z z6 z7 z8 : Option mV} : mPut 1 [some a0, some a1, some a2, some a3, some (mI i), z, z6, z7, z8] 5 v = [some a0, some a1, some a2, some a3, some (mI i), some v, z6, z7, z8] := rfl
theorem lq_6 {a0 a1 a2 a3 a4 v : mV} {i : Int} {z z7 z8 : Option mV} : mPut 1 [some a0, some a1, some a2, some a3, some a4, some (mI i), z, z7, z8] 6 v = [some a0, some a1, some a2, some a3, some a4, some (mI i), some v, z7, z8] := rfl
theorem lq_7 {a0 a1 a2 a3 a4 a5 v : mV} {z z8 : Option mV} : mPut 1 [some a0, some a1, some a2, some a3, some a4, some a5, none, z, z8] 7 v = [some a0, some a1, some a2, some a3, some a4, some a5, none, some v, z8] := rfl
theorem lo_6 {a0 a1 a2 a3 a4 a5 : mV} {z z7 z8 : Option mV} : mOff [some a0, some a1, some a2, some a3, some a4, some a5, z, z7, z8] (5 + 1) = [some a0, some a1, some a2, some a3, some a4, some a5, none, z7, z8] := rfl
theorem lo_8 {a0 a1 a2 a3 a4 a5 a7 : mV} {z : Option mV} : mOff [some a0, some a1, some a2, some a3, some a4, some a5, none, some a7, z] (7 + 1) = [some a0, some a1, some a2, some a3, some a4, some a5, none, some a7, none] := rfl
section LF
variable {S S' : mH} {I I' : mN} {x m o b L c : Int} {G G' : gT} {Q : mQ}
theorem xR_11 (h : xR S I x G) : S.2.1 x = 11 := by
  obtain ⟨π, hx, -⟩ := h
  exact yx_k hx.1
theorem xR_k (hg : gWf G) (h : xR S I x G) (hf : ∀ a : Int, x ≤ a → a < x + 2369 → I' a = I a ∧ S'.1 a = S.1 a ∧ S'.2.1 a = S.2.1 a ∧ S'.2.2.1 a = S.2.2.1 a) : xR S' I' x G := by
  obtain ⟨π, ⟨h1, h2, h3, h4, h5, h6, h7, h8, h9, h10, h11⟩, hc⟩ := h
  have e : ∀ a : Int, x ≤ a → a < x + 2369 → I' a = I a := fun a a0 a1 => (hf a a0 a1).1
  have hk : ∀ b : Int, x ≤ b → b + 106 ≤ x + 2369 → yKp I I' b := fun b b0 b1 a a0 a1 => e a (by omega) (by omega)
  have hX : yX S' x π := yX_h h1 (fun a a0 a1 _ => (hf a a0 a1).2.1) (fun a a0 a1 => (hf a a0 a1).2.2) (fun k j k0 k1 j0 j1 => ⟨by rw [(hf _ (by omega) (by omega)).2.1]; exact yx_s h1 k0 k1 j0 j1, yx_pi h1 k0 k1 j0 j1⟩) (fun k j j' k0 k1 j0 j1 q0 q1 e => yx_inj h1 k0 k1 j0 j1 q0 q1 e)
  refine ⟨π, ⟨hX, ?_, fun k k0 k1 => ?_, fun k j k0 k1 j0 j1 => yOk_k (h4 k j k0 k1 j0 j1) (hk _ (by omega) (by omega)), fun k j k0 k1 j0 j1 => ?_, yOk_k h6 (hk _ (by omega) (by omega)), ?_, ?_, ?_, ?_, ?_⟩, by rw [e x (by omega) (by omega)]; exact hc⟩
  · rw [e x (by omega) (by omega)]; exact h2
  · rw [e _ (by omega) (by omega)]; exact h3 k k0 k1
  · have k3 : k < 3 := by have := hg.1.2; omega
    have j7 : j < 7 := by have := (hg.2.2.1 k k0 k3).1; omega
    have hp := yx_pi h1 k0 k3 j0 j7
    exact yS_k (hg.2.2.2.1 k j k0 k1 j0 j1).1 (h5 k j k0 k1 j0 j1) (hk _ (by omega) (by omega))
  · unfold nOldQ at h7 ⊢
    rw [e _ (by omega) (by omega), e (x + 2341 + 10) (by omega) (by omega), e (x + 2341 + 11) (by omega) (by omega)]; exact h7
  · rw [e _ (by omega) (by omega)]; exact h8
  · rw [e _ (by omega) (by omega), e (x + 2360) (by omega) (by omega)]; exact h9
  · rw [e (x + 2364) (by omega) (by omega), e (x + 2357) (by omega) (by omega), e (x + 2358) (by omega) (by omega)]; exact h10
  · rw [e _ (by omega) (by omega), e (x + 2366) (by omega) (by omega)]; exact h11
theorem oR_fr (h : oR S I m G) (hf : ∀ a : Int, m ≤ a → a < m + 47 → I' a = I a ∧ S'.1 a = S.1 a ∧ S'.2.1 a = S.2.1 a ∧ S'.2.2.1 a = S.2.2.1 a) : oR S' I' m G := by
  obtain ⟨hm, hC, h3, h4, h5, h6, h7, h8, h9⟩ := h
  have ee : ∀ a : Int, m ≤ a → a < m + 47 → I' a = I a := fun a a0 a1 => (hf a a0 a1).1
  have e0 := ee m (by omega) (by omega)
  refine ⟨yM_h hm (fun k _ => by rw [(hf m (by omega) (by omega)).2.1]) (fun a a0 a1 => (hf a a0 a1).2.2), ⟨by rw [ee (m + 1) (by omega) (by omega)]; exact hC.1, fun s s0 s1 => ?_, kWo_k hC.2.2 (by rw [e0]) (ee _ (by omega) (by omega)) (ee _ (by omega) (by omega)) (ee _ (by omega) (by omega))⟩, ?_, ?_, ?_, ?_, ?_, ?_, ?_⟩
  · rw [ee (m + 16) (by omega) (by omega), ee (m + 13 + s) (by omega) (by omega)]; exact hC.2.1 s s0 s1
  · rw [ee (m + 22) (by omega) (by omega)]; exact h3
  · rw [ee (m + 23) (by omega) (by omega), ee (m + 24) (by omega) (by omega)]; exact h4
  · rw [e0]; exact h5
  · rw [ee (m + 20) (by omega) (by omega)]; exact h6
  · rw [e0, ee (m + 40) (by omega) (by omega)]; exact h7
  · rw [e0, ee (m + 43) (by omega) (by omega)]; exact h8
  · rw [ee (m + 25) (by omega) (by omega), ee (m + 42) (by omega) (by omega), ee (m + 44) (by omega) (by omega)]; exact h9
/-- a call of the office or of its wrapper -/
def lE (S : mH) (I : mN) (S' : mH) (I' : mN) (x o : Int) : Prop := (∀ a : Int, a < S.2.2.2.1 → (a < x ∨ x + 2369 ≤ a) → a ≠ o → I' a = I a ∧ S'.1 a = S.1 a) ∧ (∀ a : Int, a < S.2.2.2.1 → S'.2.1 a = S.2.1 a ∧ S'.2.2.1 a = S.2.2.1 a) ∧ (S.2.2.2.1 ≤ S'.2.2.2.1 ∧ S'.2.2.2.1 ≤ S.2.2.2.1 + 1) ∧ S'.2.2.2.2 ≤ S.2.2.2.2 + 6
theorem lE_x (h : xEnd S I S' I' x) : lE S I S' I' x o := ⟨fun a a0 a1 _ => h.1 a a0 a1, h.2.1, h.2.2.1, h.2.2.2⟩
def lK (S : mH) (I : mN) (x o : Int) (Q : mQ) (l : List Nat) (q : mZ × gT) : Prop := ∀ (I' : mN) (S' : mH), xR S' I' x q.2 → lE S I S' I' x o → (∀ u : Int, q.1 = .inl (some (mI u)) → I' o 0 = u) → Q (.inl (some (mI (zTh l q.1)))) I' S'
theorem lw_o (ho : S.2.1 o = 53 ∧ S.2.2.1 o = 1) (hn : o < S.2.2.2.1) (h : xEnd S I S' I' x) : S'.2.1 o = 53 ∧ S'.2.2.1 o = 1 := ⟨(h.2.1 o hn).1.trans ho.1, (h.2.1 o hn).2.trans ho.2⟩
theorem lw_0 {u : Int} {l : List Nat} (hg : gWf G') (hR : xR S' I' x G') (h : xEnd S I S' I' x) (hxo : x + 2369 ≤ o) (kk : lK S I x o Q l (.inl (some (mI u)), G')) : Q (.inl (some (mI 0))) (mUp I' o 0 u) S' :=
  kk _ S' (xR_k hg hR (fun a a0 a1 => ⟨up_fa (by omega), rfl, rfl, rfl⟩)) ⟨fun a a0 a1 a2 => ⟨by rw [up_fa a2]; exact (h.1 a a0 a1).1, (h.1 a a0 a1).2⟩, h.2.1, h.2.2.1, h.2.2.2⟩ (fun u' e => by rw [up_eq rfl rfl]; exact oV e)
theorem lw_1 {e : Nat} {t : Int} {l : List Nat} (ht : zTh l (.inr e) = t) (hR : xR S' I' x G') (h : xEnd S I S' I' x) (kk : lK S I x o Q l (.inr e, G')) : Q (.inl (some (mI t))) I' S' := by
  rw [← ht]
  exact kk I' S' hR (lE_x h) (fun u hu => by cases hu)
/-- what holds between two calls of the law -/
def lJn (b L x c : Int) (S : mH) (I : mN) (G : gT) : Prop := (S.2.1 b = 90 ∧ S.2.2.1 b = L) ∧ gWf G ∧ gC5 G ∧ xR S I x G ∧ oR S I (x + 2369) G ∧ (S.2.1 (x + 2416) = 53 ∧ S.2.2.1 (x + 2416) = 1) ∧ (x + 2417 ≤ S.2.2.2.1 ∧ S.2.2.2.1 ≤ x + 2417 + c) ∧ S.2.2.2.2 ≤ 7000000 + 6 * c
theorem lw_a (hb : b < x) (h : lJn b L x c S I G) (hE : lE S I S' I' x (x + 2416)) : S'.2.1 (x + 2369) = 12 ∧ S'.2.1 b = 90 ∧ S'.2.2.1 b = L ∧ I' b = I b ∧ oR S' I' (x + 2369) G := by
  obtain ⟨⟨h1, h2⟩, hg, h5, hx, hm, ho, hn, hs⟩ := h
  refine ⟨?_, ?_, ?_, (hE.1 b (by omega) (by omega) (by omega)).1, oR_fr hm (fun a a0 a1 => ?_)⟩
  · rw [(hE.2.1 _ (by omega)).1]; exact ym_k hm.1
  · rw [(hE.2.1 _ (by omega)).1]; exact h1
  · rw [(hE.2.1 _ (by omega)).2]; exact h2
  · have e := hE.1 a (by omega) (by omega) (by omega)
    exact ⟨e.1, e.2, hE.2.1 a (by omega)⟩
theorem lw_n {I2 : mN} {z : Int} (hb : b < x) (h : lJn b L x c S I G) (hg : gWf G') (h5 : gC5 G') (hR : xR S' I' x G') (hE : lE S I S' I' x (x + 2416)) (hR2 : oR (mSx S' (x + 2369) z) I2 (x + 2369) G') (hf : oFm I' I2 (x + 2369)) : lJn b L x (c + 1) (mSx S' (x + 2369) z) I2 G' := by
  obtain ⟨⟨h1, h2⟩, -, -, -, -, ho, hn, hs⟩ := h
  refine ⟨⟨?_, ?_⟩, hg, h5, xR_k hg hR (fun a a0 a1 => ⟨hf a (by omega), up_fa (by omega), rfl, rfl⟩), hR2, ⟨?_, ?_⟩, ?_, ?_⟩
  · exact (hE.2.1 _ (by omega)).1.trans h1
  · exact (hE.2.1 _ (by omega)).2.trans h2
  · exact (hE.2.1 _ (by omega)).1.trans ho.1
  · exact (hE.2.1 _ (by omega)).2.trans ho.2
  · have := hE.2.2.1
    show x + 2417 ≤ S'.2.2.2.1 ∧ S'.2.2.2.1 ≤ x + 2417 + (c + 1)
    omega
  · have := hE.2.2.2
    show S'.2.2.2.2 ≤ 7000000 + 6 * (c + 1)
    omega
end LF
