/-! A call of a method of the small machine, seen from the caller. -/
section NCA
variable {ρ : mRho} {p : Program} {l : Launch} {e : Env} {R : Room} {s : State} {m : MethodId} {args : Array Value} {below : List Frame} {meth : Method} {c : Code} {Qe : State → Prop} {y : Nat} {H0 : Heap} {S0 Sf : mH}
variable {pc : Nat} {mls : mM} {mst : List mV} {I I' : mN} {S S' : mH}
theorem mGo_run {r : mZ} {ar : Array Value} {H : Heap} {locs : List Loc} {cells slots mc' ms' : Nat} {ls : Array Slot} {stk rest : List Value}
    (k : vx_Run p l e R s m args below meth c H locs cells slots mc' ms' (F0 m pc ls stk) rest (mQc ρ r I' S' ar) (mXc ρ r I' S') (mFree ρ))
    (hL : mLoc ρ y ls mls) (hSr : mStk ρ rest mst) (hO : mOld ρ H0 H locs) (hC : mCnt S0 S cells slots) (hz : S'.2.2.2.1 = S.2.2.2.1 + (mc' : Int)) (hs2 : S'.2.2.2.2 = S.2.2.2.2 + (ms' : Int)) (h0 : H0 = s.heap) (hout : (∃ e' : Nat, r = .inr e') → ∀ x ∈ c.exceptionTable.toList, False) (hlk : meth.locks = false)
    (hn : ∀ v : Option mV, r = .inl v → mPt ρ p l e R s m args below meth c Qe y H0 S0 Sf (pc + 3) (mls, v.toList ++ mst, I', S'))
    (hxn : ∀ e' : Nat, r = .inr e' → ∃ mc ms : Nat, Qe = mQe ρ s args below mc ms (.inr e') I' S' ∧ S'.2.2.2.1 = S0.2.2.2.1 + (mc : Int) ∧ S'.2.2.2.2 = S0.2.2.2.2 + (ms : Int)) :
    W p l e R s m args below meth c H locs cells slots Qe (F0 m pc ls stk) := by
  intro T hT X
  have hCz : S.2.2.2.1 = S0.2.2.2.1 + (cells : Int) := hC.1
  have hCs : S.2.2.2.2 = S0.2.2.2.2 + (slots : Int) := hC.2
  rcases k T hT X with ⟨v, st₀, t, T', L, g0, X', hf, e1, e2, ⟨v', hv', hres, hH', hsz, hlow⟩, st⟩ | ⟨q, st₀, t, T', L, E, ce, g0, X', hf, e1, e2, ⟨⟨e', hr, hE⟩, hH', hsz, hlow⟩, hce, hcv, hcl, st⟩
  · cases hv'
    have hal : s.vm.Alike t.vm := by rw [← e2]; exact X'.warmed.alike
    have hH2 : mHeap ρ s I' S' T'.heap := by rw [e1]; exact mHeap_moved hal.symm hH'
    have hO2 : mOld ρ H0 T'.heap (locs ++ L) := by
      refine ⟨hO.1, ?_, fun q hq => ?_, fun z hz => ?_⟩
      · rw [e1]; exact Nat.le_trans hO.2.1 (by rw [← g0]; exact hsz)
      · rw [e1, hlow q hq, g0]; exact hO.2.2.1 q hq
      · rcases List.mem_append.mp hz with h | h
        · exact hO.2.2.2 z h
        · exact hf z h
    have hC2 : mCnt S0 S' (cells + mc') (slots + ms') := by
      refine ⟨?_, ?_⟩
      · rw [hz, hCz]; omega
      · rw [hs2, hCs]; omega
    rcases r with w | e'
    · have hS2 : mStk ρ (v.toList ++ rest) (w.toList ++ mst) := by
        rcases w with _ | w
        · have hres : v = none := hres
          rw [hres]; exact hSr
        · obtain ⟨x, hx, hv⟩ := hres
          rw [hx]; exact ⟨hv, hSr⟩
      obtain ⟨t2, a1, b1⟩ := (hn w rfl).2 T'.heap (locs ++ L) (cells + mc') (slots + ms') ls (v.toList ++ rest) hL hS2 hH2 hO2 hC2 T' rfl X'
      exact ⟨t2, st t2 a1, b1⟩
    · exact hres.elim
  · subst hr
    obtain ⟨mc, ms, hQ, hmc, hms⟩ := hxn e' rfl
    subst hQ
    have hq2 : T'.heap[q]? = some ce := by rw [e1]; exact hce
    have k2 := vx_out (p := p) (l := l) (e := e) (R := R) (s := s) (m := m) (args := args) (below := below) (meth := meth) (c := c) (H := T'.heap) (locs := locs ++ L) (cells := cells + mc') (slots := slots + ms') (ls := ls) (rest := rest) (Qc := mQc ρ (.inr e') I' S') (XC := mXc ρ (.inr e') I' S') (free := mFree ρ) (pc := pc) (E := E) (ce := ce) (q := q) (mc := mc) (ms := ms)
      (fun x hx => (hout ⟨e', rfl⟩ x hx).elim) hlk hq2 hcv hcl (fun t' ht' hal' => by
        have hal : s.vm.Alike t.vm := by rw [← e2]; exact X'.warmed.alike
        refine ⟨⟨e', rfl, hE⟩, ?_, ?_, fun q hq => ?_⟩
        · rw [ht', e1]; exact mHeap_moved (hal.symm.trans hal') hH'
        · rw [ht', e1, ← h0]; exact Nat.le_trans hO.2.1 (by rw [← g0]; exact hsz)
        · rw [ht', e1, hlow q hq, g0, ← h0]; exact hO.2.2.1 q hq)
      (fun z hz => by
        rcases List.mem_append.mp hz with h | h
        · exact hO.2.2.2 z h
        · exact hf z h)
      (by omega) (by omega)
    obtain ⟨t2, a1, b1⟩ := k2 T' rfl X'
    exact ⟨t2, st.trans a1, b1⟩
end NCA
