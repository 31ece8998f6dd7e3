/-! The witness of an amount: the amounts ahead are brought again, then the search back. -/
section WI
variable {n e b : Int} {S : mH} {Q : mQ} (D : Nat) {I0 : mN} {N0 : zNet} {rk : Int → Int}
/-- the amounts ahead of (k, w) are brought -/
def nWi (I : mN) (n e : Int) (I0 : mN) (b : Int) (N0 : zNet) (rk : Int → Int) (k w : Int) : Prop :=
  nSt I n (zD (I0 b 3).toNat (I0 b 0) rk (zPo I0 b) (zAm I0 b 0) k w) ∧ nN I n = N0 ∧ I n 1 = I0 b 0 ∧ (∀ a : Int, 0 ≤ a → a < 120 → I (n + 6) a = 0) ∧ (∀ v : Int, 0 ≤ v → v < 48 → I (n + 9) v = 0) ∧ (∀ j : Int, 0 ≤ j → j < I0 b 3 → I (n + 14) (rk j) = j) ∧ ∀ a : Int, (a < n ∨ n + 15 ≤ a) → a ≠ e → I a = I0 a
/-- what a plan's amount asks is brought -/
theorem p_again {I : mN} {ask : Int → Int → Int} (hn : yNe S n e) (hd : b + 106 ≤ n ∨ n + 15 ≤ b) (hb0 : 0 ≤ I0 b 0) (hplan : zPlan N0 (I0 b 3).toNat (I0 b 0) rk (zPo I0 b) ask (zAm I0 b 0)) (hinj : ∀ o o' : Int, 0 ≤ o → o < I0 b 3 → 0 ≤ o' → o' < I0 b 3 → rk o = rk o' → o = o') {o w : Int} (o0 : 0 ≤ o) (o1 : o < I0 b 3) (w0 : I0 b 0 ≤ w) (w1 : w < 8) (hp0 : 0 ≤ zPo I0 b o) (hp1 : zPo I0 b o < 6) (ha : zAm I0 b 0 o w ≤ 1000) (h : nWi I n e I0 b N0 rk (rk o) w)
    (k : ∀ I' : mN, nWi I' n e I0 b N0 rk (rk o) (w + 1) → Q (.inl (some (mI (zAm I0 b 0 o w)))) I' S) : mRun (D + 4) 52 [mR n, mI (zPo I0 b o * 8 + w), mI (zAm I0 b 0 o w)] I S Q := by
  obtain ⟨h1, h2, h3, h4, h5, h6, h7⟩ := h
  obtain ⟨⟨a0, -⟩, hfe, -⟩ := hplan o w o0 (by omega) w0 (by omega) w1
  have hstep : zD (I0 b 3).toNat (I0 b 0) rk (zPo I0 b) (zAm I0 b 0) (rk o) (w + 1) = zAt (zD (I0 b 3).toNat (I0 b 0) rk (zPo I0 b) (zAm I0 b 0) (rk o) w) (zPo I0 b o * 8 + w) (zAm I0 b 0 o w) := by
    funext v
    have h9 := zD_step (n := (I0 b 3).toNat) (td := I0 b 0) (rk := rk) (pl := zPo I0 b) (am := zAm I0 b 0) (fun o o' q0 q1 q2 q3 => hinj o o' q0 (by omega) q2 (by omega)) o0 (by omega) w0 (by omega) w1 v
    rw [show 8 * zPo I0 b o + w = zPo I0 b o * 8 + w by omega] at h9
    exact h9
  refine p_bring2 (D := D) hn h1 (by omega) (by omega) (by rw [h3]; omega) (by omega) (fun x I2 x0 x1 hS2 fr2 set2 low2 last2 => ?_)
  have f2 := fr2.1
  have e9 : I2 (n + 9) = I (n + 9) := f2 _ (by omega) (by omega) (by omega) (by omega) (by omega) (by omega) (by omega)
  have e6 : I2 (n + 6) = I (n + 6) := f2 _ (by omega) (by omega) (by omega) (by omega) (by omega) (by omega) (by omega)
  have e14 : I2 (n + 14) = I (n + 14) := f2 _ (by omega) (by omega) (by omega) (by omega) (by omega) (by omega) (by omega)
  have eN : nN I2 n = N0 := (nN_5 fr2).trans h2
  have hx : x = zAm I0 b 0 o w := by
    by_cases hlt : x < zAm I0 b 0 o w
    · exfalso
      rcases last2 hlt with h9 | ⟨-, hq, hcl⟩
      · rw [h5 _ (by omega) (by omega)] at h9; cases h9
      · rw [eN] at hcl
        have hwf : zWf N0 := by rw [← eN]; exact nWf_zWf hS2.1.1 (fun a q0 q1 => (hS2.1.2.1 a q0 q1).1)
        have hsp := hS2.2.2.1
        rw [eN] at hsp
        have hin : nDR (I2 (n + 9)) (I2 (n + 10)) (zPo I0 b o * 8 + w) = true := by
          have h8 := (hq.2.2.2.2.1 0 (Int.le_refl 0) (by have := hq.1.1; omega)).2
          rw [hq.2.1] at h8
          exact decide_eq_true (Or.inr h8)
        refine nClo_full hwf hcl (fun a q0 q1 => by rw [e6]; exact h4 a q0 q1) hsp (by omega) (by omega) hin ?_
        rw [hstep] at hfe
        refine zFeas_mono hfe (fun v _ _ => ?_)
        unfold zAt
        split <;> omega
    · omega
  rw [hx] at hS2 ⊢
  refine k I2 ⟨by rw [hstep]; exact hS2, eN, by rw [fr2.2 1 (by decide)]; exact h3, fun a q0 q1 => by rw [e6]; exact h4 a q0 q1, fun v v0 v1 => by rw [e9]; exact h5 v v0 v1, fun j j0 j1 => by rw [e14]; exact h6 j j0 j1, fun a ha hae => ?_⟩
  rw [f2 a (by omega) (by omega) (by omega) (by omega) (by omega) (by omega) (by omega)]
  exact h7 a ha hae
/-- water that is found can come -/
theorem nQ_more {I : mN} {Dm : Int → Int} {node j : Int} (hn : yNe S n e) (hS : nSt I n Dm) (hQ : nQ (nN I n) (I (n + 5)) (I (n + 6)) (I (n + 9)) I n node) (hdrn : I (n + 9) node = 0) (j0 : 0 ≤ j) (j1 : j < I n 13) (hpos : 0 < I (n + 8) (I (n + 11) j)) : zFeas (nN I n) (zAt Dm node 1) := by
  obtain ⟨⟨s1, s2, s3, s4⟩, ⟨s5, s5'⟩, s6, s7, s8⟩ := hS
  have hq := hQ.2.2.2.2.1 j j0 j1
  have hrun := p_push (Q := fun _ _ _ => zFeas (nN I n) (zAt Dm node 1)) (td := I n 1) (fr := I (n + 1)) (to := I (n + 2)) (tm := I (n + 3)) (rm := I (n + 4)) (su := I (n + 7)) (f := I (n + 5)) (st := I (n + 6)) (sp := I (n + 8)) (dr := I (n + 9)) (most := 1) (src := I (n + 11) j) (node := node) 0 hn s1 ⟨rfl, rfl, rfl, rfl, rfl, rfl, rfl, rfl, rfl⟩ hQ (fun a a0 a1 => (s2 a a0 a1).2) s5 j0 j1 rfl hpos (s6 _ hq.1.1 hq.1.2).2.2 (Int.le_refl 1) (by decide) hdrn (fun un g' I' u1 u2 u3 _ _ hc hex _ => by
    refine ⟨g', hc, fun v v0 v1 => ?_⟩
    have h1 : zEx (nN I n) g' v = zEx (nN I n) (I (n + 5)) v + ((if node = v then un else 0) - (if I (n + 11) j = v then un else 0)) := hex v
    obtain ⟨h2, h3, -⟩ := s6 v v0 v1
    obtain ⟨h4, h5, -⟩ := s6 _ hq.1.1 hq.1.2
    obtain rfl : un = 1 := by omega
    unfold zAt
    by_cases c1 : v = node
    · by_cases c2 : I (n + 11) j = v
      · rw [if_pos c1]; rw [if_pos c1.symm, if_pos c2] at h1
        rw [c2] at hpos; omega
      · rw [if_pos c1]; rw [if_pos c1.symm, if_neg c2] at h1; omega
    · by_cases c2 : I (n + 11) j = v
      · rw [if_neg c1]; rw [if_neg (fun h9 => c1 h9.symm), if_pos c2] at h1
        rw [c2] at hpos; omega
      · rw [if_neg c1]; rw [if_neg (fun h9 => c1 h9.symm), if_neg c2] at h1; omega)
  obtain ⟨-, -, -, h, -⟩ := mRun_det _ _ _ _ _ _ hrun
  exact h
end WI
section WJ
variable {n e b : Int} {S : mH} {Q : mQ} (D : Nat) {I0 : mN} {N0 : zNet} {rk : Int → Int}
/-- after the search: reached are the nodes from which more could come, if none could give it they close -/
def nWq (I' : mN) (n e : Int) (I0 : mN) (b : Int) (N0 : zNet) (rk : Int → Int) (k w node : Int) : Prop :=
  ∃ I : mN, nWi I n e I0 b N0 rk k (w + 1) ∧ nFrm I I' n ∧ nQ N0 (I (n + 5)) (I (n + 6)) (I (n + 9)) I' n node ∧ (¬ zFeas N0 (zAt (zD (I0 b 3).toNat (I0 b 0) rk (zPo I0 b) (zAm I0 b 0) k (w + 1)) node 1) → nClo N0 (I (n + 5)) (I (n + 6)) (I (n + 8)) (nDR (I (n + 9)) (I' (n + 10))))
theorem nWi_fr {I I' : mN} {k w : Int} (h : nWi I n e I0 b N0 rk k w) (hf : nFrm I I' n) (hO : nOldQ I' n) : nWi I' n e I0 b N0 rk k w := by
  obtain ⟨⟨⟨s1, s2, s3, s4⟩, s5, s6, s7, s8⟩, h2, h3, h4, h5, h6, h7⟩ := h
  have g : ∀ a : Int, a ≠ n → a ≠ n + 10 → a ≠ n + 11 → a ≠ n + 12 → a ≠ n + 13 → I' a = I a := hf.1
  have e1 : I' n 1 = I n 1 := hf.2 1 (by decide)
  have eN : nN I' n = nN I n := by
    unfold nN
    rw [e1, g (n + 1) (by omega) (by omega) (by omega) (by omega) (by omega), g (n + 2) (by omega) (by omega) (by omega) (by omega) (by omega), g (n + 3) (by omega) (by omega) (by omega) (by omega) (by omega), g (n + 4) (by omega) (by omega) (by omega) (by omega) (by omega), g (n + 7) (by omega) (by omega) (by omega) (by omega) (by omega)]
  refine ⟨?_, eN.trans h2, e1.trans h3, fun a a0 a1 => ?_, fun v v0 v1 => ?_, fun j j0 j1 => ?_, fun a ha hae => ?_⟩
  · unfold nSt
    rw [eN, e1, g (n + 1) (by omega) (by omega) (by omega) (by omega) (by omega), g (n + 2) (by omega) (by omega) (by omega) (by omega) (by omega), g (n + 3) (by omega) (by omega) (by omega) (by omega) (by omega), g (n + 4) (by omega) (by omega) (by omega) (by omega) (by omega), g (n + 5) (by omega) (by omega) (by omega) (by omega) (by omega), g (n + 6) (by omega) (by omega) (by omega) (by omega) (by omega), g (n + 8) (by omega) (by omega) (by omega) (by omega) (by omega), g (n + 9) (by omega) (by omega) (by omega) (by omega) (by omega)]
    exact ⟨⟨s1, s2, s3, s4⟩, s5, s6, s7, hO⟩
  · rw [g (n + 6) (by omega) (by omega) (by omega) (by omega) (by omega)]; exact h4 a a0 a1
  · rw [g (n + 9) (by omega) (by omega) (by omega) (by omega) (by omega)]; exact h5 v v0 v1
  · rw [g (n + 14) (by omega) (by omega) (by omega) (by omega) (by omega)]; exact h6 j j0 j1
  · rw [g a (by omega) (by omega) (by omega) (by omega) (by omega)]; exact h7 a ha hae
theorem p_spare {I : mN} {k w node : Int} (hn : yNe S n e) (h : nWi I n e I0 b N0 rk k (w + 1)) (n0 : 0 ≤ node) (n1 : node < 48) (htd : I n 1 ≤ node % 8)
    (kk : ∀ (r : Int) (I' : mN), nWq I' n e I0 b N0 rk k w node → nWi I' n e I0 b N0 rk k (w + 1) → Q (.inl (some (mI r))) I' S) : mRun (D + 3) 53 [mR n, mI node] I S Q := by
  obtain ⟨⟨⟨s1, s2, s3, s4⟩, ⟨s5, s5'⟩, s6, s7, s8⟩, h2, h3, h4, h5, h6, h7⟩ := id h
  refine p_find (td := I n 1) (fr := I (n + 1)) (to := I (n + 2)) (tm := I (n + 3)) (rm := I (n + 4)) (su := I (n + 7)) (f := I (n + 5)) (st := I (n + 6)) (sp := I (n + 8)) (dr := I (n + 9)) D hn s1 s3 ⟨rfl, rfl, rfl, rfl, rfl, rfl, rfl, rfl, rfl⟩ n0 n1 htd s8 (fun I' r hq hfr hr => ?_)
  have hWi' := nWi_fr h hfr (nQ_old hq)
  refine kk r I' ⟨I, h, hfr, by rw [← h2]; exact hq, fun hno => ?_⟩ hWi'
  rcases hr with ⟨-, hcl⟩ | ⟨j, j0, j1, rfl, hpos⟩
  · rw [← h2]
    rw [h2] at s7
    rw [← h2] at s7
    exact nClo_of s1 s5 s7 hq hcl
  · exfalso
    apply hno
    have f1 := hfr.1
    have e5 : I' (n + 5) = I (n + 5) := f1 _ (by omega) (by omega) (by omega) (by omega) (by omega)
    have e6 : I' (n + 6) = I (n + 6) := f1 _ (by omega) (by omega) (by omega) (by omega) (by omega)
    have e8 : I' (n + 8) = I (n + 8) := f1 _ (by omega) (by omega) (by omega) (by omega) (by omega)
    have e9 : I' (n + 9) = I (n + 9) := f1 _ (by omega) (by omega) (by omega) (by omega) (by omega)
    have hm := nQ_more (S := S) (e := e) (node := node) (j := j) hn hWi'.1 (by rw [hWi'.2.1, e5, e6, e9]; rw [← h2]; exact hq) (by rw [e9]; exact h5 node n0 n1) j0 j1 (by rw [e8]; exact hpos)
    rw [hWi'.2.1] at hm
    exact hm
end WJ
