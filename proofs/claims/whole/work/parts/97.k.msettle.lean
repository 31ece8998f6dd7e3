/-! The model settles sendings: each the least. -/
theorem sm_le0 {n : Nat} {f : Int → Int} (h : ∀ i : Int, 0 ≤ i → i < n → f i ≤ 0) : sm n f ≤ 0 := by
  have h1 := sm_le (n := n) (f := f) (g := fun _ => 0) h
  rw [sm_zero (n := n) (f := fun _ => 0) (fun _ _ _ => rfl)] at h1
  exact h1
-- water that would be spilled need not be sent
set_option maxRecDepth 8000 in
theorem zSpill {N : zNet} {Dm : Int → Int} (hw : zWf N) (hsu : ∀ v : Int, 0 ≤ v → v < 48 → 0 ≤ N.2.2.2.2 v) (hD : ∀ v : Int, 0 ≤ v → v < 48 → 0 ≤ Dm v) : ∀ (T : Nat) (f : Int → Int), zFl N f Dm → sm 120 (fun a => if N.1 a = true then f a else 0) ≤ T → ∃ g : Int → Int, zFl N g Dm ∧ (∀ a : Int, 0 ≤ a → a < 120 → N.1 a = true → g a ≤ f a) ∧ ∀ v : Int, 0 ≤ v → v < 48 → zIn N g v ≤ Dm v
  | T, f, hf, hT => by
    by_cases hall : ∀ v : Int, 0 ≤ v → v < 48 → zIn N f v ≤ Dm v
    · exact ⟨f, hf, fun _ _ _ _ => Int.le_refl _, hall⟩
    · have hex : ∃ v : Int, 0 ≤ v ∧ v < 48 ∧ Dm v < zIn N f v := Classical.byContradiction (fun h9 => hall (fun v v0 v1 => by
        by_cases h8 : zIn N f v ≤ Dm v
        · exact h8
        · exact absurd ⟨v, v0, v1, by omega⟩ h9))
      obtain ⟨v, v0, v1, hv⟩ := hex
      have hex2 : ∃ a : Int, 0 ≤ a ∧ a < 120 ∧ 0 < (if N.1 a = true then (if N.2.2.1 a = v then f a else 0) - (if N.2.1 a = v then f a else 0) else 0) := Classical.byContradiction (fun h9 => by
        have h8 : zIn N f v ≤ 0 := sm_le0 (fun a a0 a1 => by
          by_cases h7 : (if N.1 a = true then (if N.2.2.1 a = v then f a else 0) - (if N.2.1 a = v then f a else 0) else 0) ≤ 0
          · exact h7
          · exact absurd ⟨a, a0, a1, by omega⟩ h9)
        have := hD v v0 v1
        omega)
      obtain ⟨a, a0, a1, ha⟩ := hex2
      by_cases hl : N.1 a = true
      · rw [if_pos hl] at ha
        obtain ⟨c0, c1⟩ := hf.1 a a0 a1 hl
        have hto : N.2.2.1 a = v := by
          by_cases h9 : N.2.2.1 a = v
          · exact h9
          · rw [if_neg h9] at ha
            split at ha <;> omega
        rw [if_pos hto] at ha
        have hfr : N.2.1 a ≠ v := fun h9 => by rw [if_pos h9] at ha; omega
        rw [if_neg hfr] at ha
        have hpos := sm_pos (n := 120) (f := fun a => if N.1 a = true then f a else 0) (k := a) a0 a1 (fun i i0 i1 => by
          show 0 ≤ if N.1 i = true then f i else 0
          split
          · rename_i h9; exact (hf.1 i i0 i1 h9).1
          · exact Int.le_refl 0)
        have hpos : f a ≤ sm 120 (fun a => if N.1 a = true then f a else 0) := by
          have hpos : (if N.1 a = true then f a else 0) ≤ _ := hpos
          rw [if_pos hl] at hpos; exact hpos
        match T, hT with
        | 0, hT => omega
        | T + 1, hT =>
        have hsum : sm 120 (fun b => if N.1 b = true then zU f a (f a - 1) b else 0) ≤ T := by
          rw [sm_upd (f := fun b => if N.1 b = true then f b else 0) (k := a) a0 a1 (fun i _ _ hi => by rw [zU_ne hi])]
          dsimp only
          rw [if_pos hl, if_pos hl, zU_eq rfl]
          omega
        have hfl : zFl N (zU f a (f a - 1)) Dm := by
          refine ⟨fun b b0 b1 hb => ?_, fun w w0 w1 => ?_⟩
          · by_cases hba : b = a
            · rw [hba, zU_eq rfl]; omega
            · rw [zU_ne hba]; exact hf.1 b b0 b1 hb
          · rw [zEx_U a0 a1 hl, hto]
            have h9 := hf.2 w w0 w1
            by_cases hwv : v = w
            · rw [if_pos hwv, if_neg (fun h8 => hfr (h8.trans hwv.symm))]
              have h7 : zEx N f w = N.2.2.2.2 w + zIn N f w := rfl
              have h6 := hsu w w0 w1
              rw [← hwv] at h7 h6 ⊢
              omega
            · rw [if_neg hwv]
              split <;> omega
        obtain ⟨g, g1, g2, g3⟩ := zSpill hw hsu hD T _ hfl hsum
        refine ⟨g, g1, fun b b0 b1 hb => ?_, g3⟩
        have h9 := g2 b b0 b1 hb
        by_cases hba : b = a
        · rw [hba, zU_eq rfl] at h9; rw [hba]; omega
        · rw [zU_ne hba] at h9; exact h9
      · rw [if_neg hl] at ha; omega
section MT
variable {m : Int} {S : mH} {Q : mQ} (D : Nat) {fr to rm : Int → Int} {N : zNet} {Dm : Int → Int} {a : Int}
/-- a search back that failed: the arc sends the least -/
theorem kLeast {fl fx se y : Int → Int} (hN : kNt fr to rm N) (hz : zWf N) (hsu : ∀ v : Int, 0 ≤ v → v < 48 → 0 ≤ N.2.2.2.2 v) (hD : ∀ v : Int, 0 ≤ v → v < 48 → 0 ≤ Dm v) (hS : kSt fr to rm fl Dm) (a0 : 0 ≤ a) (a1 : a < 72) (hl : N.1 a = true) (hw : ∀ c : Int, 0 ≤ c → c < 72 → N.1 c = true → zKy c < zKy a → fl c = y c ∧ zWc N Dm y c) (hfx : ∀ c : Int, 0 ≤ c → c < 168 → c ≠ a → fx c = 0 ∨ (c < 72 ∧ (N.1 c = true → zKy c < zKy a)))
    (hse : ∀ v : Int, 0 ≤ v → v < 49 → se v = 0 ∨ se v = 1) (hto : se (N.2.2.1 a) = 1) (hfr : se (N.2.1 a) = 0) (hcl : ∀ u v c : Int, 0 ≤ v → v < 49 → se v = 1 → kH fr to rm fl fx u v c → se u = 1) : ∀ f : Int → Int, zFl N f Dm → (∀ c : Int, 0 ≤ c → c < 72 → N.1 c = true → zKy c < zKy a → f c = y c) → fl a ≤ f a := by
  intro f hf hag
  obtain ⟨g, g1, g2, g3⟩ := zSpill hz hsu hD (sm 120 (fun a => if N.1 a = true then f a else 0)).toNat f hf (by omega)
  -- it agrees with what was settled
  have hgy : ∀ (K : Nat) (c : Int), 0 ≤ c → c < 72 → N.1 c = true → zKy c < zKy a → zKy c < K → g c = y c := by
    intro K
    induction K with
    | zero => intro c c0 c1 _ _ h; unfold zKy at h; omega
    | succ K ih =>
      intro c c0 c1 hc hk hK
      have h1 := g2 c c0 (by omega) hc
      rw [hag c c0 c1 hc hk] at h1
      have h2 := (hw c c0 c1 hc hk).2.2 g g1 (fun d d0 d1 hd hkd => ih d d0 d1 hd (by omega) (by omega))
      omega
  have hgl : ∀ c : Int, 0 ≤ c → c < 120 → N.1 c = true → c ≠ a → (fx c = 0 ∨ g c = fl c) := fun c c0 c1 hc hca => by
    rcases hfx c c0 (by omega) hca with h9 | ⟨h8, h9⟩
    · exact Or.inl h9
    · right
      rw [hgy 200 c c0 h8 hc (h9 hc) (by unfold zKy; omega)]
      exact (hw c c0 h8 hc (h9 hc)).1.symm
  have hga := g2 a a0 (by omega) hl
  by_cases hlt : fl a ≤ f a
  · exact hlt
  · exfalso
    have hcap := kSt_cap hN hz hS
    -- arcs across
    have hcr : ∀ c : Int, 0 ≤ c → c < 120 → N.1 c = true → (se (N.2.2.1 c) = 1 → se (N.2.1 c) = 0 → g c ≤ fl c) ∧ (se (N.2.2.1 c) = 0 → se (N.2.1 c) = 1 → fl c ≤ g c) := fun c c0 c1 hc => by
      obtain ⟨⟨k1, k2⟩, ⟨k3, k4⟩, k5⟩ := hz c c0 c1 hc
      obtain ⟨q1, q2, q3⟩ := (hN.1 c c0 c1).1 hc
      obtain ⟨e0, e1⟩ := hcap c c0 c1 hc
      obtain ⟨d0, d1⟩ := g1.1 c c0 c1 hc
      by_cases hca : c = a
      · subst hca
        exact ⟨fun _ _ => by omega, fun h9 _ => by rw [h9] at hto; omega⟩
      · rcases hgl c c0 c1 hc hca with h9 | h9
        · refine ⟨fun h1 h2 => ?_, fun h1 h2 => ?_⟩
          · by_cases hc2 : fl c < N.2.2.2.1 c
            · have := hcl (N.2.1 c) (N.2.2.1 c) c k3 (by omega) h1 ⟨⟨c0, by omega⟩, h9, by omega, Or.inl ⟨q1, q2, by omega⟩⟩
              omega
            · omega
          · by_cases hc2 : 0 < fl c
            · have := hcl (N.2.2.1 c) (N.2.1 c) c k1 (by omega) h2 ⟨⟨c0, by omega⟩, h9, by omega, Or.inr ⟨q2, q1, hc2⟩⟩
              omega
            · omega
        · rw [h9]; exact ⟨fun _ _ => Int.le_refl _, fun _ _ => Int.le_refl _⟩
    obtain ⟨⟨k1, k2⟩, ⟨k3, k4⟩, k5⟩ := hz a a0 (by omega) hl
    by_cases h48 : se 48 = 0
    · -- all comes from outside: less would be too little
      have e1 := zS_ex hz (fun v => decide (se v = 1)) g
      have e2 := zS_ex hz (fun v => decide (se v = 1)) fl
      have hle : zS (fun v => decide (se v = 1)) (zEx N fl) ≤ zS (fun v => decide (se v = 1)) (zEx N g) := by
        refine sm_le (fun v v0 v1 => ?_)
        try dsimp only
        by_cases hv : se v = 1
        · rw [if_pos (decide_eq_true hv), if_pos (decide_eq_true hv)]
          obtain ⟨b1, b2, b3⟩ := kSt_ex hN hsu hS v0 (by omega)
          have b4 := g1.2 v v0 (by omega)
          have b5 : N.2.2.2.2 v ≤ fl (120 + v) := by
            obtain ⟨n1, n2⟩ := hN.2 v v0 (by omega)
            by_cases hc2 : fl (120 + v) < N.2.2.2.2 v
            · rcases n2 with ⟨n2, n3⟩ | ⟨-, -, n4⟩
              · have hx : fx (120 + v) = 0 := by
                  rcases hfx (120 + v) (by omega) (by omega) (by omega) with h9 | ⟨h9, -⟩
                  · exact h9
                  · omega
                have := hcl 48 v (120 + v) v0 (by omega) hv ⟨⟨by omega, by omega⟩, hx, by omega, Or.inl ⟨n1, n2, by omega⟩⟩
                omega
              · omega
            · omega
          omega
        · rw [if_neg (fun h9 => hv (of_decide_eq_true h9)), if_neg (fun h9 => hv (of_decide_eq_true h9))]
          exact Int.le_refl _
      have hlt2 : sm 120 (fun c => if N.1 c = true then (if decide (se (N.2.2.1 c) = 1) = true then g c else 0) - (if decide (se (N.2.1 c) = 1) = true then g c else 0) else 0) < sm 120 (fun c => if N.1 c = true then (if decide (se (N.2.2.1 c) = 1) = true then fl c else 0) - (if decide (se (N.2.1 c) = 1) = true then fl c else 0) else 0) := by
        have h9 := sm_pos (n := 120) (f := fun c => (if N.1 c = true then (if decide (se (N.2.2.1 c) = 1) = true then fl c else 0) - (if decide (se (N.2.1 c) = 1) = true then fl c else 0) else 0) - (if N.1 c = true then (if decide (se (N.2.2.1 c) = 1) = true then g c else 0) - (if decide (se (N.2.1 c) = 1) = true then g c else 0) else 0)) (k := a) a0 (by omega) (fun c c0 c1 => by
          try dsimp only
          by_cases hc : N.1 c = true
          · rw [if_pos hc, if_pos hc]
            obtain ⟨r1, r2⟩ := hcr c c0 c1 hc
            obtain ⟨⟨p1, p2⟩, ⟨p3, p4⟩, -⟩ := hz c c0 c1 hc
            have s1 := hse (N.2.2.1 c) p3 (by omega)
            have s2 := hse (N.2.1 c) p1 (by omega)
            by_cases t1 : se (N.2.2.1 c) = 1
            · by_cases t2 : se (N.2.1 c) = 1
              · simp only [t1, t2, decide_true, if_true]; omega
              · have t3 : se (N.2.1 c) = 0 := s2.resolve_right t2
                have := r1 t1 t3
                simp only [t1, t2, decide_true, decide_false, if_true]
                simp only [Bool.false_eq_true, if_false]; omega
            · have t3 : se (N.2.2.1 c) = 0 := s1.resolve_right t1
              by_cases t2 : se (N.2.1 c) = 1
              · have := r2 t3 t2
                simp only [t1, t2, decide_true, decide_false, if_true]
                simp only [Bool.false_eq_true, if_false]; omega
              · simp only [t1, t2, decide_false]
                simp only [Bool.false_eq_true, if_false]; omega
          · rw [if_neg hc, if_neg hc]; decide)
        rw [sm_sub] at h9
        try dsimp only at h9
        rw [if_pos hl, if_pos hl] at h9
        have ha1 : decide (se (N.2.2.1 a) = 1) = true := decide_eq_true hto
        have ha2 : ¬ decide (se (N.2.1 a) = 1) = true := fun h8 => by have := of_decide_eq_true h8; omega
        rw [if_pos ha1, if_pos ha1, if_neg ha2, if_neg ha2] at h9
        omega
      omega
    · -- what is outside has no supply of its own in use
      have h481 : se 48 = 1 := (hse 48 (by decide) (by decide)).resolve_left h48
      have e1 := zS_ex hz (fun v => decide (se v = 0)) g
      have e2 := zS_ex hz (fun v => decide (se v = 0)) fl
      have hle : zS (fun v => decide (se v = 0)) (zEx N g) ≤ zS (fun v => decide (se v = 0)) (zEx N fl) := by
        refine sm_le (fun v v0 v1 => ?_)
        try dsimp only
        by_cases hv : se v = 0
        · rw [if_pos (decide_eq_true hv), if_pos (decide_eq_true hv)]
          obtain ⟨b1, b2, b3⟩ := kSt_ex hN hsu hS v0 (by omega)
          have b4 := g3 v v0 (by omega)
          have b6 : zEx N g v = N.2.2.2.2 v + zIn N g v := rfl
          have b5 : fl (120 + v) ≤ 0 := by
            obtain ⟨n1, n2⟩ := hN.2 v v0 (by omega)
            by_cases hc2 : 0 < fl (120 + v)
            · rcases n2 with ⟨n2, n3⟩ | ⟨-, -, n4⟩
              · have hx : fx (120 + v) = 0 := by
                  rcases hfx (120 + v) (by omega) (by omega) (by omega) with h9 | ⟨h9, -⟩
                  · exact h9
                  · omega
                have := hcl v 48 (120 + v) (by decide) (by decide) h481 ⟨⟨by omega, by omega⟩, hx, by omega, Or.inr ⟨n2, n1, hc2⟩⟩
                omega
              · omega
            · omega
          omega
        · rw [if_neg (fun h9 => hv (of_decide_eq_true h9)), if_neg (fun h9 => hv (of_decide_eq_true h9))]
          exact Int.le_refl _
      have hlt2 : sm 120 (fun c => if N.1 c = true then (if decide (se (N.2.2.1 c) = 0) = true then fl c else 0) - (if decide (se (N.2.1 c) = 0) = true then fl c else 0) else 0) < sm 120 (fun c => if N.1 c = true then (if decide (se (N.2.2.1 c) = 0) = true then g c else 0) - (if decide (se (N.2.1 c) = 0) = true then g c else 0) else 0) := by
        have h9 := sm_pos (n := 120) (f := fun c => (if N.1 c = true then (if decide (se (N.2.2.1 c) = 0) = true then g c else 0) - (if decide (se (N.2.1 c) = 0) = true then g c else 0) else 0) - (if N.1 c = true then (if decide (se (N.2.2.1 c) = 0) = true then fl c else 0) - (if decide (se (N.2.1 c) = 0) = true then fl c else 0) else 0)) (k := a) a0 (by omega) (fun c c0 c1 => by
          try dsimp only
          by_cases hc : N.1 c = true
          · rw [if_pos hc, if_pos hc]
            obtain ⟨r1, r2⟩ := hcr c c0 c1 hc
            obtain ⟨⟨p1, p2⟩, ⟨p3, p4⟩, -⟩ := hz c c0 c1 hc
            have s1 := hse (N.2.2.1 c) p3 (by omega)
            have s2 := hse (N.2.1 c) p1 (by omega)
            by_cases t1 : se (N.2.2.1 c) = 0
            · by_cases t2 : se (N.2.1 c) = 0
              · simp only [t1, t2, decide_true, if_true]; omega
              · have t3 : se (N.2.1 c) = 1 := s2.resolve_left t2
                have := r2 t1 t3
                simp only [t1, t2, decide_true, decide_false, if_true]
                simp only [Bool.false_eq_true, if_false]; omega
            · have t3 : se (N.2.2.1 c) = 1 := s1.resolve_left t1
              by_cases t2 : se (N.2.1 c) = 0
              · have := r1 t3 t2
                simp only [t1, t2, decide_true, decide_false, if_true]
                simp only [Bool.false_eq_true, if_false]; omega
              · simp only [t1, t2, decide_false]
                simp only [Bool.false_eq_true, if_false]; omega
          · rw [if_neg hc, if_neg hc]; decide)
        rw [sm_sub] at h9
        try dsimp only at h9
        rw [if_pos hl, if_pos hl] at h9
        have ha1 : decide (se (N.2.1 a) = 0) = true := decide_eq_true hfr
        have ha2 : ¬ decide (se (N.2.2.1 a) = 0) = true := fun h8 => by have := of_decide_eq_true h8; omega
        rw [if_pos ha1, if_pos ha1, if_neg ha2, if_neg ha2] at h9
        omega
      omega
set_option maxRecDepth 8000 in
theorem l_mst {y : Int → Int} (hm : yM S m) (hN : kNt fr to rm N) (hz : zWf N) (hw : kWf fr to rm) (hsu : ∀ v : Int, 0 ≤ v → v < 48 → 0 ≤ N.2.2.2.2 v) (hrm : ∀ a : Int, 0 ≤ a → a < 168 → rm a ≤ 100000) (hD : ∀ v : Int, 0 ≤ v → v < 48 → 0 ≤ Dm v) (a0 : 0 ≤ a) (a1 : a < 72) {fx : Int → Int} (hfa : fx a = 1) (hfx : ∀ c : Int, 0 ≤ c → c < 168 → c ≠ a → fx c = 0 ∨ (c < 72 ∧ fx c = 1 ∧ (N.1 c = true → zKy c < zKy a))) (hxw : ∀ c : Int, 0 ≤ c → c < 72 → N.1 c = true → zKy c < zKy a → fx c = 1 ∧ zWc N Dm y c) :
    ∀ (c : Nat) {fl : Int → Int} {I : mN}, kA I m fr to rm fl fx → kSt fr to rm fl Dm → (∀ c : Int, 0 ≤ c → c < 72 → N.1 c = true → zKy c < zKy a → fl c = y c) → fl a ≤ c →
    (∀ (fl' : Int → Int) (I' : mN), kFb I I' m → kA I' m fr to rm fl' fx → kSt fr to rm fl' Dm → (∀ c : Int, 0 ≤ c → c < 72 → N.1 c = true → zKy c < zKy a → fl' c = y c) → (N.1 a = true → zWc N Dm (zU y a (fl' a)) a) → (N.1 a = false → fl' a = 0) → Q (.inl (some (mI (fl' a)))) I' S) →
    mAt (mRun (D + 2)) 225 7 ([some (mR m), some (mI a)], [], I, S) Q
  | c, fl, I, hA, hS, hy, hc, k => by
    obtain ⟨q2, q3, q4, q5, q6, qL⟩ := id hA
    have hbd : 0 ≤ fl a ∧ fl a ≤ 100000 := by
      by_cases hr : 0 < rm a
      · have := hS.1 a a0 (by omega) hr
        have := hrm a a0 (by omega)
        omega
      · rw [hS.2.1 a a0 (by omega) (by omega)]; omega
    have fin : (N.1 a = true → ∀ f : Int → Int, zFl N f Dm → (∀ c : Int, 0 ≤ c → c < 72 → N.1 c = true → zKy c < zKy a → f c = y c) → fl a ≤ f a) → zWc N Dm (zU y a (fl a)) a ∨ ¬ N.1 a = true := fun hh => by
      by_cases hl : N.1 a = true
      · left
        have hne : ∀ c : Int, zKy c < zKy a → c ≠ a := fun c h9 h8 => by rw [h8] at h9; omega
        refine ⟨⟨fl, kSt_fl hN hz hsu hS, fun c c0 c1 hc hk => ?_⟩, fun f hf hag => ?_⟩
        · by_cases hca : c = a
          · rw [hca, zU_eq rfl]
          · rw [zU_ne hca]
            refine hy c c0 c1 hc ?_
            by_cases h9 : zKy c = zKy a
            · exact absurd (zKy_inj c0 c1 a0 a1 h9) hca
            · omega
        · rw [zU_eq rfl]
          exact hh hl f hf (fun c c0 c1 hc hk => by rw [hag c c0 c1 hc hk, zU_ne (hne c hk)])
      · right; exact hl
    by_cases h0 : 0 < fl a
    · have hr : 0 < rm a := by
        by_cases hr : 0 < rm a
        · exact hr
        · rw [hS.2.1 a a0 (by omega) (by omega)] at h0; omega
      obtain ⟨⟨f0, f1⟩, ⟨t0, t1⟩, hne⟩ := hw a a0 (by omega) hr
      have hl : N.1 a = true := by
        cases hl : N.1 a with
        | true => rfl
        | false => have := ((hN.1 a a0 (by omega)).2 hl).2.2; omega
      obtain ⟨n1, n2, n3⟩ := (hN.1 a a0 (by omega)).1 hl
      match c, hc with
      | 0, hc => omega
      | c + 1, hc =>
      rw [a_Mo_nSettle_7]
      simp (disch := first | omega | exact Nat.le_of_ble_eq_true rfl | (simp (disch := omega) only [ym_k hm, ym_2 hm, ym_k2 hm, ym_l2 hm, ym_3 hm, ym_k3 hm, ym_l3 hm, ym_5 hm, ym_k5 hm, ym_l5 hm, q2, q3, q5] <;> omega)) only [w_iconst, w_bipush, w_sipush, w_ldc_s, w_ldcw_s, w_ldc_i, w_ldcw_i, w_lconst, w_fconst, w_dconst, w_iload, w_iload_n, w_aload, w_aload_n, w_dload, w_istore, w_istore_n, w_astore_r, w_astore_s, w_astore_n_r, w_astore_n_s, w_dstore, w_iinc, w_iadd, w_isub, w_imul, w_iand, w_iushr, v_idiv, v_irem, w_ineg, w_i2l, w_i2c, w_i2f, w_i2d, v_f2d, w_lcmp, w_dcmp, v_fdiv, v_ddiv, w_dup_i, w_dup_r, w_dup2, w_dup_x2, w_pop_i, w_pop_r, w_goto, w_switch, w_ret_i, v_ret_z, v_ret_c, w_ret_a, w_ret_s, w_ret_f, w_ret_d, w_ret_v, v_iaload, v_baload, v_caload, v_laload, v_aaload, v_iastore, v_bastore, v_castore, v_lastore, v_aastore, v_alen, v_newa, v_anewa, w_new, w_throw, w_dead, v_getf_i, v_getf_z, v_getf_r, v_putf_i, v_putf_z, v_putf_r, w_call0, w_call1, w_callv1, w_calli1, w_callt1, w_call2, w_callv2, w_calli2, w_callt2, w_call3, w_callv3, w_calli3, w_call4, w_callv4, w_calli4, w_call5, w_callv5, w_calli5, w_call6, w_callv6, w_calli6, w_call7, w_callv7, w_calli7, w_call8, w_callv8, w_calli8, c_if0_eq_t, c_if0_eq_f, c_if2_eq_t, c_if2_eq_f, c_if0_ne_t, c_if0_ne_f, c_if2_ne_t, c_if2_ne_f, c_if0_lt_t, c_if0_lt_f, c_if2_lt_t, c_if2_lt_f, c_if0_ge_t, c_if0_ge_f, c_if2_ge_t, c_if2_ge_f, c_if0_gt_t, c_if0_gt_f, c_if2_gt_t, c_if2_gt_f, c_if0_le_t, c_if0_le_f, c_if2_le_t, c_if2_le_f, w_nil, uI_s, uA_r, uA_s, uD_d, mPut_0, mCl_own, mCv_go, mCl_min, mCl_cpy, mCv_obj, mAct_len, mAct_chrc, mAft_v, mAft_n, mAft_x, mGet_0, mSet_0, mGet_1, mSet_1, mGet_2, mSet_2, mGet_3, mSet_3, mGet_4, mSet_4, mGet_5, mSet_5, mGet_6, mSet_6, mGet_7, mSet_7, mGet_8, mSet_8, mGet_9, mSet_9, mGet_10, mSet_10, mGet_11, mSet_11, mGet_12, mSet_12, mGet_13, mSet_13, bk_Mo_nSettle_7, ym_k hm, ym_2 hm, ym_k2 hm, ym_l2 hm, ym_3 hm, ym_k3 hm, ym_l3 hm, ym_5 hm, ym_k5 hm, ym_l5 hm, q2, q3, q5, wr]
      refine p_mfind (D + 1) hm hw hA ⟨f0, by omega⟩ ⟨t0, by omega⟩ hne (fun I1 many g1 hQ hs1 => ?_) (fun I1 many g1 hQ hs1 hcl => ?_)
      · have hA1 := kA_k hA g1
        obtain ⟨r2, r3, r4, r5, r6, rL⟩ := id hA1
        simp (disch := first | omega | exact Nat.le_of_ble_eq_true rfl | (simp (disch := omega) only [ym_k hm, ym_2 hm, ym_k2 hm, ym_l2 hm, ym_3 hm, ym_k3 hm, ym_l3 hm, ym_5 hm, ym_k5 hm, ym_l5 hm, r2, r3, r5] <;> omega)) only [w_iconst, w_bipush, w_sipush, w_ldc_s, w_ldcw_s, w_ldc_i, w_ldcw_i, w_lconst, w_fconst, w_dconst, w_iload, w_iload_n, w_aload, w_aload_n, w_dload, w_istore, w_istore_n, w_astore_r, w_astore_s, w_astore_n_r, w_astore_n_s, w_dstore, w_iinc, w_iadd, w_isub, w_imul, w_iand, w_iushr, v_idiv, v_irem, w_ineg, w_i2l, w_i2c, w_i2f, w_i2d, v_f2d, w_lcmp, w_dcmp, v_fdiv, v_ddiv, w_dup_i, w_dup_r, w_dup2, w_dup_x2, w_pop_i, w_pop_r, w_goto, w_switch, w_ret_i, v_ret_z, v_ret_c, w_ret_a, w_ret_s, w_ret_f, w_ret_d, w_ret_v, v_iaload, v_baload, v_caload, v_laload, v_aaload, v_iastore, v_bastore, v_castore, v_lastore, v_aastore, v_alen, v_newa, v_anewa, w_new, w_throw, w_dead, v_getf_i, v_getf_z, v_getf_r, v_putf_i, v_putf_z, v_putf_r, w_call0, w_call1, w_callv1, w_calli1, w_callt1, w_call2, w_callv2, w_calli2, w_callt2, w_call3, w_callv3, w_calli3, w_call4, w_callv4, w_calli4, w_call5, w_callv5, w_calli5, w_call6, w_callv6, w_calli6, w_call7, w_callv7, w_calli7, w_call8, w_callv8, w_calli8, c_if0_eq_t, c_if0_eq_f, c_if2_eq_t, c_if2_eq_f, c_if0_ne_t, c_if0_ne_f, c_if2_ne_t, c_if2_ne_f, c_if0_lt_t, c_if0_lt_f, c_if2_lt_t, c_if2_lt_f, c_if0_ge_t, c_if0_ge_f, c_if2_ge_t, c_if2_ge_f, c_if0_gt_t, c_if0_gt_f, c_if2_gt_t, c_if2_gt_f, c_if0_le_t, c_if0_le_f, c_if2_le_t, c_if2_le_f, w_nil, uI_s, uA_r, uA_s, uD_d, mPut_0, mCl_own, mCv_go, mCl_min, mCl_cpy, mCv_obj, mAct_len, mAct_chrc, mAft_v, mAft_n, mAft_x, mGet_0, mSet_0, mGet_1, mSet_1, mGet_2, mSet_2, mGet_3, mSet_3, mGet_4, mSet_4, mGet_5, mSet_5, mGet_6, mSet_6, mGet_7, mSet_7, mGet_8, mSet_8, mGet_9, mSet_9, mGet_10, mSet_10, mGet_11, mSet_11, mGet_12, mSet_12, mGet_13, mSet_13, ym_k hm, ym_2 hm, ym_k2 hm, ym_l2 hm, ym_3 hm, ym_k3 hm, ym_l3 hm, ym_5 hm, ym_k5 hm, ym_l5 hm, r2, r3, r5, wr]
        refine p_msend (fl := fl) (fx := fx) (most := fl a) D hm hw hA1 hQ hS.1 hrm f0 (by omega) hs1 h0 (by omega) (fun un g I2 u0 u1 g2 e5 hc2 hN2 hch => ?_)
        have hga : g a = fl a := by
          rcases hch a with h9 | ⟨-, h9, -⟩
          · exact h9
          · omega
        simp (disch := first | omega | exact Nat.le_of_ble_eq_true rfl | (simp (disch := omega) only [ym_k hm, ym_2 hm, ym_k2 hm, ym_l2 hm, ym_3 hm, ym_k3 hm, ym_l3 hm, ym_5 hm, ym_k5 hm, ym_l5 hm, e5] <;> omega)) only [w_iconst, w_bipush, w_sipush, w_ldc_s, w_ldcw_s, w_ldc_i, w_ldcw_i, w_lconst, w_fconst, w_dconst, w_iload, w_iload_n, w_aload, w_aload_n, w_dload, w_istore, w_istore_n, w_astore_r, w_astore_s, w_astore_n_r, w_astore_n_s, w_dstore, w_iinc, w_iadd, w_isub, w_imul, w_iand, w_iushr, v_idiv, v_irem, w_ineg, w_i2l, w_i2c, w_i2f, w_i2d, v_f2d, w_lcmp, w_dcmp, v_fdiv, v_ddiv, w_dup_i, w_dup_r, w_dup2, w_dup_x2, w_pop_i, w_pop_r, w_goto, w_switch, w_ret_i, v_ret_z, v_ret_c, w_ret_a, w_ret_s, w_ret_f, w_ret_d, w_ret_v, v_iaload, v_baload, v_caload, v_laload, v_aaload, v_iastore, v_bastore, v_castore, v_lastore, v_aastore, v_alen, v_newa, v_anewa, w_new, w_throw, w_dead, v_getf_i, v_getf_z, v_getf_r, v_putf_i, v_putf_z, v_putf_r, w_call0, w_call1, w_callv1, w_calli1, w_callt1, w_call2, w_callv2, w_calli2, w_callt2, w_call3, w_callv3, w_calli3, w_call4, w_callv4, w_calli4, w_call5, w_callv5, w_calli5, w_call6, w_callv6, w_calli6, w_call7, w_callv7, w_calli7, w_call8, w_callv8, w_calli8, c_if0_eq_t, c_if0_eq_f, c_if2_eq_t, c_if2_eq_f, c_if0_ne_t, c_if0_ne_f, c_if2_ne_t, c_if2_ne_f, c_if0_lt_t, c_if0_lt_f, c_if2_lt_t, c_if2_lt_f, c_if0_ge_t, c_if0_ge_f, c_if2_ge_t, c_if2_ge_f, c_if0_gt_t, c_if0_gt_f, c_if2_gt_t, c_if2_gt_f, c_if0_le_t, c_if0_le_f, c_if2_le_t, c_if2_le_f, w_nil, uI_s, uA_r, uA_s, uD_d, mPut_0, mCl_own, mCv_go, mCl_min, mCl_cpy, mCv_obj, mAct_len, mAct_chrc, mAft_v, mAft_n, mAft_x, mGet_0, mSet_0, mGet_1, mSet_1, mGet_2, mSet_2, mGet_3, mSet_3, mGet_4, mSet_4, mGet_5, mSet_5, mGet_6, mSet_6, mGet_7, mSet_7, mGet_8, mSet_8, mGet_9, mSet_9, mGet_10, mSet_10, mGet_11, mSet_11, mGet_12, mSet_12, mGet_13, mSet_13, ym_k hm, ym_2 hm, ym_k2 hm, ym_l2 hm, ym_3 hm, ym_k3 hm, ym_l3 hm, ym_5 hm, ym_k5 hm, ym_l5 hm, e5, wr]
        have e5' : (mUp I2 (m + 5) a (fl a - un)) (m + 5) = zU g a (fl a - un) := by rw [up_zU, e5]
        refine l_mst hm hN hz hw hsu hrm hD a0 a1 hfa hfx hxw c (fl := zU g a (fl a - un)) ?_ ⟨fun b b0 b1 hb => ?_, fun b b0 b1 hb => ?_, fun w w0 w1 => ?_⟩ (fun b b0 b1 hb hk => ?_) (by rw [zU_eq rfl]; omega) (fun fl' I' z1 z2 z3 z4 z5 z6 => k fl' I' (fun b b1 b2 b3 b4 => by rw [z1 b b1 b2 b3 b4, up_fa b1, g2 b b1, g1 b b2 b3 b4]) z2 z3 z4 z5 z6)
        · exact ⟨by rw [up_fa (by omega), g2 _ (by omega)]; exact r2, by rw [up_fa (by omega), g2 _ (by omega)]; exact r3, by rw [up_fa (by omega), g2 _ (by omega)]; exact r4, e5', by rw [up_fa (by omega), g2 _ (by omega)]; exact r6, kLs_k rL (by rw [up_fa (by omega), g2 _ (by omega)]) (by rw [up_fa (by omega), g2 _ (by omega)])⟩
        · by_cases hba : b = a
          · have := hc2 a a0 (by omega) hr
            rw [hba, zU_eq rfl]; omega
          · rw [zU_ne hba]; exact hc2 b b0 b1 hb
        · have hba : b ≠ a := fun h9 => by rw [h9] at hb; omega
          rw [zU_ne hba]
          rcases hch b with h9 | ⟨-, -, h9⟩
          · rw [h9]; exact hS.2.1 b b0 b1 hb
          · omega
        · rw [kN_U a0 (by omega), hN2 w, hga, hS.2.2 w w0 w1]
          by_cases d1 : to a = w
          · by_cases d2 : fr a = w
            · simp only [if_pos d1, if_pos d2]; omega
            · simp only [if_pos d1, if_neg d2]; omega
          · by_cases d2 : fr a = w
            · simp only [if_neg d1, if_pos d2]; omega
            · simp only [if_neg d1, if_neg d2]; omega
        · have hba : b ≠ a := fun h9 => by rw [h9] at hk; omega
          rw [zU_ne hba]
          rcases hch b with h9 | ⟨-, h9, -⟩
          · rw [h9]; exact hy b b0 b1 hb hk
          · have := (hxw b b0 b1 hb hk).1
            omega
      · have hA1 := kA_k hA g1
        obtain ⟨r2, r3, r4, r5, r6, rL⟩ := id hA1
        have hgo := (hQ.2.2.2.2.1 0 (Int.le_refl 0) (by have := hQ.1; omega)).2
        rw [hQ.2.1] at hgo
        have hle := fin (fun _ => kLeast (fx := fx) (se := I1 (m + 9)) (y := y) hN hz hsu hD hS a0 a1 hl (fun c c0 c1 hc hk => ⟨hy c c0 c1 hc hk, (hxw c c0 c1 hc hk).2⟩) (fun c c0 c1 hca => (hfx c c0 c1 hca).imp_right (fun h9 => ⟨h9.1, h9.2.2⟩)) hQ.2.2.2.1 (by rw [← n2]; exact hgo) (by rw [← n1]; exact hs1) hcl)
        simp (disch := first | omega | exact Nat.le_of_ble_eq_true rfl | (simp (disch := omega) only [ym_k hm, ym_2 hm, ym_k2 hm, ym_l2 hm, ym_3 hm, ym_k3 hm, ym_l3 hm, ym_5 hm, ym_k5 hm, ym_l5 hm, r5] <;> omega)) only [w_iconst, w_bipush, w_sipush, w_ldc_s, w_ldcw_s, w_ldc_i, w_ldcw_i, w_lconst, w_fconst, w_dconst, w_iload, w_iload_n, w_aload, w_aload_n, w_dload, w_istore, w_istore_n, w_astore_r, w_astore_s, w_astore_n_r, w_astore_n_s, w_dstore, w_iinc, w_iadd, w_isub, w_imul, w_iand, w_iushr, v_idiv, v_irem, w_ineg, w_i2l, w_i2c, w_i2f, w_i2d, v_f2d, w_lcmp, w_dcmp, v_fdiv, v_ddiv, w_dup_i, w_dup_r, w_dup2, w_dup_x2, w_pop_i, w_pop_r, w_goto, w_switch, w_ret_i, v_ret_z, v_ret_c, w_ret_a, w_ret_s, w_ret_f, w_ret_d, w_ret_v, v_iaload, v_baload, v_caload, v_laload, v_aaload, v_iastore, v_bastore, v_castore, v_lastore, v_aastore, v_alen, v_newa, v_anewa, w_new, w_throw, w_dead, v_getf_i, v_getf_z, v_getf_r, v_putf_i, v_putf_z, v_putf_r, w_call0, w_call1, w_callv1, w_calli1, w_callt1, w_call2, w_callv2, w_calli2, w_callt2, w_call3, w_callv3, w_calli3, w_call4, w_callv4, w_calli4, w_call5, w_callv5, w_calli5, w_call6, w_callv6, w_calli6, w_call7, w_callv7, w_calli7, w_call8, w_callv8, w_calli8, c_if0_eq_t, c_if0_eq_f, c_if2_eq_t, c_if2_eq_f, c_if0_ne_t, c_if0_ne_f, c_if2_ne_t, c_if2_ne_f, c_if0_lt_t, c_if0_lt_f, c_if2_lt_t, c_if2_lt_f, c_if0_ge_t, c_if0_ge_f, c_if2_ge_t, c_if2_ge_f, c_if0_gt_t, c_if0_gt_f, c_if2_gt_t, c_if2_gt_f, c_if0_le_t, c_if0_le_f, c_if2_le_t, c_if2_le_f, w_nil, uI_s, uA_r, uA_s, uD_d, mPut_0, mCl_own, mCv_go, mCl_min, mCl_cpy, mCv_obj, mAct_len, mAct_chrc, mAft_v, mAft_n, mAft_x, mGet_0, mSet_0, mGet_1, mSet_1, mGet_2, mSet_2, mGet_3, mSet_3, mGet_4, mSet_4, mGet_5, mSet_5, mGet_6, mSet_6, mGet_7, mSet_7, mGet_8, mSet_8, mGet_9, mSet_9, mGet_10, mSet_10, mGet_11, mSet_11, mGet_12, mSet_12, mGet_13, mSet_13, a_Mo_nSettle_69, bk_Mo_nSettle_69, ym_k hm, ym_2 hm, ym_k2 hm, ym_l2 hm, ym_3 hm, ym_k3 hm, ym_l3 hm, ym_5 hm, ym_k5 hm, ym_l5 hm, r5, wr]
        exact k fl I1 (fun b b1 b2 b3 b4 => g1 b b2 b3 b4) hA1 hS hy (fun hl => hle.resolve_right (fun h9 => h9 hl)) (fun h9 => by rw [hl] at h9; cases h9)
    · have hle := fin (fun hl f hf _ => by have := (hf.1 a a0 (by omega) hl).1; omega)
      simp (disch := first | omega | exact Nat.le_of_ble_eq_true rfl | (simp (disch := omega) only [ym_k hm, ym_2 hm, ym_k2 hm, ym_l2 hm, ym_3 hm, ym_k3 hm, ym_l3 hm, ym_5 hm, ym_k5 hm, ym_l5 hm, q5] <;> omega)) only [w_iconst, w_bipush, w_sipush, w_ldc_s, w_ldcw_s, w_ldc_i, w_ldcw_i, w_lconst, w_fconst, w_dconst, w_iload, w_iload_n, w_aload, w_aload_n, w_dload, w_istore, w_istore_n, w_astore_r, w_astore_s, w_astore_n_r, w_astore_n_s, w_dstore, w_iinc, w_iadd, w_isub, w_imul, w_iand, w_iushr, v_idiv, v_irem, w_ineg, w_i2l, w_i2c, w_i2f, w_i2d, v_f2d, w_lcmp, w_dcmp, v_fdiv, v_ddiv, w_dup_i, w_dup_r, w_dup2, w_dup_x2, w_pop_i, w_pop_r, w_goto, w_switch, w_ret_i, v_ret_z, v_ret_c, w_ret_a, w_ret_s, w_ret_f, w_ret_d, w_ret_v, v_iaload, v_baload, v_caload, v_laload, v_aaload, v_iastore, v_bastore, v_castore, v_lastore, v_aastore, v_alen, v_newa, v_anewa, w_new, w_throw, w_dead, v_getf_i, v_getf_z, v_getf_r, v_putf_i, v_putf_z, v_putf_r, w_call0, w_call1, w_callv1, w_calli1, w_callt1, w_call2, w_callv2, w_calli2, w_callt2, w_call3, w_callv3, w_calli3, w_call4, w_callv4, w_calli4, w_call5, w_callv5, w_calli5, w_call6, w_callv6, w_calli6, w_call7, w_callv7, w_calli7, w_call8, w_callv8, w_calli8, c_if0_eq_t, c_if0_eq_f, c_if2_eq_t, c_if2_eq_f, c_if0_ne_t, c_if0_ne_f, c_if2_ne_t, c_if2_ne_f, c_if0_lt_t, c_if0_lt_f, c_if2_lt_t, c_if2_lt_f, c_if0_ge_t, c_if0_ge_f, c_if2_ge_t, c_if2_ge_f, c_if0_gt_t, c_if0_gt_f, c_if2_gt_t, c_if2_gt_f, c_if0_le_t, c_if0_le_f, c_if2_le_t, c_if2_le_f, w_nil, uI_s, uA_r, uA_s, uD_d, mPut_0, mCl_own, mCv_go, mCl_min, mCl_cpy, mCv_obj, mAct_len, mAct_chrc, mAft_v, mAft_n, mAft_x, mGet_0, mSet_0, mGet_1, mSet_1, mGet_2, mSet_2, mGet_3, mSet_3, mGet_4, mSet_4, mGet_5, mSet_5, mGet_6, mSet_6, mGet_7, mSet_7, mGet_8, mSet_8, mGet_9, mSet_9, mGet_10, mSet_10, mGet_11, mSet_11, mGet_12, mSet_12, mGet_13, mSet_13, a_Mo_nSettle_7, bk_Mo_nSettle_7, a_Mo_nSettle_69, bk_Mo_nSettle_69, ym_k hm, ym_2 hm, ym_k2 hm, ym_l2 hm, ym_3 hm, ym_k3 hm, ym_l3 hm, ym_5 hm, ym_k5 hm, ym_l5 hm, q5, wr]
      exact k fl I (fun _ _ _ _ _ => rfl) hA hS hy (fun hl => hle.resolve_right (fun h9 => h9 hl)) (fun _ => by omega)
end MT
