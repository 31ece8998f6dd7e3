/-! The office's way: the least sending of one arc after the other. -/
theorem zEx_c {N : zNet} {f f' : Int → Int} (h : ∀ c : Int, 0 ≤ c → c < 120 → f c = f' c) (w : Int) : zEx N f w = zEx N f' w := by
  unfold zEx zIn
  exact congrArg _ (sm_congr (fun a a0 a1 => by rw [h a a0 a1]))
theorem zEx_lin {N : zNet} {g f f' : Int → Int} (w : Int) : zEx N (fun c => g c + (f' c - f c)) w = zEx N g w + (zEx N f' w - zEx N f w) := by
  have h : zIn N (fun c => g c + (f' c - f c)) w = zIn N g w + (zIn N f' w - zIn N f w) := by
    unfold zIn
    rw [← sm_sub, ← sm_add]
    refine sm_congr (fun a _ _ => ?_)
    try dsimp only
    by_cases hl : N.1 a = true
    · rw [if_pos hl, if_pos hl, if_pos hl, if_pos hl]
      by_cases c1 : N.2.2.1 a = w
      · by_cases c2 : N.2.1 a = w
        · simp only [if_pos c1, if_pos c2]; omega
        · simp only [if_pos c1, if_neg c2]; omega
      · by_cases c2 : N.2.1 a = w
        · simp only [if_neg c1, if_pos c2]; omega
        · simp only [if_neg c1, if_neg c2]; omega
    · rw [if_neg hl, if_neg hl, if_neg hl, if_neg hl]; omega
  unfold zEx
  rw [h]; omega
theorem zS_U {N : zNet} (hw : zWf N) {χ : Int → Bool} {f : Int → Int} {a v : Int} (a0 : 0 ≤ a) (a1 : a < 120) (hl : N.1 a = true) (hd : χ (N.2.2.1 a) = true) (ht : χ (N.2.1 a) = false) : zS χ (zEx N (zU f a v)) = zS χ (zEx N f) + (v - f a) := by
  rw [zS_ex hw, zS_ex hw, sm_upd (f := fun a => if N.1 a = true then (if χ (N.2.2.1 a) = true then f a else 0) - (if χ (N.2.1 a) = true then f a else 0) else 0) (k := a) a0 a1 (fun i _ _ hi => by rw [zU_ne hi])]
  try dsimp only
  rw [if_pos hl, if_pos hl, if_pos hd, if_pos hd, ht, zU_eq rfl]
  simp only [Bool.false_eq_true, if_false]
  omega
theorem zLeast {N : zNet} (hw : zWf N) {χ fx : Int → Bool} {g D : Int → Int} {a : Int} (a0 : 0 ≤ a) (a1 : a < 120) (hl : N.1 a = true) (hc : zCap N g) (hd : χ (N.2.2.1 a) = true) (ht : χ (N.2.1 a) = false)
    (hin : ∀ c : Int, 0 ≤ c → c < 120 → N.1 c = true → fx c = false → χ (N.2.2.1 c) = true → χ (N.2.1 c) = false → g c = N.2.2.2.1 c)
    (hout : ∀ c : Int, 0 ≤ c → c < 120 → N.1 c = true → fx c = false → χ (N.2.2.1 c) = false → χ (N.2.1 c) = true → g c = 0)
    (hsp : ∀ v : Int, 0 ≤ v → v < 48 → χ v = true → zEx N g v ≤ D v) {f' : Int → Int} (hf : zFl N f' D) (hfx : ∀ c : Int, 0 ≤ c → c < 120 → N.1 c = true → fx c = true → c ≠ a → f' c = g c) : g a ≤ f' a := by
  have h1 : zCap N (zU f' a (g a)) := fun c c0 c1 hlc => by
    by_cases h : c = a
    · subst h; rw [zU_eq rfl]; exact hc c c0 c1 hlc
    · rw [zU_ne h]; exact hf.1 c c0 c1 hlc
  have h2 := zCut hw (χ := χ) (fx := fun c => fx c || decide (c = a)) (f := g) h1 (fun c c0 c1 hlc hx => by
    by_cases h : c = a
    · rw [zU_eq h, h]
    · rw [zU_ne h]
      try dsimp only at hx
      rw [decide_eq_false h, Bool.or_false] at hx
      exact hfx c c0 c1 hlc hx h) (fun c c0 c1 hlc hx => by
        try dsimp only at hx
        exact hin c c0 c1 hlc (Bool.or_eq_false_iff.mp hx).1) (fun c c0 c1 hlc hx => by
        try dsimp only at hx
        exact hout c c0 c1 hlc (Bool.or_eq_false_iff.mp hx).1)
  rw [zS_U hw a0 a1 hl hd ht] at h2
  have h3 : zS χ (zEx N g) ≤ zS χ (zEx N f') := by
    refine sm_le (fun u u0 u1 => ?_)
    split
    · rename_i hu; exact Int.le_trans (hsp u u0 u1 hu) (hf.2 u u0 u1)
    · exact Int.le_refl _
  omega
/-- the order of the arcs: week by week, reach by reach -/
def zKy (a : Int) : Int := 16 * (a % 8) + a / 8
def zWay (N : zNet) (D y : Int → Int) : Prop := ∀ a : Int, 0 ≤ a → a < 72 → N.1 a = true → (∃ f : Int → Int, zFl N f D ∧ ∀ c : Int, 0 ≤ c → c < 72 → N.1 c = true → zKy c ≤ zKy a → f c = y c) ∧ ∀ f : Int → Int, zFl N f D → (∀ c : Int, 0 ≤ c → c < 72 → N.1 c = true → zKy c < zKy a → f c = y c) → y a ≤ f a
theorem zWay_uniq {N : zNet} {D y y' : Int → Int} (h : zWay N D y) (h' : zWay N D y') : ∀ a : Int, 0 ≤ a → a < 72 → N.1 a = true → y a = y' a := by
  have main : ∀ (M : Nat) (a : Int), 0 ≤ a → a < 72 → N.1 a = true → zKy a < M → y a = y' a := by
    intro M
    induction M with
    | zero => intro a a0 a1 hl hM; unfold zKy at hM; omega
    | succ M ih =>
      intro a a0 a1 hl hM
      obtain ⟨⟨f, f1, f2⟩, f3⟩ := h a a0 a1 hl
      obtain ⟨⟨f', g1, g2⟩, g3⟩ := h' a a0 a1 hl
      have q1 := f3 f' g1 (fun c c0 c1 hc hk => by rw [g2 c c0 c1 hc (by omega)]; exact (ih c c0 c1 hc (by omega)).symm)
      have q2 := g3 f f1 (fun c c0 c1 hc hk => by rw [f2 c c0 c1 hc (by omega)]; exact ih c c0 c1 hc (by omega))
      rw [g2 a a0 a1 hl (Int.le_refl _)] at q1
      rw [f2 a a0 a1 hl (Int.le_refl _)] at q2
      omega
  intro a a0 a1 hl
  exact main (zKy a + 1).toNat a a0 a1 hl (by unfold zKy; omega)
/-- the network while the way is sought: P the settled arcs, y what they send -/
abbrev zG (P : Int → Bool) (y f : Int → Int) : Int → Int := fun c => if P c = true then y c else f c
def nWy (I : mN) (n : Int) (N : zNet) (Dm y : Int → Int) (P : Int → Bool) : Prop :=
  (nWf (I n 1) (I (n + 1)) (I (n + 2)) (I (n + 3)) ∧ (∀ a : Int, 0 ≤ a → a < 120 → 0 ≤ I (n + 4) a ∧ I (n + 4) a ≤ 1000) ∧ (∀ a : Int, 0 ≤ a → a < 120 → I (n + 6) a = if P a = true then 1 else 0) ∧ ∀ v : Int, 0 ≤ v → v < 48 → I (n + 9) v = 0) ∧
  (zCap N (I (n + 5)) ∧ ∀ a : Int, 0 ≤ a → a < 120 → N.1 a = false → I (n + 5) a = 0) ∧ (zCap N (zG P y (I (n + 5))) ∧ ∀ w : Int, 0 ≤ w → w < 48 → I (n + 8) w = zEx N (zG P y (I (n + 5))) w - Dm w ∧ 0 ≤ I (n + 8) w) ∧ nOldQ I n ∧ nN I n = N
/-- cells that a settling leaves alone -/
def nFr6 (I I' : mN) (n : Int) : Prop := (∀ a : Int, a ≠ n → a ≠ n + 5 → a ≠ n + 6 → a ≠ n + 8 → a ≠ n + 10 → a ≠ n + 11 → a ≠ n + 12 → a ≠ n + 13 → I' a = I a) ∧ ∀ k : Int, k ≠ 13 → I' n k = I n k
theorem zEx_bd {N : zNet} {f : Int → Int} (hc : zCap N f) (hr : ∀ a : Int, 0 ≤ a → a < 120 → N.2.2.2.1 a ≤ 1000) {w : Int} : zEx N f w ≤ N.2.2.2.2 w + 120000 := by
  have h : zIn N f w ≤ sm 120 (fun _ => 1000) := by
    refine sm_le (fun a a0 a1 => ?_)
    try dsimp only
    by_cases hl : N.1 a = true
    · rw [if_pos hl]
      have h1 := hc a a0 a1 hl
      have h2 := hr a a0 a1
      split <;> split <;> omega
    · rw [if_neg hl]; decide
  have h2 : sm 120 (fun _ => (1000 : Int)) = 120000 := by decide +kernel
  unfold zEx
  omega
