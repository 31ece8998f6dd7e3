/-! A text read as a basin: whether it is one, by its tokens alone. -/
def bNum {α : Type} (K V : Int → Int) (lo hi t : Int) (f : Int → Option α) : Option α := if K t = 2 ∧ lo ≤ V t ∧ V t ≤ hi then f (V t) else none
def bWk (K V : Int → Int) : Nat → Int → Option Int
  | 0, t => some t
  | n + 1, t => if K t = 17 then bNum K V 0 7 (t + 1) (fun _ => bNum K V 0 50 (t + 2) (fun _ => bWk K V n (t + 3))) else some t
def bPa (K V : Int → Int) : Nat → Int → Option Int
  | 0, t => some t
  | n + 1, t => if K t = 19 then bNum K V 0 1000 (t + 1) (fun _ => bPa K V n (t + 2)) else if K t = 20 then bNum K V 0 7 (t + 1) (fun f => bNum K V f 7 (t + 2) (fun _ => bNum K V 0 20 (t + 3) (fun _ => bPa K V n (t + 4)))) else if K t = 21 then none else some t
def bFl (K V : Int → Int) : Nat → Int → Option Int
  | 0, t => some t
  | n + 1, t => if K t = 2 then bNum K V 0 40 t (fun _ => bFl K V n (t + 1)) else some t
def bSt (K V : Int → Int) (a b c t : Int) : Option (Int × Int × Int × Int) :=
  if K t = 15 ∧ a < 6 then bNum K V 0 60 (t + 1) (fun z => bNum K V 0 z (t + 1 + 1) (fun _ => some (t + 1 + 2, a + 1, b, c)))
  else if K t = 16 ∧ b < 9 then bNum K V 0 (a - 1) (t + 1) (fun f => if K (t + 1 + 1) = 2 ∧ V (t + 1 + 1) = f then none else bNum K V 0 (a - 1) (t + 1 + 1) (fun _ => bNum K V 0 50 (t + 1 + 2) (fun _ => bNum K V 0 2 (t + 1 + 3) (fun _ => (bWk K V 900 (t + 1 + 4)).map (fun u => (u, a, b + 1, c))))))
  else if K t = 18 ∧ c < 10 then bNum K V 0 (a - 1) (t + 1) (fun _ => bNum K V 1800 2099 (t + 1 + 1) (fun _ => bNum K V 0 9 (t + 1 + 2) (fun _ => (bPa K V 900 (t + 1 + 3)).map (fun u => (u, a, b, c + 1)))))
  else if K t = 22 then bNum K V 0 2 (t + 1) (fun _ => bNum K V 0 (a - 1) (t + 1 + 1) (fun _ => bNum K V 0 40 (t + 1 + 2) (fun _ => (bFl K V 7 (t + 1 + 3)).map (fun u => (u, a, b, c)))))
  else none
def bBs (K V : Int → Int) : Nat → Int → Int → Int → Int → Bool
  | 0, _, _, _, t => decide (K t = 0)
  | n + 1, a, b, c, t => if K t = 0 then true else match bSt K V a b c t with
    | some (u, a', b', c') => if K u = 3 then bBs K V n a' b' c' (u + 1) else false
    | none => false
section BT
variable {tx : Int → Int} {N : Int} {K V : Int → Int}
def bKV (tx : Int → Int) (N : Int) (K V : Int → Int) : Prop := ∀ t : Int, 0 ≤ t → zK tx N t = K t ∧ (K t = 2 → zV tx N t = V t)
theorem bNum_x {α : Type} {lo hi t : Int} {f : Int → Option α} {a : α} (h : bNum K V lo hi t f = some a) : (K t = 2 ∧ lo ≤ V t ∧ V t ≤ hi) ∧ f (V t) = some a := by
  unfold bNum at h
  by_cases c : K t = 2 ∧ lo ≤ V t ∧ V t ≤ hi
  · rw [if_pos c] at h; exact ⟨c, h⟩
  · rw [if_neg c] at h; cases h
theorem bNum_q {lo hi t : Int} {f : Int → zRr} (hk : bKV tx N K V) (t0 : 0 ≤ t) (h : K t = 2 ∧ lo ≤ V t ∧ V t ≤ hi) : qNum tx N lo hi t f = f (V t) := by
  obtain ⟨h1, h2⟩ := hk t t0
  rw [qNum_1 (by rw [h1, h2 h.1]; exact h), h2 h.1]
/-- the numbers of a state are as they were -/
def bSm (σ τ : sT) : Prop := τ 1 = σ 1 ∧ τ 2 = σ 2 ∧ τ 3 = σ 3
theorem bSm_t {σ τ υ : sT} (h : bSm σ τ) (h' : bSm τ υ) : bSm σ υ := ⟨h'.1.trans h.1, h'.2.1.trans h.2.1, h'.2.2.trans h.2.2⟩
theorem bSm_u {σ : sT} {c v : Int} (h : 3 < c) : bSm σ (zU σ c v) := ⟨zU_ne (by omega), zU_ne (by omega), zU_ne (by omega)⟩
theorem bWk_p (hk : bKV tx N K V) {r : Int} (r0 : 0 ≤ r) : ∀ (n : Nat) (σ : sT) (t u : Int), 0 ≤ t → bWk K V n t = some u → (qWk tx N r n σ t).1 = 1 ∧ (qWk tx N r n σ t).2.1 = u ∧ 0 ≤ u ∧ bSm σ (qWk tx N r n σ t).2.2
  | 0, σ, t, u, t0, h => by
    have h : some t = some u := h
    cases h
    exact ⟨rfl, rfl, t0, rfl, rfl, rfl⟩
  | n + 1, σ, t, u, t0, h => by
    have e0 : qWk tx N r (n + 1) σ t = if zK tx N t = 17 then qNum tx N 0 7 (t + 1) (fun w => qNum tx N 0 50 (t + 2) (fun c => qWk tx N r n (zU σ (19 + 11 * r + w) c) (t + 3))) else (1, t, σ) := rfl
    have e1 : bWk K V (n + 1) t = if K t = 17 then bNum K V 0 7 (t + 1) (fun _ => bNum K V 0 50 (t + 2) (fun _ => bWk K V n (t + 3))) else some t := rfl
    rw [e1] at h
    rw [e0, (hk t t0).1]
    by_cases c : K t = 17
    · rw [if_pos c] at h ⊢
      obtain ⟨b1, h⟩ := bNum_x h
      obtain ⟨b2, h⟩ := bNum_x h
      rw [bNum_q hk (by omega) b1, bNum_q hk (by omega) b2]
      obtain ⟨g1, g2, g3, g4⟩ := bWk_p hk r0 n (zU σ (19 + 11 * r + V (t + 1)) (V (t + 2))) (t + 3) u (by omega) h
      exact ⟨g1, g2, g3, bSm_t (bSm_u (by omega)) g4⟩
    · rw [if_neg c] at h ⊢
      cases h
      exact ⟨rfl, rfl, t0, rfl, rfl, rfl⟩
theorem bPa_p (hk : bKV tx N K V) {i : Int} (i0 : 0 ≤ i) : ∀ (n : Nat) (σ : sT) (t u : Int), 0 ≤ t → bPa K V n t = some u → (qPa tx N i n σ t).1 = 1 ∧ (qPa tx N i n σ t).2.1 = u ∧ 0 ≤ u ∧ bSm σ (qPa tx N i n σ t).2.2
  | 0, σ, t, u, t0, h => by
    have h : some t = some u := h
    cases h
    exact ⟨rfl, rfl, t0, rfl, rfl, rfl⟩
  | n + 1, σ, t, u, t0, h => by
    have e1 : bPa K V (n + 1) t = if K t = 19 then bNum K V 0 1000 (t + 1) (fun _ => bPa K V n (t + 2)) else if K t = 20 then bNum K V 0 7 (t + 1) (fun f => bNum K V f 7 (t + 2) (fun _ => bNum K V 0 20 (t + 3) (fun _ => bPa K V n (t + 4)))) else if K t = 21 then none else some t := rfl
    rw [e1] at h
    rw [qPa_e, (hk t t0).1]
    by_cases c : K t = 19
    · rw [if_pos c] at h ⊢
      obtain ⟨b1, h⟩ := bNum_x h
      rw [bNum_q hk (by omega) b1]
      obtain ⟨g1, g2, g3, g4⟩ := bPa_p hk i0 n (zU σ (262 + 76 * i) (V (t + 1))) (t + 2) u (by omega) h
      exact ⟨g1, g2, g3, bSm_t (bSm_u (by omega)) g4⟩
    · rw [if_neg c] at h ⊢
      by_cases c2 : K t = 20
      · rw [if_pos c2] at h ⊢
        obtain ⟨b1, h⟩ := bNum_x h
        obtain ⟨b2, h⟩ := bNum_x h
        obtain ⟨b3, h⟩ := bNum_x h
        rw [bNum_q hk (by omega) b1, bNum_q hk (by omega) b2, bNum_q hk (by omega) b3]
        obtain ⟨g1, g2, g3, g4⟩ := bPa_p hk i0 n (sAskR σ i (V (t + 1)) (V (t + 2)) (V (t + 3))) (t + 4) u (by omega) h
        exact ⟨g1, g2, g3, bSm_t ⟨if_neg (by omega), if_neg (by omega), if_neg (by omega)⟩ g4⟩
      · rw [if_neg c2] at h ⊢
        by_cases c3 : K t = 21
        · rw [if_pos c3] at h; cases h
        · rw [if_neg c3] at h ⊢
          cases h
          exact ⟨rfl, rfl, t0, rfl, rfl, rfl⟩
theorem bFl_p (hk : bKV tx N K V) {s p : Int} (s0 : 0 ≤ s) (p0 : 0 ≤ p) : ∀ (n : Nat) (w : Int) (σ : sT) (t u : Int), 0 ≤ w → 0 ≤ t → bFl K V n t = some u → (qFl tx N s p n w σ t).1 = 1 ∧ (qFl tx N s p n w σ t).2.1 = u ∧ 0 ≤ u ∧ bSm σ (qFl tx N s p n w σ t).2.2
  | 0, w, σ, t, u, w0, t0, h => by
    have h : some t = some u := h
    cases h
    exact ⟨rfl, rfl, t0, rfl, rfl, rfl⟩
  | n + 1, w, σ, t, u, w0, t0, h => by
    have e0 : qFl tx N s p (n + 1) w σ t = if zK tx N t = 2 then qNum tx N 0 40 t (fun a => qFl tx N s p n (w + 1) (zU σ (115 + 48 * s + 8 * p + w) a) (t + 1)) else (1, t, σ) := rfl
    have e1 : bFl K V (n + 1) t = if K t = 2 then bNum K V 0 40 t (fun _ => bFl K V n (t + 1)) else some t := rfl
    rw [e1] at h
    rw [e0, (hk t t0).1]
    by_cases c : K t = 2
    · rw [if_pos c] at h ⊢
      obtain ⟨b1, h⟩ := bNum_x h
      rw [bNum_q hk (by omega) b1]
      obtain ⟨g1, g2, g3, g4⟩ := bFl_p hk s0 p0 n (w + 1) (zU σ (115 + 48 * s + 8 * p + w) (V t)) (t + 1) u (by omega) (by omega) h
      exact ⟨g1, g2, g3, bSm_t (bSm_u (by omega)) g4⟩
    · rw [if_neg c] at h ⊢
      cases h
      exact ⟨rfl, rfl, t0, rfl, rfl, rfl⟩
theorem bSt_p (hk : bKV tx N K V) {σ : sT} {t u a' b' c' : Int} (h1 : 0 ≤ σ 1) (h2 : 0 ≤ σ 2) (h3 : 0 ≤ σ 3) (t0 : 0 ≤ t) (h : bSt K V (σ 1) (σ 2) (σ 3) t = some (u, a', b', c')) : (qSt tx N σ t).1 = 1 ∧ (qSt tx N σ t).2.1 = u ∧ 0 ≤ u ∧ (qSt tx N σ t).2.2 1 = a' ∧ (qSt tx N σ t).2.2 2 = b' ∧ (qSt tx N σ t).2.2 3 = c' ∧ 0 ≤ a' ∧ 0 ≤ b' ∧ 0 ≤ c' := by
  unfold bSt at h
  unfold qSt
  rw [(hk t t0).1]
  by_cases c15 : K t = 15 ∧ σ 1 < 6
  · rw [if_pos c15] at h ⊢
    unfold qPl
    obtain ⟨b1, h⟩ := bNum_x h
    obtain ⟨b2, h⟩ := bNum_x h
    rw [bNum_q hk (by omega) b1, bNum_q hk (by omega) b2]
    cases h
    refine ⟨rfl, rfl, by omega, ?_, ?_, ?_, by omega, h2, h3⟩
    · show sAddP σ (V (t + 1)) (V (t + 1 + 1)) 1 = σ 1 + 1
      exact if_pos rfl
    · show sAddP σ (V (t + 1)) (V (t + 1 + 1)) 2 = σ 2
      unfold sAddP
      rw [if_neg (by omega), if_neg (by omega), if_neg (by omega)]
    · show sAddP σ (V (t + 1)) (V (t + 1 + 1)) 3 = σ 3
      unfold sAddP
      rw [if_neg (by omega), if_neg (by omega), if_neg (by omega)]
  · rw [if_neg c15] at h ⊢
    by_cases c16 : K t = 16 ∧ σ 2 < 9
    · rw [if_pos c16] at h ⊢
      unfold qRe
      obtain ⟨b1, h⟩ := bNum_x h
      rw [bNum_q hk (by omega) b1]
      have hk2 := hk (t + 1 + 1) (by omega)
      by_cases cf : K (t + 1 + 1) = 2 ∧ V (t + 1 + 1) = V (t + 1)
      · rw [if_pos cf] at h; cases h
      · rw [if_neg cf] at h
        rw [if_neg (fun q => cf ⟨hk2.1.symm.trans q.1, (hk2.2 (hk2.1.symm.trans q.1)).symm.trans q.2⟩)]
        obtain ⟨b2, h⟩ := bNum_x h
        obtain ⟨b3, h⟩ := bNum_x h
        obtain ⟨b4, h⟩ := bNum_x h
        obtain ⟨w, hw, h⟩ := Option.map_eq_some_iff.mp h
        cases h
        rw [bNum_q hk (by omega) b2, bNum_q hk (by omega) b3, bNum_q hk (by omega) b4]
        obtain ⟨g1, g2, g3, g4, g5, g6⟩ := bWk_p hk h2 900 (sAddE σ (V (t + 1)) (V (t + 1 + 1)) (V (t + 1 + 2)) (V (t + 1 + 3))) (t + 1 + 4) u (by omega) hw
        have e1 : sAddE σ (V (t + 1)) (V (t + 1 + 1)) (V (t + 1 + 2)) (V (t + 1 + 3)) 1 = σ 1 := by
          unfold sAddE
          rw [if_neg (by omega), if_neg (by omega), if_neg (by omega), if_neg (by omega), if_neg (by omega)]
        have e3 : sAddE σ (V (t + 1)) (V (t + 1 + 1)) (V (t + 1 + 2)) (V (t + 1 + 3)) 3 = σ 3 := by
          unfold sAddE
          rw [if_neg (by omega), if_neg (by omega), if_neg (by omega), if_neg (by omega), if_neg (by omega)]
        exact ⟨g1, g2, g3, g4.trans e1, g5.trans (if_pos rfl), g6.trans e3, h1, by omega, h3⟩
    · rw [if_neg c16] at h ⊢
      by_cases c18 : K t = 18 ∧ σ 3 < 10
      · rw [if_pos c18] at h ⊢
        unfold qRi
        obtain ⟨b1, h⟩ := bNum_x h
        obtain ⟨b2, h⟩ := bNum_x h
        obtain ⟨b3, h⟩ := bNum_x h
        obtain ⟨w, hw, h⟩ := Option.map_eq_some_iff.mp h
        cases h
        rw [bNum_q hk (by omega) b1, bNum_q hk (by omega) b2, bNum_q hk (by omega) b3]
        obtain ⟨g1, g2, g3, g4, g5, g6⟩ := bPa_p hk h3 900 (sAddI σ (V (t + 1)) (V (t + 1 + 1)) (V (t + 1 + 2)) (σ 3) (-1)) (t + 1 + 3) u (by omega) hw
        have e1 : sAddI σ (V (t + 1)) (V (t + 1 + 1)) (V (t + 1 + 2)) (σ 3) (-1) 1 = σ 1 := by
          unfold sAddI
          rw [if_neg (by omega), if_neg (by omega), if_neg (by omega), if_neg (by omega), if_neg (by omega), if_neg (by omega)]
        have e2 : sAddI σ (V (t + 1)) (V (t + 1 + 1)) (V (t + 1 + 2)) (σ 3) (-1) 2 = σ 2 := by
          unfold sAddI
          rw [if_neg (by omega), if_neg (by omega), if_neg (by omega), if_neg (by omega), if_neg (by omega), if_neg (by omega)]
        exact ⟨g1, g2, g3, g4.trans e1, g5.trans e2, g6.trans (if_pos rfl), h1, h2, by omega⟩
      · rw [if_neg c18] at h ⊢
        by_cases c22 : K t = 22
        · rw [if_pos c22] at h ⊢
          unfold qIn
          obtain ⟨b1, h⟩ := bNum_x h
          obtain ⟨b2, h⟩ := bNum_x h
          obtain ⟨b3, h⟩ := bNum_x h
          obtain ⟨w, hw, h⟩ := Option.map_eq_some_iff.mp h
          cases h
          rw [bNum_q hk (by omega) b1, bNum_q hk (by omega) b2, bNum_q hk (by omega) b3]
          obtain ⟨g1, g2, g3, g4⟩ := bFl_p hk b1.2.1 b2.2.1 7 1 (zU σ (115 + 48 * V (t + 1) + 8 * V (t + 1 + 1) + 0) (V (t + 1 + 2))) (t + 1 + 3) u (by decide) (by omega) hw
          obtain ⟨g4, g5, g6⟩ := bSm_t (bSm_u (σ := σ) (c := 115 + 48 * V (t + 1) + 8 * V (t + 1 + 1) + 0) (v := V (t + 1 + 2)) (by omega)) g4
          exact ⟨g1, g2, g3, g4, g5, g6, h1, h2, h3⟩
        · rw [if_neg c22] at h; cases h
theorem bBs_p (hk : bKV tx N K V) : ∀ (n : Nat) (σ : sT) (t : Int), 0 ≤ σ 1 → 0 ≤ σ 2 → 0 ≤ σ 3 → 0 ≤ t → bBs K V n (σ 1) (σ 2) (σ 3) t = true → (qBs tx N n σ t).1 = 1
  | 0, σ, t, h1, h2, h3, t0, h => by
    have h : decide (K t = 0) = true := h
    have e : qBs tx N 0 σ t = if zK tx N t = 0 then (1, t, σ) else (0, t, fun _ => 0) := rfl
    rw [e, (hk t t0).1, if_pos (of_decide_eq_true h)]
  | n + 1, σ, t, h1, h2, h3, t0, h => by
    rw [bBs] at h
    rw [qBs_e, (hk t t0).1]
    by_cases c : K t = 0
    · rw [if_pos c]
    · rw [if_neg c] at h ⊢
      cases hs : bSt K V (σ 1) (σ 2) (σ 3) t with
      | none => rw [hs] at h; cases h
      | some q =>
        obtain ⟨u, a', b', c'⟩ := q
        rw [hs] at h
        dsimp only at h
        obtain ⟨g1, g2, g3, g4, g5, g6, g9, g7, g8⟩ := bSt_p hk h1 h2 h3 t0 hs
        by_cases c3 : K u = 3
        · rw [if_pos c3] at h
          rw [if_pos g1, g2, (hk u g3).1, if_pos c3]
          exact bBs_p hk n _ (u + 1) (by omega) (by omega) (by omega) (by omega) (by rw [g4, g5, g6]; exact h)
        · rw [if_neg c3] at h; cases h
theorem bTop_p (hk : bKV tx N K V) (h0 : K 0 = 14) (h1 : K 1 = 3) (h : bBs K V 900 0 0 0 2 = true) : (qTop tx N).1 = 1 := by
  unfold qTop
  rw [(hk 0 (by decide)).1, if_pos h0, (hk 1 (by decide)).1, if_pos h1]
  exact bBs_p hk 900 (fun _ => 0) 2 (Int.le_refl 0) (Int.le_refl 0) (Int.le_refl 0) (by decide) h
end BT
/-! The first basin's text. -/
def tTb : List (Int × Int × Int × Int) := [(0, 5, 14, 0), (5, 6, 3, 0), (6, 11, 15, 0), (12, 14, 2, 20), (15, 16, 2, 8), (16, 17, 3, 0), (17, 22, 15, 0), (23, 24, 2, 0), (25, 26, 2, 0), (26, 27, 3, 0), (27, 32, 15, 0), (33, 35, 2, 10), (36, 37, 2, 0), (37, 38, 3, 0), (38, 43, 15, 0), (44, 45, 2, 0), (46, 47, 2, 0), (47, 48, 3, 0), (48, 53, 16, 0), (54, 55, 2, 0), (56, 57, 2, 1), (58, 60, 2, 12), (61, 62, 2, 0), (62, 63, 3, 0), (63, 68, 16, 0), (69, 70, 2, 1), (71, 72, 2, 2), (73, 74, 2, 8), (75, 76, 2, 1), (76, 77, 3, 0), (77, 82, 16, 0), (83, 84, 2, 1), (85, 86, 2, 3), (87, 88, 2, 6), (89, 90, 2, 0), (90, 91, 3, 0), (91, 96, 16, 0), (97, 98, 2, 2), (99, 100, 2, 3), (101, 102, 2, 5), (103, 104, 2, 0), (104, 105, 3, 0), (105, 110, 18, 0), (111, 112, 2, 3), (113, 117, 2, 1862), (118, 119, 2, 1), (120, 125, 19, 0), (126, 128, 2, 30), (129, 132, 20, 0), (133, 134, 2, 0), (135, 136, 2, 7), (137, 138, 2, 7), (138, 139, 3, 0), (139, 144, 18, 0), (145, 146, 2, 1), (147, 151, 2, 1880), (152, 153, 2, 0), (154, 157, 20, 0), (158, 159, 2, 2), (160, 161, 2, 5), (162, 163, 2, 6), (163, 164, 3, 0), (164, 169, 18, 0), (170, 171, 2, 2), (172, 176, 2, 1875), (177, 178, 2, 2), (179, 184, 19, 0), (185, 186, 2, 8), (187, 190, 20, 0), (191, 192, 2, 1), (193, 194, 2, 6), (195, 196, 2, 4), (196, 197, 3, 0), (197, 202, 18, 0), (203, 204, 2, 0), (205, 209, 2, 1901), (210, 211, 2, 0), (212, 215, 20, 0), (216, 217, 2, 0), (218, 219, 2, 7), (220, 221, 2, 3), (221, 222, 3, 0), (222, 228, 22, 0), (229, 230, 2, 0), (231, 232, 2, 0), (233, 234, 2, 6), (235, 236, 2, 6), (237, 238, 2, 9), (239, 241, 2, 12), (242, 243, 2, 8), (244, 245, 2, 4), (246, 247, 2, 2), (248, 249, 2, 2), (249, 250, 3, 0), (250, 256, 22, 0), (257, 258, 2, 0), (259, 260, 2, 1), (261, 262, 2, 1), (263, 264, 2, 1), (265, 266, 2, 2), (267, 268, 2, 2), (269, 270, 2, 1), (271, 272, 2, 0), (273, 274, 2, 0), (275, 276, 2, 0), (276, 277, 3, 0), (277, 283, 22, 0), (284, 285, 2, 1), (286, 287, 2, 0), (288, 289, 2, 4), (290, 291, 2, 4), (292, 293, 2, 6), (294, 295, 2, 8), (296, 297, 2, 5), (298, 299, 2, 3), (300, 301, 2, 1), (302, 303, 2, 1), (303, 304, 3, 0), (304, 310, 22, 0), (311, 312, 2, 2), (313, 314, 2, 0), (315, 316, 2, 9), (317, 318, 2, 9), (319, 321, 2, 12), (322, 324, 2, 15), (325, 327, 2, 12), (328, 329, 2, 8), (330, 331, 2, 5), (332, 333, 2, 4), (333, 334, 3, 0), (334, 340, 22, 0), (341, 342, 2, 2), (343, 344, 2, 1), (345, 346, 2, 2), (347, 348, 2, 2), (349, 350, 2, 3), (351, 352, 2, 3), (353, 354, 2, 2), (355, 356, 2, 1), (357, 358, 2, 0), (359, 360, 2, 0), (360, 361, 3, 0)]
def tQ (k : Nat) : Int × Int × Int × Int := tTb.getD k (361, 361, 0, 0)
def tCk (q : Int × Int × Int × Int) (nx : Int) : Bool := decide (q.1 < 361) && decide (zEnd (mTxt 36) 361 900 (q.1 + 1) = q.2.1) && decide (zSkp (mTxt 36) 361 900 q.2.1 = nx) && (if q.2.2.1 = 2 then decide (bD (mTxt 36 q.1)) && decide (q.2.1 - q.1 ≤ 4) && decide (zVa (mTxt 36) q.1 (q.2.1 - q.1).toNat = q.2.2.2) else decide (¬ bD (mTxt 36 q.1)) && decide (3 ≤ q.2.2.1 ∧ q.2.2.1 ≤ 29) && decide (q.2.1 - q.1 = mLen (q.2.2.1 - 3).toNat) && (List.range (mLen (q.2.2.1 - 3).toNat).toNat).all (fun j => decide (mTxt 36 (q.1 + (j : Int)) = mTxt (q.2.2.1 - 3).toNat (j : Int))))
theorem tAll : (List.range 142).all (fun k => tCk (tQ k) (tQ (k + 1)).1) = true := by decide +kernel
theorem tCk_k {k : Nat} (h : k < 142) : tCk (tQ k) (tQ (k + 1)).1 = true := List.all_eq_true.mp tAll k (List.mem_range.mpr h)
theorem tP0 : zSkp (mTxt 36) 361 900 0 = (tQ 0).1 := by decide +kernel
theorem tCk_x {q : Int × Int × Int × Int} {nx : Int} (h : tCk q nx = true) : q.1 < 361 ∧ zEnd (mTxt 36) 361 900 (q.1 + 1) = q.2.1 ∧ zSkp (mTxt 36) 361 900 q.2.1 = nx ∧ ((q.2.2.1 = 2 ∧ bD (mTxt 36 q.1) ∧ q.2.1 - q.1 ≤ 4 ∧ zVa (mTxt 36) q.1 (q.2.1 - q.1).toNat = q.2.2.2) ∨ (q.2.2.1 ≠ 2 ∧ ¬ bD (mTxt 36 q.1) ∧ (3 ≤ q.2.2.1 ∧ q.2.2.1 ≤ 29) ∧ zIs (mTxt 36) q.1 q.2.1 (q.2.2.1 - 3).toNat)) := by
  unfold tCk at h
  rw [Bool.and_eq_true, Bool.and_eq_true, Bool.and_eq_true, decide_eq_true_eq, decide_eq_true_eq, decide_eq_true_eq] at h
  obtain ⟨⟨⟨h1, h2⟩, h3⟩, h4⟩ := h
  refine ⟨h1, h2, h3, ?_⟩
  by_cases c : q.2.2.1 = 2
  · rw [if_pos c, Bool.and_eq_true, Bool.and_eq_true, decide_eq_true_eq, decide_eq_true_eq, decide_eq_true_eq] at h4
    exact Or.inl ⟨c, h4.1.1, h4.1.2, h4.2⟩
  · rw [if_neg c, Bool.and_eq_true, Bool.and_eq_true, Bool.and_eq_true, decide_eq_true_eq, decide_eq_true_eq, decide_eq_true_eq] at h4
    obtain ⟨⟨⟨g1, g2⟩, g3⟩, g4⟩ := h4
    refine Or.inr ⟨c, g1, g2, g3, fun j j0 j1 => ?_⟩
    have g := List.all_eq_true.mp g4 j.toNat (List.mem_range.mpr (by omega))
    have g := of_decide_eq_true g
    rw [show ((j.toNat : Nat) : Int) = j by omega] at g
    exact g
theorem tP : ∀ k : Nat, k ≤ 142 → zP (mTxt 36) 361 k = (tQ k).1
  | 0, _ => tP0
  | k + 1, h => by
    obtain ⟨h1, h2, h3, -⟩ := tCk_x (tCk_k (show k < 142 by omega))
    have ih := tP k (by omega)
    have e : zP (mTxt 36) 361 (k + 1) = if zP (mTxt 36) 361 k < 361 then zSkp (mTxt 36) 361 900 (zEnd (mTxt 36) 361 900 (zP (mTxt 36) 361 k + 1)) else 361 := rfl
    rw [e, ih, if_pos h1, h2, h3]
theorem tKV : bKV (mTxt 36) 361 (fun t => (tQ t.toNat).2.2.1) (fun t => (tQ t.toNat).2.2.2) := fun t t0 => by
  by_cases c : t.toNat < 142
  · obtain ⟨h1, h2, h3, h4⟩ := tCk_x (tCk_k c)
    have hp := tP t.toNat (by omega)
    unfold zK zV zKd zVl
    rw [hp, if_pos h1, h2]
    unfold zKe zVe
    rcases h4 with ⟨g1, g2, g3, g4⟩ | ⟨g1, g2, g3, g4⟩
    · rw [if_pos g2, if_pos g3, if_pos ⟨g2, g3⟩]
      exact ⟨g1.symm, fun _ => g4⟩
    · rw [if_neg g2]
      exact ⟨(zSgn_e 27 3 _ (by decide) (by decide) g3.1 g3.2).mpr g4, fun q => absurd q g1⟩
  · have hp := tP 142 (Nat.le_refl _)
    have hN : zP (mTxt 36) 361 t.toNat = 361 := by
      have h9 := zP_N (tx := mTxt 36) (N := 361) (k := 142) (hp.trans (show (tQ 142).1 = 361 by decide +kernel)) (t.toNat - 142)
      rw [show 142 + (t.toNat - 142) = t.toNat by omega] at h9
      exact h9
    have hq : tQ t.toNat = (361, 361, 0, 0) := by
      unfold tQ
      have hl : tTb.length = 142 := by decide +kernel
      rw [List.getD_eq_getElem?_getD, List.getElem?_eq_none (by omega)]
      rfl
    have e1 : zK (mTxt 36) 361 t = 0 := by
      unfold zK zKd
      rw [hN, if_neg (by omega)]
    dsimp only
    rw [hq, e1]
    exact ⟨rfl, fun q => by have q : (0 : Int) = 2 := q; omega⟩
theorem tTop : (qTop (mTxt 36) 361).1 = 1 := bTop_p tKV (by decide +kernel) (by decide +kernel) (by decide +kernel)
