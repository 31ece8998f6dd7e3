/-! Sums over ranges of whole numbers. -/
def sm : Nat → (Int → Int) → Int
  | 0, _ => 0
  | n + 1, f => sm n f + f (n : Int)
theorem sm_congr : ∀ {n : Nat} {f g : Int → Int}, (∀ i : Int, 0 ≤ i → i < n → f i = g i) → sm n f = sm n g
  | 0, _, _, _ => rfl
  | n + 1, f, g, h => by
    have h1 : sm n f = sm n g := sm_congr (fun i h0 h1 => h i h0 (by omega))
    have h2 : f n = g n := h n (by omega) (by omega)
    show sm n f + f n = sm n g + g n
    rw [h1, h2]
theorem sm_add : ∀ (n : Nat) (f g : Int → Int), sm n (fun i => f i + g i) = sm n f + sm n g
  | 0, _, _ => rfl
  | n + 1, f, g => by
    show sm n (fun i => f i + g i) + (f n + g n) = (sm n f + f n) + (sm n g + g n)
    rw [sm_add n f g]; omega
theorem sm_sub : ∀ (n : Nat) (f g : Int → Int), sm n (fun i => f i - g i) = sm n f - sm n g
  | 0, _, _ => rfl
  | n + 1, f, g => by
    show sm n (fun i => f i - g i) + (f n - g n) = (sm n f + f n) - (sm n g + g n)
    rw [sm_sub n f g]; omega
theorem sm_zero : ∀ {n : Nat} {f : Int → Int}, (∀ i : Int, 0 ≤ i → i < n → f i = 0) → sm n f = 0
  | 0, _, _ => rfl
  | n + 1, f, h => by
    show sm n f + f n = 0
    rw [sm_zero (fun i h0 h1 => h i h0 (by omega)), h n (by omega) (by omega)]; rfl
theorem sm_le : ∀ {n : Nat} {f g : Int → Int}, (∀ i : Int, 0 ≤ i → i < n → f i ≤ g i) → sm n f ≤ sm n g
  | 0, _, _, _ => Int.le_refl 0
  | n + 1, f, g, h => by
    have h1 : sm n f ≤ sm n g := sm_le (fun i h0 h1 => h i h0 (by omega))
    have h2 : f n ≤ g n := h n (by omega) (by omega)
    show sm n f + f n ≤ sm n g + g n
    omega
theorem sm_nonneg {n : Nat} {f : Int → Int} (h : ∀ i : Int, 0 ≤ i → i < n → 0 ≤ f i) : 0 ≤ sm n f := by
  have h1 := sm_le (n := n) (f := fun _ => 0) (g := f) h
  rw [sm_zero (n := n) (f := fun _ => 0) (fun _ _ _ => rfl)] at h1
  exact h1
theorem sm_swap : ∀ (n m : Nat) (g : Int → Int → Int), sm n (fun v => sm m (fun a => g a v)) = sm m (fun a => sm n (fun v => g a v))
  | 0, m, g => (sm_zero (fun _ _ _ => rfl)).symm
  | n + 1, m, g => by
    show sm n (fun v => sm m (fun a => g a v)) + sm m (fun a => g a n) = sm m (fun a => sm n (fun v => g a v) + g a n)
    rw [sm_swap n m g, sm_add]
/-- one place alone counts -/
theorem sm_one : ∀ {n : Nat} {f : Int → Int} {k : Int}, 0 ≤ k → k < n → (∀ i : Int, 0 ≤ i → i < n → i ≠ k → f i = 0) → sm n f = f k
  | 0, _, _, h0, h1, _ => by omega
  | n + 1, f, k, h0, h1, h => by
    show sm n f + f n = f k
    by_cases hk : k = n
    · subst hk
      rw [sm_zero (fun i g0 g1 => h i g0 (by omega) (by omega))]; omega
    · rw [sm_one h0 (by omega) (fun i g0 g1 g2 => h i g0 (by omega) g2), h n (by omega) (by omega) (by omega)]; omega
theorem sm_if {n : Nat} {f : Int → Int} {k : Int} (h0 : 0 ≤ k) (h1 : k < n) : sm n (fun i => if k = i then f i else 0) = f k := by
  rw [sm_one h0 h1 (fun i _ _ hi => if_neg (fun e => hi e.symm)), if_pos rfl]
/-- one place changes -/
theorem sm_upd {n : Nat} {f g : Int → Int} {k : Int} (h0 : 0 ≤ k) (h1 : k < n) (h : ∀ i : Int, 0 ≤ i → i < n → i ≠ k → g i = f i) : sm n g = sm n f + (g k - f k) := by
  have h2 : sm n (fun i => g i - f i) = g k - f k := sm_one h0 h1 (fun i g0 g1 g2 => by rw [h i g0 g1 g2]; omega)
  rw [sm_sub] at h2
  omega
theorem sm_pos {n : Nat} {f : Int → Int} {k : Int} (h0 : 0 ≤ k) (h1 : k < n) (h : ∀ i : Int, 0 ≤ i → i < n → 0 ≤ f i) : f k ≤ sm n f := by
  have h2 := sm_upd (f := f) (g := fun i => if i = k then 0 else f i) h0 h1 (fun i _ _ hi => if_neg hi)
  have h3 : 0 ≤ sm n (fun i => if i = k then 0 else f i) := sm_nonneg (fun i g0 g1 => by
    show 0 ≤ (if i = k then (0 : Int) else f i)
    split
    · exact Int.le_refl 0
    · exact h i g0 g1)
  try dsimp only at h2
  rw [if_pos rfl] at h2
  omega
/-! Water in a network of 48 nodes and 120 arcs: which arcs there are, from, to, room; what comes to a node of itself. -/
abbrev zNet : Type := (Int → Bool) × (Int → Int) × (Int → Int) × (Int → Int) × (Int → Int)
def zWf (N : zNet) : Prop := ∀ a : Int, 0 ≤ a → a < 120 → N.1 a = true → (0 ≤ N.2.1 a ∧ N.2.1 a < 48) ∧ (0 ≤ N.2.2.1 a ∧ N.2.2.1 a < 48) ∧ 0 ≤ N.2.2.2.1 a
/-- what arcs bring to a node, less what they take from there -/
def zIn (N : zNet) (f : Int → Int) (v : Int) : Int := sm 120 (fun a => if N.1 a = true then (if N.2.2.1 a = v then f a else 0) - (if N.2.1 a = v then f a else 0) else 0)
def zEx (N : zNet) (f : Int → Int) (v : Int) : Int := N.2.2.2.2 v + zIn N f v
def zCap (N : zNet) (f : Int → Int) : Prop := ∀ a : Int, 0 ≤ a → a < 120 → N.1 a = true → 0 ≤ f a ∧ f a ≤ N.2.2.2.1 a
def zFl (N : zNet) (f D : Int → Int) : Prop := zCap N f ∧ ∀ v : Int, 0 ≤ v → v < 48 → D v ≤ zEx N f v
/-- the sum over a set of nodes -/
def zS (χ : Int → Bool) (g : Int → Int) : Int := sm 48 (fun v => if χ v = true then g v else 0)
theorem zS_ex {N : zNet} (hw : zWf N) (χ : Int → Bool) (f : Int → Int) : zS χ (zEx N f) = zS χ N.2.2.2.2 + sm 120 (fun a => if N.1 a = true then (if χ (N.2.2.1 a) = true then f a else 0) - (if χ (N.2.1 a) = true then f a else 0) else 0) := by
  have e1 : zS χ (zEx N f) = zS χ N.2.2.2.2 + zS χ (zIn N f) := by
    unfold zS zEx
    rw [← sm_add]
    refine sm_congr (fun v _ _ => ?_)
    split <;> omega
  have e2 : zS χ (zIn N f) = sm 48 (fun v => sm 120 (fun a => if χ v = true then (if N.1 a = true then (if N.2.2.1 a = v then f a else 0) - (if N.2.1 a = v then f a else 0) else 0) else 0)) := by
    unfold zS zIn
    refine sm_congr (fun v _ _ => ?_)
    by_cases h : χ v = true
    · rw [if_pos h]
      exact sm_congr (fun a _ _ => by rw [if_pos h])
    · rw [if_neg h]
      exact (sm_zero (fun a _ _ => by rw [if_neg h])).symm
  rw [e1, e2, sm_swap]
  refine congrArg (fun z => zS χ N.2.2.2.2 + z) (sm_congr (fun a h0 h1 => ?_))
  by_cases hl : N.1 a = true
  · obtain ⟨⟨t0, t1⟩, ⟨d0, d1⟩, -⟩ := hw a h0 h1 hl
    rw [if_pos hl]
    have e3 : sm 48 (fun v => if χ v = true then (if N.1 a = true then (if N.2.2.1 a = v then f a else 0) - (if N.2.1 a = v then f a else 0) else 0) else 0) = sm 48 (fun v => (if N.2.2.1 a = v then (if χ v = true then f a else 0) else 0) - (if N.2.1 a = v then (if χ v = true then f a else 0) else 0)) := by
      refine sm_congr (fun v _ _ => ?_)
      rw [if_pos hl]
      by_cases h : χ v = true
      · simp only [if_pos h]
      · simp only [if_neg h, ite_self]; rfl
    rw [e3, sm_sub, sm_if d0 d1, sm_if t0 t1]
  · rw [if_neg hl]
    refine sm_zero (fun v _ _ => ?_)
    rw [if_neg hl, ite_self]
/-- no more can come into a set than into a full one; fx: arcs that both flows share -/
theorem zCut {N : zNet} (hw : zWf N) {χ fx : Int → Bool} {f f' : Int → Int} (hc' : zCap N f')
    (hfx : ∀ a : Int, 0 ≤ a → a < 120 → N.1 a = true → fx a = true → f' a = f a)
    (hin : ∀ a : Int, 0 ≤ a → a < 120 → N.1 a = true → fx a = false → χ (N.2.2.1 a) = true → χ (N.2.1 a) = false → f a = N.2.2.2.1 a)
    (hout : ∀ a : Int, 0 ≤ a → a < 120 → N.1 a = true → fx a = false → χ (N.2.2.1 a) = false → χ (N.2.1 a) = true → f a = 0) :
    zS χ (zEx N f') ≤ zS χ (zEx N f) := by
  rw [zS_ex hw, zS_ex hw]
  have h : sm 120 (fun a => if N.1 a = true then (if χ (N.2.2.1 a) = true then f' a else 0) - (if χ (N.2.1 a) = true then f' a else 0) else 0) ≤ sm 120 (fun a => if N.1 a = true then (if χ (N.2.2.1 a) = true then f a else 0) - (if χ (N.2.1 a) = true then f a else 0) else 0) := by
    refine sm_le (fun a h0 h1 => ?_)
    by_cases hl : N.1 a = true
    · rw [if_pos hl, if_pos hl]
      obtain ⟨c0, c1⟩ := hc' a h0 h1 hl
      cases hx : fx a with
      | true => rw [hfx a h0 h1 hl hx]; exact Int.le_refl _
      | false =>
        cases hd : χ (N.2.2.1 a) with
        | true =>
          cases ht : χ (N.2.1 a) with
          | true => simp
          | false =>
            have h9 := hin a h0 h1 hl hx hd ht
            simp; omega
        | false =>
          cases ht : χ (N.2.1 a) with
          | true =>
            have h9 := hout a h0 h1 hl hx hd ht
            simp; omega
          | false => simp
    · rw [if_neg hl, if_neg hl]; exact Int.le_refl _
  omega
def zFeas (N : zNet) (D : Int → Int) : Prop := ∃ f, zFl N f D
def zAt (D : Int → Int) (v x : Int) : Int → Int := fun u => if u = v then D u + x else D u
theorem zFeas_mono {N : zNet} {D D' : Int → Int} (h : zFeas N D) (hle : ∀ v : Int, 0 ≤ v → v < 48 → D' v ≤ D v) : zFeas N D' := by
  obtain ⟨f, hc, hf⟩ := h
  exact ⟨f, hc, fun v h0 h1 => Int.le_trans (hle v h0 h1) (hf v h0 h1)⟩
/-- a full set without spare water: no more at any of its nodes -/
theorem zFull {N : zNet} (hw : zWf N) {χ : Int → Bool} {f D : Int → Int} {v x : Int}
    (hin : ∀ a : Int, 0 ≤ a → a < 120 → N.1 a = true → χ (N.2.2.1 a) = true → χ (N.2.1 a) = false → f a = N.2.2.2.1 a)
    (hout : ∀ a : Int, 0 ≤ a → a < 120 → N.1 a = true → χ (N.2.2.1 a) = false → χ (N.2.1 a) = true → f a = 0)
    (hsp : ∀ u : Int, 0 ≤ u → u < 48 → χ u = true → zEx N f u = D u) (h0 : 0 ≤ v) (h1 : v < 48) (hv : χ v = true) (hx : 0 < x) : ¬ zFeas N (zAt D v x) := by
  intro ⟨f', hc', hf'⟩
  have h2 := zCut hw (χ := χ) (fx := fun _ => false) (f := f) hc' (fun _ _ _ _ h => by cases h) (fun a a0 a1 hl _ => hin a a0 a1 hl) (fun a a0 a1 hl _ => hout a a0 a1 hl)
  have h3 : zS χ (zAt D v x) ≤ zS χ (zEx N f') := by
    refine sm_le (fun u u0 u1 => ?_)
    split
    · exact hf' u u0 u1
    · exact Int.le_refl _
  have h4 : zS χ (zEx N f) = zS χ D := by
    refine sm_congr (fun u u0 u1 => ?_)
    by_cases hu : χ u = true
    · rw [if_pos hu, if_pos hu, hsp u u0 u1 hu]
    · rw [if_neg hu, if_neg hu]
  have h5 : zS χ (zAt D v x) = zS χ D + x := by
    have h6 := sm_upd (n := 48) (f := fun u => if χ u = true then D u else 0) (g := fun u => if χ u = true then zAt D v x u else 0) (k := v) h0 h1 (fun i _ _ hi => by unfold zAt; rw [if_neg hi])
    have h7 : zAt D v x v = D v + x := if_pos rfl
    try dsimp only at h6
    rw [if_pos hv, if_pos hv, h7] at h6
    have h8 : zS χ (zAt D v x) = sm 48 (fun u => if χ u = true then zAt D v x u else 0) := rfl
    have h9 : zS χ D = sm 48 (fun u => if χ u = true then D u else 0) := rfl
    rw [h8, h9, h6]
    omega
  omega
