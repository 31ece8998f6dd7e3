/-! The plan: amounts that are taken one after the other, each as great as it can be; there is only one. -/
theorem zac (A B x : Int) : A + (B + x - B) = A + x := by omega
section ZP
variable (n : Nat) (td : Int) (rk pl : Int → Int) (am : Int → Int → Int)
/-- what is taken at a node by the amounts ahead of place k in week w -/
def zD (k w v : Int) : Int := sm n (fun o => sm 8 (fun t => if td ≤ t ∧ (rk o < k ∨ (rk o = k ∧ t < w)) ∧ 8 * pl o + t = v then am o t else 0))
end ZP
theorem zD_step {n : Nat} {td : Int} {rk pl : Int → Int} {am : Int → Int → Int} (hinj : ∀ o o' : Int, 0 ≤ o → o < n → 0 ≤ o' → o' < n → rk o = rk o' → o = o') {o t : Int} (h0 : 0 ≤ o) (h1 : o < n) (h2 : td ≤ t) (h3 : 0 ≤ t) (h4 : t < 8) (v : Int) :
    zD n td rk pl am (rk o) (t + 1) v = zAt (zD n td rk pl am (rk o) t) (8 * pl o + t) (am o t) v := by
  have e1 : zD n td rk pl am (rk o) (t + 1) v = zD n td rk pl am (rk o) t v + (if 8 * pl o + t = v then am o t else 0) := by
    unfold zD
    rw [sm_upd (f := fun o' => sm 8 (fun t' => if td ≤ t' ∧ (rk o' < rk o ∨ (rk o' = rk o ∧ t' < t)) ∧ 8 * pl o' + t' = v then am o' t' else 0)) (k := o) h0 h1 (fun i i0 i1 hi => ?_)]
    · rw [sm_upd (f := fun t' => if td ≤ t' ∧ (rk o < rk o ∨ (rk o = rk o ∧ t' < t)) ∧ 8 * pl o + t' = v then am o t' else 0) (k := t) h3 h4 (fun i _ _ hi => ?_)]
      · have c1 : ¬ (td ≤ t ∧ (rk o < rk o ∨ (rk o = rk o ∧ t < t)) ∧ 8 * pl o + t = v) := by omega
        rw [if_neg c1]
        by_cases hv : 8 * pl o + t = v
        · rw [if_pos hv, if_pos (by omega), Int.sub_zero]; exact zac _ _ _
        · rw [if_neg hv, if_neg (by omega), Int.sub_zero]; exact zac _ _ _
      · by_cases c : td ≤ i ∧ (rk o < rk o ∨ (rk o = rk o ∧ i < t)) ∧ 8 * pl o + i = v
        · rw [if_pos c, if_pos (by omega)]
        · rw [if_neg c, if_neg (by omega)]
    · have hne : rk i ≠ rk o := fun e => hi (hinj i o i0 i1 h0 h1 e)
      refine sm_congr (fun t' _ _ => ?_)
      by_cases c : td ≤ t' ∧ (rk i < rk o ∨ (rk i = rk o ∧ t' < t)) ∧ 8 * pl i + t' = v
      · rw [if_pos c, if_pos (by omega)]
      · rw [if_neg c, if_neg (by omega)]
  rw [e1]
  unfold zAt
  by_cases hv : v = 8 * pl o + t
  · rw [if_pos hv, if_pos hv.symm]
  · rw [if_neg hv, if_neg (fun e => hv e.symm)]; omega
theorem zD_next {n : Nat} {td : Int} {rk pl : Int → Int} {am : Int → Int → Int} {k w : Int} (hw : w ≤ td) (v : Int) : zD n td rk pl am k 8 v = zD n td rk pl am (k + 1) w v := by
  unfold zD
  refine sm_congr (fun o _ _ => sm_congr (fun t _ ht => ?_))
  by_cases c : td ≤ t ∧ (rk o < k ∨ (rk o = k ∧ t < 8)) ∧ 8 * pl o + t = v
  · rw [if_pos c, if_pos (by omega)]
  · rw [if_neg c, if_neg (by omega)]
theorem zD_congr {n : Nat} {td : Int} {rk pl : Int → Int} {am am' : Int → Int → Int} {k w : Int} (h : ∀ o t : Int, 0 ≤ o → o < n → td ≤ t → 0 ≤ t → t < 8 → (rk o < k ∨ (rk o = k ∧ t < w)) → am o t = am' o t) (v : Int) : zD n td rk pl am k w v = zD n td rk pl am' k w v := by
  unfold zD
  refine sm_congr (fun o o0 o1 => sm_congr (fun t t0 t1 => ?_))
  by_cases c : td ≤ t ∧ (rk o < k ∨ (rk o = k ∧ t < w)) ∧ 8 * pl o + t = v
  · rw [if_pos c, if_pos c, h o t o0 o1 c.1 t0 t1 c.2.1]
  · rw [if_neg c, if_neg c]
theorem zD_zero {n : Nat} {td : Int} {rk pl : Int → Int} {am : Int → Int → Int} {k w : Int} (h : ∀ o : Int, 0 ≤ o → o < n → k ≤ rk o) (hw : w ≤ td) (v : Int) : zD n td rk pl am k w v = 0 := by
  unfold zD
  refine sm_zero (fun o o0 o1 => sm_zero (fun t _ _ => if_neg (fun c => ?_)))
  have := h o o0 o1
  omega
def zPlan (N : zNet) (n : Nat) (td : Int) (rk pl : Int → Int) (ask am : Int → Int → Int) : Prop := ∀ o t : Int, 0 ≤ o → o < n → td ≤ t → 0 ≤ t → t < 8 → (0 ≤ am o t ∧ am o t ≤ ask o t) ∧ zFeas N (zD n td rk pl am (rk o) (t + 1)) ∧ (am o t < ask o t → ¬ zFeas N (zAt (zD n td rk pl am (rk o) (t + 1)) (8 * pl o + t) 1))
theorem zAt_le {D D' : Int → Int} {v x y : Int} (h : ∀ u, D u = D' u) (hxy : x ≤ y) (u : Int) : zAt D v x u ≤ zAt D' v y u := by
  unfold zAt
  rw [h u]
  split <;> omega
theorem zPlan_uniq {N : zNet} {n : Nat} {td : Int} {rk pl : Int → Int} {ask am am' : Int → Int → Int} (hinj : ∀ o o' : Int, 0 ≤ o → o < n → 0 ≤ o' → o' < n → rk o = rk o' → o = o') (hrk : ∀ o : Int, 0 ≤ o → o < n → 0 ≤ rk o)
    (h : zPlan N n td rk pl ask am) (h' : zPlan N n td rk pl ask am') : ∀ o t : Int, 0 ≤ o → o < n → td ≤ t → 0 ≤ t → t < 8 → am o t = am' o t := by
  have main : ∀ (M : Nat) (o t : Int), 0 ≤ o → o < n → td ≤ t → 0 ≤ t → t < 8 → rk o * 8 + t < M → am o t = am' o t := by
    intro M
    induction M with
    | zero => intro o t o0 o1 t0 t1 t2 hM; have := hrk o o0 o1; omega
    | succ M ih =>
      intro o t o0 o1 t0 t1 t2 hM
      have hD : ∀ v, zD n td rk pl am (rk o) t v = zD n td rk pl am' (rk o) t v := zD_congr (fun o' t' a0 a1 b0 b1 b2 c => ih o' t' a0 a1 b0 b1 b2 (by omega))
      obtain ⟨⟨g1, g2⟩, g3, g4⟩ := h o t o0 o1 t0 t1 t2
      obtain ⟨⟨k1, k2⟩, k3, k4⟩ := h' o t o0 o1 t0 t1 t2
      have e1 := zD_step (pl := pl) (am := am) hinj o0 o1 t0 t1 t2
      have e2 := zD_step (pl := pl) (am := am') hinj o0 o1 t0 t1 t2
      have key : ∀ (a b : Int → Int → Int), (∀ v, zD n td rk pl a (rk o) (t + 1) v = zAt (zD n td rk pl a (rk o) t) (8 * pl o + t) (a o t) v) → (∀ v, zD n td rk pl b (rk o) (t + 1) v = zAt (zD n td rk pl b (rk o) t) (8 * pl o + t) (b o t) v) → (∀ v, zD n td rk pl a (rk o) t v = zD n td rk pl b (rk o) t v) → zFeas N (zD n td rk pl b (rk o) (t + 1)) → (a o t < ask o t → ¬ zFeas N (zAt (zD n td rk pl a (rk o) (t + 1)) (8 * pl o + t) 1)) → b o t ≤ ask o t → ¬ a o t < b o t := by
        intro a b ea eb hab hb ha hq hlt
        refine ha (by omega) (zFeas_mono hb (fun v _ _ => ?_))
        rw [eb v]
        unfold zAt
        rw [ea v]
        unfold zAt
        rw [hab v]
        split <;> omega
      have q1 := key am am' e1 e2 hD k3 g4 k2
      have q2 := key am' am e2 e1 (fun v => (hD v).symm) g3 k4 g2
      omega
  intro o t o0 o1 t0 t1 t2
  have := hrk o o0 o1
  exact main (rk o * 8 + t + 1).toNat o t o0 o1 t0 t1 t2 (by omega)
