/-! A state: 1395 cells; what they say. -/
abbrev sT : Type := Int → Int
def sFr (σ : sT) : Int → Int := fun c => if c < 9 then (if c < σ 2 then σ (16 + 11 * c) else -1) else if c - 9 < σ 1 then c - 9 else -1
def sTo (σ : sT) : Int → Int := fun c => if c < 9 then (if c < σ 2 then σ (17 + 11 * c) else -1) else if c - 9 < σ 1 then c - 9 else -1
def sTm (σ : sT) : Int → Int := fun c => if c < 9 then σ (18 + 11 * c) else 1
def sRm (σ : sT) : Int → Int := fun a => if a < 72 then σ (19 + 11 * (a / 8) + a % 8) else σ (4 + 2 * (a / 8 - 9))
def sSu (σ : sT) (s : Int) : Int → Int := fun v => if σ 1 ≤ v / 8 ∨ v % 8 < σ 0 then 0 else σ (115 + 48 * s + v) + (if v % 8 = σ 0 then σ (5 + 2 * (v / 8)) else 0) + σ (1019 + v)
def sNet (σ : sT) (s : Int) : zNet := zN (σ 0) (sFr σ) (sTo σ) (sTm σ) (sRm σ) (sSu σ s)
abbrev sYr (σ : sT) : Int → Int := fun i => σ (260 + 76 * i)
abbrev sRt (σ : sT) : Int → Int := fun i => σ (263 + 76 * i)
abbrev sPo (σ : sT) : Int → Int := fun i => σ (259 + 76 * i)
abbrev sRk (σ : sT) : Int → Int := fun j => zRank (σ 3).toNat (sYr σ) (sRt σ) j
/-- a token of the model as a token of the component -/
def cTk (t : Int) : Int := if t < 10000 then t else if t < 10010 then 9996 - t else if t < 10013 then 9987 - t else if t = 10013 then -17 else 9988 - t
def sTk (σ : sT) (r : Int) : Int → Int := fun k => cTk (σ (275 + 76 * r + k))
def sFl (σ : sT) (s : Int) : Int → Int → Int → Int := fun p x y => if 0 ≤ p ∧ p < σ 1 then sm 8 (fun t => if x ≤ t ∧ t ≤ y then σ (115 + 48 * s + 8 * p + t) else 0) else 0
/-- a row of tokens is a decree -/
def sDc (tk : Int → Int) (ln : Int) : Prop := ∃ (f : Nat) (x : Int), zEf tk ln 0 (fun _ _ _ => 0) f 3 8 0 0 = some (x, ln)
/-- what it is worth -/
noncomputable def sVl (σ : sT) (s r w : Int) : Int := Classical.epsilon (fun v : Int => ∃ f : Nat, zEf (sTk σ r) (σ (266 + 76 * r)) w (sFl σ s) f 3 8 0 0 = some (v, σ (266 + 76 * r)))
noncomputable def sAk (σ : sT) (s r w : Int) : Int := if w < σ 0 then σ (1147 + 8 * r + w) else zAkd (σ (265 + 76 * r)) (σ (262 + 76 * r)) (σ (266 + 76 * r)) (σ (267 + 76 * r + w)) (sVl σ s r w)
def sPlan (σ : sT) (s : Int) (am : Int → Int → Int) : Prop := zPlan (sNet σ s) (σ 3).toNat (σ 0) (sRk σ) (sPo σ) (sAk σ s) am
noncomputable def sPl (σ : sT) (s : Int) : Int → Int → Int := Classical.epsilon (sPlan σ s)
noncomputable def sAm (σ : sT) (s r w : Int) : Int := if 0 ≤ r ∧ r < σ 3 then (if w < σ 0 then σ (1067 + 8 * r + w) else sPl σ s r w) else 0
noncomputable def sDm (σ : sT) (k w : Int) : Int → Int := zD (σ 3).toNat (σ 0) (sRk σ) (sPo σ) (sAm σ 0) k w
noncomputable def sWy (σ : sT) : Int → Int := Classical.epsilon (zWay (sNet σ 0) (sDm σ (σ 3) (σ 0)))
/-- what a reach sends, stored, ran off -/
noncomputable def sSe (σ : sT) (r w : Int) : Int := if w < σ 0 then σ (1227 + 8 * r + w) else if (sNet σ 0).1 (r * 8 + w) = true then sWy σ (r * 8 + w) else 0
noncomputable def sBs (σ : sT) (p w : Int) : Int := sSu σ 0 (p * 8 + w) + sm (σ 2).toNat (fun r => if σ (17 + 11 * r) = p ∧ σ 0 ≤ w - σ (18 + 11 * r) then sSe σ r (w - σ (18 + 11 * r)) else 0) - (sm (σ 3).toNat (fun r => if σ (259 + 76 * r) = p then sAm σ 0 r w else 0) + sm (σ 2).toNat (fun r => if σ (16 + 11 * r) = p then sSe σ r w else 0))
noncomputable def sLp (σ : sT) (p w : Int) : Int := zL (sBs σ p) (σ (4 + 2 * p)) (σ 0) (w - σ 0).toNat
noncomputable def sSt (σ : sT) (p w : Int) : Int := if w < σ 0 then σ (1299 + 8 * p + w) else if w = σ 0 then σ (5 + 2 * p) else zMn (sLp σ p (w - 1)) (σ (4 + 2 * p))
noncomputable def sRa (σ : sT) (p w : Int) : Int := if w < σ 0 then σ (1347 + 8 * p + w) else sLp σ p w - zMn (sLp σ p w) (σ (4 + 2 * p))
/-- the witness of an amount: the nodes that could give it one more, were one more there -/
def sWt (σ : sT) (r w v : Int) : Prop := zFeas (sNet σ 0) (zAt (zAt (sDm σ (sRk σ r) (w + 1)) (8 * σ (259 + 76 * r) + w) 1) v (-1))
/-- what holds of every state -/
def sWf (σ : sT) : Prop := ((0 ≤ σ 0 ∧ σ 0 ≤ 8) ∧ (0 ≤ σ 1 ∧ σ 1 ≤ 6) ∧ (0 ≤ σ 2 ∧ σ 2 ≤ 9) ∧ 0 ≤ σ 3 ∧ σ 3 ≤ 10) ∧
  (∀ p : Int, 0 ≤ p → p < 6 → (0 ≤ σ (4 + 2 * p) ∧ σ (4 + 2 * p) ≤ 60) ∧ (0 ≤ σ (5 + 2 * p) ∧ σ (5 + 2 * p) ≤ 1000) ∧ (∀ j : Int, 0 ≤ j → j < 8 → 0 ≤ σ (1299 + 8 * p + j) ∧ σ (1299 + 8 * p + j) ≤ 1000) ∧ ∀ s j : Int, 0 ≤ s → s < 3 → 0 ≤ j → j < 8 → 0 ≤ σ (115 + 48 * s + 8 * p + j) ∧ σ (115 + 48 * s + 8 * p + j) ≤ 40) ∧
  (∀ r : Int, 0 ≤ r → r < 9 → (0 ≤ σ (18 + 11 * r) ∧ σ (18 + 11 * r) ≤ 2) ∧ ∀ j : Int, 0 ≤ j → j < 8 → (0 ≤ σ (19 + 11 * r + j) ∧ σ (19 + 11 * r + j) ≤ 51) ∧ 0 ≤ σ (1227 + 8 * r + j) ∧ σ (1227 + 8 * r + j) ≤ 1000) ∧
  (∀ r : Int, 0 ≤ r → r < σ 2 → (0 ≤ σ (16 + 11 * r) ∧ σ (16 + 11 * r) < σ 1) ∧ (0 ≤ σ (17 + 11 * r) ∧ σ (17 + 11 * r) < σ 1) ∧ σ (16 + 11 * r) ≠ σ (17 + 11 * r)) ∧
  (∀ i : Int, 0 ≤ i → i < σ 3 → (0 ≤ σ (259 + 76 * i) ∧ σ (259 + 76 * i) < σ 1) ∧ (1800 ≤ σ (260 + 76 * i) ∧ σ (260 + 76 * i) ≤ 2099) ∧ (0 ≤ σ (261 + 76 * i) ∧ σ (261 + 76 * i) ≤ 9) ∧ (-1000 ≤ σ (262 + 76 * i) ∧ σ (262 + 76 * i) ≤ 1000000) ∧ (0 ≤ σ (263 + 76 * i) ∧ σ (263 + 76 * i) < 10) ∧ (-1 ≤ σ (264 + 76 * i) ∧ σ (264 + 76 * i) < 10) ∧ (0 ≤ σ (265 + 76 * i) ∧ σ (265 + 76 * i) ≤ 1) ∧ (0 ≤ σ (266 + 76 * i) ∧ σ (266 + 76 * i) ≤ 60) ∧ (∀ k : Int, 0 ≤ k → k < 60 → 0 ≤ σ (275 + 76 * i + k) ∧ σ (275 + 76 * i + k) ≤ 10017) ∧ (σ (266 + 76 * i) ≠ 0 → sDc (sTk σ i) (σ (266 + 76 * i))) ∧
    ∀ j : Int, 0 ≤ j → j < 8 → (0 ≤ σ (267 + 76 * i + j) ∧ σ (267 + 76 * i + j) ≤ 20) ∧ (0 ≤ σ (1067 + 8 * i + j) ∧ σ (1067 + 8 * i + j) ≤ 1000) ∧ 0 ≤ σ (1147 + 8 * i + j) ∧ σ (1147 + 8 * i + j) ≤ 1000) ∧
  (∀ p w : Int, 0 ≤ p → p < 6 → σ 0 ≤ w → w < 8 → σ (1019 + 8 * p + w) = sm (σ 2).toNat (fun r => if σ (17 + 11 * r) = p ∧ 0 ≤ w - σ (18 + 11 * r) ∧ w - σ (18 + 11 * r) < σ 0 then σ (1227 + 8 * r + (w - σ (18 + 11 * r))) else 0)) ∧
  (∀ p : Int, σ 1 ≤ p → p < 6 → σ (4 + 2 * p) = 0 ∧ σ (5 + 2 * p) = 0 ∧ ∀ j : Int, 0 ≤ j → j < 8 → σ (1299 + 8 * p + j) = 0 ∧ σ (1347 + 8 * p + j) = 0 ∧ ∀ s : Int, 0 ≤ s → s < 3 → σ (115 + 48 * s + 8 * p + j) = 0) ∧
  (∀ r : Int, σ 2 ≤ r → r < 9 → (∀ j : Int, 0 ≤ j → j < 11 → σ (16 + 11 * r + j) = 0) ∧ ∀ j : Int, 0 ≤ j → j < 8 → σ (1227 + 8 * r + j) = 0) ∧
  ∀ i : Int, σ 3 ≤ i → i < 10 → (∀ j : Int, 0 ≤ j → j < 76 → σ (259 + 76 * i + j) = 0) ∧ ∀ j : Int, 0 ≤ j → j < 8 → σ (1067 + 8 * i + j) = 0 ∧ σ (1147 + 8 * i + j) = 0
theorem zD_cg {n : Nat} {td : Int} {rk rk' pl pl' : Int → Int} {am am' : Int → Int → Int} {k w : Int} (h1 : ∀ o : Int, 0 ≤ o → o < n → rk o = rk' o) (h2 : ∀ o : Int, 0 ≤ o → o < n → pl o = pl' o) (h3 : ∀ o t : Int, 0 ≤ o → o < n → td ≤ t → 0 ≤ t → t < 8 → am o t = am' o t) : zD n td rk pl am k w = zD n td rk' pl' am' k w := by
  funext v
  unfold zD
  refine sm_congr (fun o o0 o1 => sm_congr (fun t t0 t1 => ?_))
  rw [h1 o o0 o1, h2 o o0 o1]
  by_cases c : td ≤ t ∧ (rk' o < k ∨ (rk' o = k ∧ t < w)) ∧ 8 * pl' o + t = v
  · rw [if_pos c, if_pos c, h3 o t o0 o1 c.1 t0 t1]
  · rw [if_neg c, if_neg c]
theorem zPlan_cg {N N' : zNet} (hN : zAg N N') {n : Nat} {td : Int} {rk rk' pl pl' : Int → Int} {ask ask' am am' : Int → Int → Int} (h1 : ∀ o : Int, 0 ≤ o → o < n → rk o = rk' o) (h2 : ∀ o : Int, 0 ≤ o → o < n → pl o = pl' o) (h3 : ∀ o t : Int, 0 ≤ o → o < n → td ≤ t → 0 ≤ t → t < 8 → am o t = am' o t) (h4 : ∀ o t : Int, 0 ≤ o → o < n → td ≤ t → 0 ≤ t → t < 8 → ask o t = ask' o t) (h : zPlan N n td rk pl ask am) : zPlan N' n td rk' pl' ask' am' := by
  have h9 := zAg_plan hN h
  intro o t o0 o1 t0 t1 t2
  rw [← zD_cg h1 h2 h3, ← h1 o o0 o1, ← h2 o o0 o1, ← h3 o t o0 o1 t0 t1 t2, ← h4 o t o0 o1 t0 t1 t2]
  exact h9 o t o0 o1 t0 t1 t2
theorem sPl_eq {σ : sT} {s : Int} {am : Int → Int → Int} (h : 0 ≤ σ 3) (hp : sPlan σ s am) {o t : Int} (o0 : 0 ≤ o) (o1 : o < σ 3) (t0 : σ 0 ≤ t) (t1 : 0 ≤ t) (t2 : t < 8) : am o t = sPl σ s o t := by
  have h9 : sPlan σ s (sPl σ s) := Classical.epsilon_spec ⟨am, hp⟩
  exact zPlan_uniq (fun o o' q0 q1 q2 q3 h8 => zRank_inj q0 q1 q2 q3 h8) (fun o _ _ => zRank_0) hp h9 o t o0 (by omega) t0 t1 t2
theorem sPl_plan {σ : sT} {s : Int} {am : Int → Int → Int} (hp : sPlan σ s am) : sPlan σ s (sPl σ s) := Classical.epsilon_spec ⟨am, hp⟩
theorem sAm_pl {σ : sT} {s o t : Int} (o0 : 0 ≤ o) (o1 : o < σ 3) (t0 : σ 0 ≤ t) : sAm σ s o t = sPl σ s o t := by
  unfold sAm
  rw [if_pos ⟨o0, o1⟩, if_neg (by omega)]
theorem sAm_plan {σ : sT} {s : Int} {am : Int → Int → Int} (hp : sPlan σ s am) : sPlan σ s (sAm σ s) :=
  zPlan_cg ⟨fun _ _ _ => ⟨rfl, fun _ => ⟨rfl, rfl, rfl⟩⟩, fun _ _ _ => rfl⟩ (fun _ _ _ => rfl) (fun _ _ _ => rfl) (fun o t o0 o1 t0 t1 t2 => (sAm_pl o0 (by omega) t0).symm) (fun _ _ _ _ _ _ _ => rfl) (sPl_plan hp)
theorem sAm_eq {σ : sT} {s : Int} {am : Int → Int → Int} (h : 0 ≤ σ 3) (hp : sPlan σ s am) {o t : Int} (o0 : 0 ≤ o) (o1 : o < σ 3) (t0 : σ 0 ≤ t) (t1 : 0 ≤ t) (t2 : t < 8) : sAm σ s o t = am o t := by rw [sAm_pl o0 o1 t0, sPl_eq h hp o0 o1 t0 t1 t2]
theorem sWy_eq {σ : sT} {y : Int → Int} (hw : zWay (sNet σ 0) (sDm σ (σ 3) (σ 0)) y) {a : Int} (a0 : 0 ≤ a) (a1 : a < 72) (hl : (sNet σ 0).1 a = true) : sWy σ a = y a :=
  zWay_uniq (Classical.epsilon_spec (p := zWay (sNet σ 0) (sDm σ (σ 3) (σ 0))) ⟨y, hw⟩) hw a a0 a1 hl
theorem sRk_inj {σ : sT} {o o' : Int} (h0 : 0 ≤ o) (h1 : o < σ 3) (g0 : 0 ≤ o') (g1 : o' < σ 3) (h : sRk σ o = sRk σ o') : o = o' := zRank_inj h0 (by omega) g0 (by omega) h
/-! What a decree is worth: the tokens within it and the flows alone count; where it ends depends on tokens alone. -/
theorem zSg_cg {tk tk' : Int → Int} {ln i : Int} (h : ∀ j : Int, 0 ≤ j → j < ln → j < 60 → tk j = tk' j) (i0 : 0 ≤ i) : zSg tk ln i = zSg tk' ln i := by
  unfold zSg
  by_cases c : ln ≤ i ∨ 60 ≤ i
  · rw [if_pos c, if_pos c]
  · rw [if_neg c, if_neg c, h i i0 (by omega) (by omega)]
theorem zEf_nn {tk : Int → Int} {ln wk : Int} {fl : Int → Int → Int → Int} {f c k : Nat} {v i : Int} {p : Int × Int} (i0 : 0 ≤ i) (h : zEf tk ln wk fl f c k v i = some p) : 0 ≤ p.2 := by
  have := (zEf_bw f c k v i p h).1
  omega
theorem oi_c {c : Prop} [Decidable c] {a b a' b' : Option (Int × Int)} (h1 : c → a = a') (h2 : ¬ c → b = b') : (if c then a else b) = (if c then a' else b') := by
  by_cases h : c
  · rw [if_pos h, if_pos h]; exact h1 h
  · rw [if_neg h, if_neg h]; exact h2 h
theorem zEf_cg {tk tk' : Int → Int} {ln wk : Int} {fl fl' : Int → Int → Int → Int} (h : ∀ j : Int, 0 ≤ j → j < ln → j < 60 → tk j = tk' j) (hf : ∀ p : Int, fl p wk wk = fl' p wk wk ∧ fl p 0 7 = fl' p 0 7) : ∀ (f c k : Nat) (v i : Int), 0 ≤ i → zEf tk ln wk fl f c k v i = zEf tk' ln wk fl' f c k v i
  | 0, _, _, _, _, _ => rfl
  | f + 1, c, k, v, i, i0 => by
    have ih := zEf_cg h hf f
    have hs : ∀ j : Int, 0 ≤ j → zSg tk ln j = zSg tk' ln j := fun j j0 => zSg_cg h j0
    have hb : ∀ (c k : Nat) (v j : Int) (g g' : Int × Int → Option (Int × Int)), 0 ≤ j → (∀ p : Int × Int, 0 ≤ p.2 → g p = g' p) → (zEf tk ln wk fl f c k v j).bind g = (zEf tk' ln wk fl' f c k v j).bind g' := by
      intro c k v j g g' j0 hg
      rw [← ih c k v j j0]
      cases hx : zEf tk ln wk fl f c k v j with
      | none => rfl
      | some p => exact hg p (zEf_nn j0 hx)
    have hf1 : ∀ p : Int, fl p wk wk = fl' p wk wk := fun p => (hf p).1
    have hf2 : ∀ p : Int, fl p 0 7 = fl' p 0 7 := fun p => (hf p).2
    have e2 : zSg tk' ln i = 2 → tk i = tk' i := fun h2 => by
      have := zSg_in h2 (by decide)
      exact h i i0 this.1 this.2
    rw [zEf, zEf]
    rw [hs i i0, hs (i + 1) (by omega)]
    simp only [hf1, hf2]
    repeat' first | rfl | (refine oi_c (fun hc => ?_) (fun hc => ?_)) | (refine hb _ _ _ _ _ _ (by omega) (fun p hp => ?_); try rw [hs p.2 hp]) | exact ih _ _ _ _ (by omega) | (rw [e2 hc])
def zSm (a b : Option (Int × Int)) : Prop := a.map (fun p => p.2) = b.map (fun p => p.2)
theorem zSm_bind {a b : Option (Int × Int)} {g h : Int × Int → Option (Int × Int)} (h1 : zSm a b) (h2 : ∀ p q, p.2 = q.2 → zSm (g p) (h q)) : zSm (a.bind g) (b.bind h) := by
  cases a with
  | none => cases b with
    | none => rfl
    | some q => cases h1
  | some p => cases b with
    | none => cases h1
    | some q => exact h2 p q (Option.some.inj h1)
theorem zSm_ite {c : Prop} [Decidable c] {a b a' b' : Option (Int × Int)} (h1 : zSm a a') (h2 : zSm b b') : zSm (if c then a else b) (if c then a' else b') := by
  by_cases h : c
  · rw [if_pos h, if_pos h]; exact h1
  · rw [if_neg h, if_neg h]; exact h2
theorem zSm_r {a : Option (Int × Int)} : zSm a a := rfl
theorem zSm_one {x y i : Int} : zSm (some (x, i)) (some (y, i)) := rfl
theorem zEf_sm {tk : Int → Int} {ln wk wk' : Int} {fl fl' : Int → Int → Int → Int} : ∀ (f c k : Nat) (v v' i : Int), zSm (zEf tk ln wk fl f c k v i) (zEf tk ln wk' fl' f c k v' i)
  | 0, _, _, _, _, _ => rfl
  | f + 1, c, k, v, v', i => by
    have ih := zEf_sm (tk := tk) (ln := ln) (wk := wk) (wk' := wk') (fl := fl) (fl' := fl') f
    rw [zEf, zEf]
    repeat first | exact zSm_r | exact zSm_one | exact ih _ _ _ _ _ | refine zSm_ite ?_ ?_ | (refine zSm_bind (ih _ _ _ _ _) (fun p q hpq => ?_); try rw [hpq])
/-- a decree is worth something by every scenario -/
theorem sDc_val {tk : Int → Int} {ln wk : Int} {fl : Int → Int → Int → Int} (h : sDc tk ln) : ∃ (f : Nat) (x : Int), zEf tk ln wk fl f 3 8 0 0 = some (x, ln) := by
  obtain ⟨f, x, hx⟩ := h
  have h9 : zSm (zEf tk ln 0 (fun _ _ _ => 0) f 3 8 0 0) (zEf tk ln wk fl f 3 8 0 0) := zEf_sm f 3 8 0 0 0
  rw [hx] at h9
  cases hy : zEf tk ln wk fl f 3 8 0 0 with
  | none => rw [hy] at h9; cases h9
  | some q =>
    rw [hy] at h9
    have h8 : ln = q.2 := Option.some.inj h9
    exact ⟨f, q.1, by rw [hy, h8]⟩
theorem sVl_eq {σ : sT} {s r w : Int} {f : Nat} {v : Int} (h : zEf (sTk σ r) (σ (266 + 76 * r)) w (sFl σ s) f 3 8 0 0 = some (v, σ (266 + 76 * r))) : sVl σ s r w = v := by
  have h9 : ∃ f : Nat, zEf (sTk σ r) (σ (266 + 76 * r)) w (sFl σ s) f 3 8 0 0 = some (sVl σ s r w, σ (266 + 76 * r)) := Classical.epsilon_spec (p := fun v : Int => ∃ f : Nat, zEf (sTk σ r) (σ (266 + 76 * r)) w (sFl σ s) f 3 8 0 0 = some (v, σ (266 + 76 * r))) ⟨v, f, h⟩
  obtain ⟨f', h8⟩ := h9
  have := zEf_uniq h8 h
  exact congrArg Prod.fst this
theorem sVl_spec {σ : sT} {s r w : Int} (h : sDc (sTk σ r) (σ (266 + 76 * r))) : ∃ f : Nat, zEf (sTk σ r) (σ (266 + 76 * r)) w (sFl σ s) f 3 8 0 0 = some (sVl σ s r w, σ (266 + 76 * r)) := by
  obtain ⟨f, x, hx⟩ := sDc_val (wk := w) (fl := sFl σ s) h
  exact ⟨f, by rw [sVl_eq hx]; exact hx⟩
theorem sAk_bd {σ : sT} {s r w : Int} (h : sWf σ) (r0 : 0 ≤ r) (r1 : r < σ 3) (w0 : 0 ≤ w) (w1 : w < 8) : 0 ≤ sAk σ s r w ∧ sAk σ s r w ≤ 1000 := by
  obtain ⟨-, -, -, -, h5, -⟩ := h
  obtain ⟨-, -, -, -, -, -, -, -, -, -, h6⟩ := h5 r r0 r1
  obtain ⟨⟨a0, a1⟩, -, b0, b1⟩ := h6 w w0 w1
  unfold sAk
  split
  · exact ⟨b0, b1⟩
  · unfold zAkd
    split
    · omega
    · split
      · omega
      · split
        · omega
        · split <;> omega
