/-! What a decree is worth. Kinds: 0 factor, 1 product, 4 its rest behind the value v, 2 sum, 5 its rest, 3 expression; k: the levels that are left; none: no such text, or too little fuel. -/
def zEf (tk : Int → Int) (ln wk : Int) (fl : Int → Int → Int → Int) : Nat → Nat → Nat → Int → Int → Option (Int × Int)
  | 0, _, _, _, _ => none
  | f + 1, c, k, v, i =>
    if c = 0 then
      (if zSg tk ln i = 2 then some (tk i, i + 1) else if zSg tk ln i = 17 then some (wk, i + 1) else if k = 0 then none else
        if zSg tk ln i = 4 then (zEf tk ln wk fl f 3 (k - 1) 0 (i + 1)).bind (fun p => if zSg tk ln p.2 = 5 then some (p.1, p.2 + 1) else none)
        else if zSg tk ln (i + 1) = 4 then (zEf tk ln wk fl f 3 (k - 1) 0 (i + 2)).bind (fun p =>
          if zSg tk ln i = 26 ∧ zSg tk ln p.2 = 5 then some (fl p.1 wk wk, p.2 + 1) else if zSg tk ln i = 27 ∧ zSg tk ln p.2 = 5 then some (fl p.1 0 7, p.2 + 1)
          else if (zSg tk ln i = 28 ∨ zSg tk ln i = 29) ∧ zSg tk ln p.2 = 6 then (zEf tk ln wk fl f 3 (k - 1) 0 (p.2 + 1)).bind (fun q => if zSg tk ln q.2 = 5 then some (if zSg tk ln i = 28 then (if q.1 < p.1 then q.1 else p.1) else (if p.1 < q.1 then q.1 else p.1), q.2 + 1) else none)
          else none)
        else none)
    else if c = 1 then (zEf tk ln wk fl f 0 k 0 i).bind (fun p => zEf tk ln wk fl f 4 k p.1 p.2)
    else if c = 4 then (if zSg tk ln i = 9 then (zEf tk ln wk fl f 0 k 0 (i + 1)).bind (fun p => zEf tk ln wk fl f 4 k (mWrap (v * p.1)) p.2) else if zSg tk ln i = 10 then (zEf tk ln wk fl f 0 k 0 (i + 1)).bind (fun p => zEf tk ln wk fl f 4 k (if p.1 = 0 then 0 else mWrap (v.tdiv p.1)) p.2) else some (v, i))
    else if c = 2 then (zEf tk ln wk fl f 1 k 0 i).bind (fun p => zEf tk ln wk fl f 5 k p.1 p.2)
    else if c = 5 then (if zSg tk ln i = 7 then (zEf tk ln wk fl f 1 k 0 (i + 1)).bind (fun p => zEf tk ln wk fl f 5 k (mWrap (v + p.1)) p.2) else if zSg tk ln i = 8 then (zEf tk ln wk fl f 1 k 0 (i + 1)).bind (fun p => zEf tk ln wk fl f 5 k (mWrap (v - p.1)) p.2) else some (v, i))
    else if zSg tk ln i = 23 then (if k = 0 then none else (zEf tk ln wk fl f 2 (k - 1) 0 (i + 1)).bind (fun l =>
      if zSg tk ln l.2 = 11 ∨ zSg tk ln l.2 = 12 ∨ zSg tk ln l.2 = 13 then (zEf tk ln wk fl f 2 (k - 1) 0 (l.2 + 1)).bind (fun r =>
        if zSg tk ln r.2 = 24 then (zEf tk ln wk fl f 3 (k - 1) 0 (r.2 + 1)).bind (fun y =>
          if zSg tk ln y.2 = 25 then (zEf tk ln wk fl f 3 (k - 1) 0 (y.2 + 1)).bind (fun z => some (if zHo l.1 (zSg tk ln l.2) r.1 = 1 then y.1 else z.1, z.2)) else none) else none) else none))
    else zEf tk ln wk fl f 2 k 0 i
theorem zSg_in {tk : Int → Int} {ln i x : Int} (h : zSg tk ln i = x) (hx : x ≠ 0) : i < ln ∧ i < 60 := by
  unfold zSg at h
  by_cases h9 : ln ≤ i ∨ 60 ≤ i
  · rw [if_pos h9] at h; exact absurd h.symm hx
  · omega
def zLe (a b : Option (Int × Int)) : Prop := ∀ r : Int × Int, a = some r → b = some r
theorem zLe_bind {a b : Option (Int × Int)} {g h : Int × Int → Option (Int × Int)} (h1 : zLe a b) (h2 : ∀ p, zLe (g p) (h p)) : zLe (a.bind g) (b.bind h) := fun r hr => by
  cases a with
  | none => cases hr
  | some p => rw [h1 p rfl]; exact h2 p r hr
theorem zLe_ite {c : Prop} [Decidable c] {a b a' b' : Option (Int × Int)} (h1 : zLe a a') (h2 : zLe b b') : zLe (if c then a else b) (if c then a' else b') := by
  by_cases h : c
  · rw [if_pos h, if_pos h]; exact h1
  · rw [if_neg h, if_neg h]; exact h2
theorem zLe_r {a : Option (Int × Int)} : zLe a a := fun _ h => h
/-- more fuel changes nothing -/
theorem zEf_mono {tk : Int → Int} {ln wk : Int} {fl : Int → Int → Int → Int} : ∀ (f c k : Nat) (v i : Int), zLe (zEf tk ln wk fl f c k v i) (zEf tk ln wk fl (f + 1) c k v i)
  | 0, _, _, _, _ => fun _ h => by cases h
  | f + 1, c, k, v, i => by
    have ih := zEf_mono (tk := tk) (ln := ln) (wk := wk) (fl := fl) f
    rw [zEf, zEf.eq_def tk ln wk fl (f + 1 + 1)]
    dsimp only
    repeat first | exact zLe_r | exact ih _ _ _ _ | refine zLe_ite ?_ ?_ | refine zLe_bind ?_ (fun p => ?_)
theorem zEf_le {tk : Int → Int} {ln wk : Int} {fl : Int → Int → Int → Int} {c k : Nat} {v i : Int} {r : Int × Int} : ∀ (d f : Nat), zEf tk ln wk fl f c k v i = some r → zEf tk ln wk fl (f + d) c k v i = some r
  | 0, _, h => h
  | d + 1, f, h => zEf_mono (f + d) c k v i r (zEf_le d f h)
theorem zEf_uniq {tk : Int → Int} {ln wk : Int} {fl : Int → Int → Int → Int} {c k : Nat} {v i : Int} {r r' : Int × Int} {f f' : Nat} (h : zEf tk ln wk fl f c k v i = some r) (h' : zEf tk ln wk fl f' c k v i = some r') : r = r' := by
  have h1 := zEf_le f' f h
  have h2 := zEf_le f f' h'
  rw [Nat.add_comm] at h2
  exact Option.some.inj (h1.symm.trans h2)
