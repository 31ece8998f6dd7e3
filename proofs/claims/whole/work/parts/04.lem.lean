
/-! The small machine's rules: monotone, the least fixed point unfolds, one outcome; a rule an instruction. -/
theorem mAft_mono {m pc : Nat} {ls : mM} {st : List mV} {X X' : Nat → mC → Prop} {Q Q' : mQ} {rest rest' : mC → Prop} (hX : ∀ t c, X t c → X' t c) (hQ : ∀ r I S, Q r I S → Q' r I S) (hr : ∀ c, rest c → rest' c) (r : mZ) (I : mN) (S : mH) (h : mAft m pc ls st X Q rest r I S) : mAft m pc ls st X' Q' rest' r I S := by
  unfold mAft at h ⊢
  cases r with
  | inl v => cases v with
    | none => exact hr _ h
    | some v => exact hr _ h
  | inr e =>
    dsimp only at h ⊢
    cases hh : mHnd m pc e with
    | none => rw [hh] at h; exact hQ _ _ _ h
    | some t => rw [hh] at h; exact hX _ _ h
def mMono (call : mK) : Prop := ∀ (y : Nat) (a : List mV) (I : mN) (S : mH) (q q' : mQ), (∀ r I S, q r I S → q' r I S) → call y a I S q → call y a I S q'
theorem mAct_mono {call call' : mK} {m pc : Nat} {X X' : Nat → mC → Prop} {Q Q' : mQ} {rest rest' : mC → Prop} (hc : ∀ (y : Nat) (a : List mV) (I : mN) (S : mH) (q q' : mQ), (∀ r I S, q r I S → q' r I S) → call y a I S q → call' y a I S q') (hX : ∀ t c, X t c → X' t c) (hQ : ∀ r I S, Q r I S → Q' r I S) (hr : ∀ c, rest c → rest' c) (e : mE) (h : mAct call m pc X Q rest e) : mAct call' m pc X' Q' rest' e := by
  rcases e with ⟨p, c⟩ | ⟨p, t, c⟩ | ⟨t, c⟩ | ⟨p, y, args, ls, st, I, S⟩ | ⟨p, r, I, S⟩ | ⟨x, lo, d, ts, c⟩
  · exact ⟨h.1, hr _ h.2⟩
  · exact ⟨fun z => hX _ _ (h.1 z), fun z => hr _ (h.2 z)⟩
  · exact hX _ _ h
  · exact ⟨h.1, hc _ _ _ _ _ _ (mAft_mono hX hQ hr) h.2⟩
  · exact ⟨h.1, hQ _ _ _ h.2⟩
  · exact ⟨fun z => hX _ _ (h.1 z), fun k hk z => hX _ _ (h.2 k hk z)⟩
theorem mWp_mono {call call' : mK} {m nx : Nat} {X X' : Nat → mC → Prop} {Q Q' : mQ} (hc : ∀ (y : Nat) (a : List mV) (I : mN) (S : mH) (q q' : mQ), (∀ r I S, q r I S → q' r I S) → call y a I S q → call' y a I S q') (hX : ∀ t c, X t c → X' t c) (hQ : ∀ r I S, Q r I S → Q' r I S) : ∀ (is : List mJ) (c : mC), mWp call m nx X Q is c → mWp call' m nx X' Q' is c
  | [], c, h => hX _ _ h
  | q :: is, c, h => mAct_mono hc hX hQ (mWp_mono hc hX hQ is) _ h
theorem mBlk_mono {call call' : mK} {m : Nat} {X X' : Nat → mC → Prop} {Q Q' : mQ} (hc : ∀ (y : Nat) (a : List mV) (I : mN) (S : mH) (q q' : mQ), (∀ r I S, q r I S → q' r I S) → call y a I S q → call' y a I S q') (hX : ∀ t c, X t c → X' t c) (hQ : ∀ r I S, Q r I S → Q' r I S) (pc : Nat) (c : mC) (h : mBlk call m X Q pc c) : mBlk call' m X' Q' pc c := by
  unfold mBlk at h ⊢
  cases hh : mCode m pc with
  | none => rw [hh] at h; exact h
  | some b => rw [hh] at h; exact mWp_mono hc hX hQ _ _ h
theorem mAt_fold {call : mK} (hc : mMono call) {m pc : Nat} {c : mC} {Q : mQ} (h : mBlk call m (fun pc c => mAt call m pc c Q) Q pc c) : mAt call m pc c Q :=
  fun X hX => hX _ _ (mBlk_mono hc (fun _ _ z => z X hX) (fun _ _ _ z => z) _ _ h)
theorem mAt_unfold {call : mK} (hc : mMono call) {m pc : Nat} {c : mC} {Q : mQ} (h : mAt call m pc c Q) : mBlk call m (fun pc c => mAt call m pc c Q) Q pc c :=
  h (fun pc c => mBlk call m (fun pc c => mAt call m pc c Q) Q pc c) (fun _ _ z => mBlk_mono hc (fun _ _ z => mAt_fold hc z) (fun _ _ _ z => z) _ _ z)
theorem mAt_mono {call call' : mK} (hc : ∀ (y : Nat) (a : List mV) (I : mN) (S : mH) (q q' : mQ), (∀ r I S, q r I S → q' r I S) → call y a I S q → call' y a I S q') {m pc : Nat} {c : mC} {Q Q' : mQ} (hQ : ∀ r I S, Q r I S → Q' r I S) (h : mAt call m pc c Q) : mAt call' m pc c Q' :=
  fun X hX => h X (fun pc c z => hX _ _ (mBlk_mono hc (fun _ _ z => z) hQ _ _ z))
theorem mRun_mono : ∀ D : Nat, mMono (mRun D)
  | 0, _, _, _, _, _, _, _, h => h
  | D + 1, _, _, _, _, _, _, hq, h => ⟨h.1, mAt_mono (mRun_mono D) hq h.2⟩
theorem mRun_le1 : ∀ (D : Nat) (y : Nat) (a : List mV) (I : mN) (S : mH) (q q' : mQ), (∀ r I S, q r I S → q' r I S) → mRun D y a I S q → mRun (D + 1) y a I S q'
  | 0, _, _, _, _, _, _, _, h => h.elim
  | D + 1, _, _, _, _, _, _, hq, h => ⟨h.1, mAt_mono (mRun_le1 D) hq h.2⟩
theorem mRun_le {D D' : Nat} (hD : D ≤ D') {y : Nat} {a : List mV} {I : mN} {S : mH} {q : mQ} (h : mRun D y a I S q) : mRun D' y a I S q := by
  obtain ⟨k, rfl⟩ := Nat.le.dest hD
  clear hD
  induction k with
  | zero => exact h
  | succ k ih => exact mRun_le1 _ _ _ _ _ _ _ (fun _ _ _ z => z) ih
/-- a method's rule used at a call -/
theorem mRun_use {D D' : Nat} {y : Nat} {a : List mV} {I : mN} {S : mH} {q q' : mQ} (h : mRun D y a I S q) (hD : D ≤ D') (hq : ∀ r I S, q r I S → q' r I S) : mRun D' y a I S q' := mRun_mono D' _ _ _ _ _ _ hq (mRun_le hD h)
theorem mAt_blk {D m pc nx : Nat} {is : List mJ} {c : mC} {Q : mQ} (h : mCode m pc = some (is, nx)) : mAt (mRun D) m pc c Q = mWp (mRun D) m nx (fun pc c => mAt (mRun D) m pc c Q) Q is c := by
  apply propext
  constructor
  · intro z
    have z1 := mAt_unfold (mRun_mono D) z
    unfold mBlk at z1
    rw [h] at z1
    exact z1
  · intro z
    refine mAt_fold (mRun_mono D) ?_
    unfold mBlk
    rw [h]
    exact z
-- one outcome
abbrev mOne (r : mZ) (I : mN) (S : mH) : mQ := fun r' I' S' => r' = r ∧ I' = I ∧ S' = S
def mDet (call : mK) : Prop := ∀ (y : Nat) (a : List mV) (I : mN) (S : mH) (q : mQ), call y a I S q → ∃ r I' S', q r I' S' ∧ call y a I S (mOne r I' S')
theorem mAct_det {call : mK} (hd : mDet call) (hm : mMono call) {m pc : Nat} {X : Nat → mC → Prop} {XO : mZ → mN → mH → Nat → mC → Prop} {Q : mQ} {rest : mC → Prop} {restO : mZ → mN → mH → mC → Prop}
    (hX : ∀ t c, X t c → ∃ r I S, Q r I S ∧ XO r I S t c) (hr : ∀ c, rest c → ∃ r I S, Q r I S ∧ restO r I S c) (e : mE) (h : mAct call m pc X Q rest e) :
    ∃ r I S, Q r I S ∧ mAct call m pc (XO r I S) (mOne r I S) (restO r I S) e := by
  rcases e with ⟨p, c⟩ | ⟨p, t, c⟩ | ⟨t, c⟩ | ⟨p, y, args, ls, st, I, S⟩ | ⟨p, r, I, S⟩ | ⟨x, lo, d, ts, c⟩
  · obtain ⟨r, I, S, a, b⟩ := hr _ h.2
    exact ⟨r, I, S, a, h.1, b⟩
  · by_cases hp : p
    · obtain ⟨r, I, S, a, b⟩ := hX _ _ (h.1 hp)
      exact ⟨r, I, S, a, fun _ => b, fun z => absurd hp z⟩
    · obtain ⟨r, I, S, a, b⟩ := hr _ (h.2 hp)
      exact ⟨r, I, S, a, fun z => absurd z hp, fun _ => b⟩
  · obtain ⟨r, I, S, a, b⟩ := hX _ _ h
    exact ⟨r, I, S, a, b⟩
  · obtain ⟨r0, I0, S0, a0, b0⟩ := hd _ _ _ _ _ h.2
    have key : ∃ r I' S', Q r I' S' ∧ mAft m pc ls st (XO r I' S') (mOne r I' S') (restO r I' S') r0 I0 S0 := by
      unfold mAft at a0 ⊢
      cases r0 with
      | inl v => cases v with
        | none => exact hr _ a0
        | some v => exact hr _ a0
      | inr e =>
        dsimp only at a0 ⊢
        cases hh : mHnd m pc e with
        | none => rw [hh] at a0; exact ⟨_, _, _, a0, rfl, rfl, rfl⟩
        | some t =>
          rw [hh] at a0
          exact hX _ _ a0
    obtain ⟨r, I', S', k1, k2⟩ := key
    exact ⟨r, I', S', k1, h.1, hm _ _ _ _ _ _ (fun r I S z => by obtain ⟨rfl, rfl, rfl⟩ := z; exact k2) b0⟩
  · exact ⟨r, I, S, h.2, h.1, rfl, rfl, rfl⟩
  · obtain ⟨h1, h2⟩ := h
    by_cases hx : x < lo ∨ lo + (ts.length : Nat) ≤ x
    · obtain ⟨r, I, S, a, b⟩ := hX _ _ (h1 hx)
      exact ⟨r, I, S, a, fun _ => b, fun k hk z => by omega⟩
    · obtain ⟨r, I, S, a, b⟩ := hX _ _ (h2 (x - lo).toNat (by omega) (by omega))
      exact ⟨r, I, S, a, fun z => absurd z hx, fun k hk z => by rw [show k = (x - lo).toNat by omega]; exact b⟩


def mBoth (call : mK) : Prop := ∀ (y : Nat) (a : List mV) (I : mN) (S : mH) (q1 q2 : mQ), call y a I S q1 → call y a I S q2 → call y a I S (fun r I S => q1 r I S ∧ q2 r I S)
theorem mAct_both {call : mK} (hb : mBoth call) (hm : mMono call) {m pc : Nat} {X1 X2 : Nat → mC → Prop} {Q1 Q2 : mQ} {r1 r2 : mC → Prop} (e : mE) (h1 : mAct call m pc X1 Q1 r1 e) (h2 : mAct call m pc X2 Q2 r2 e) : mAct call m pc (fun t c => X1 t c ∧ X2 t c) (fun r I S => Q1 r I S ∧ Q2 r I S) (fun c => r1 c ∧ r2 c) e := by
  rcases e with ⟨p, c⟩ | ⟨p, t, c⟩ | ⟨t, c⟩ | ⟨p, y, args, ls, st, I, S⟩ | ⟨p, r, I, S⟩ | ⟨x, lo, d, ts, c⟩
  · exact ⟨h1.1, h1.2, h2.2⟩
  · exact ⟨fun z => ⟨h1.1 z, h2.1 z⟩, fun z => ⟨h1.2 z, h2.2 z⟩⟩
  · exact ⟨h1, h2⟩
  · refine ⟨h1.1, hm _ _ _ _ _ _ ?_ (hb _ _ _ _ _ _ h1.2 h2.2)⟩
    intro r I S z
    unfold mAft at z ⊢
    cases r with
    | inl v => cases v with
      | none => exact z
      | some v => exact z
    | inr e =>
      dsimp only at z ⊢
      cases hh : mHnd m pc e with
      | none => rw [hh] at z; exact z
      | some t => rw [hh] at z; exact z
  · exact ⟨h1.1, h1.2, h2.2⟩
  · exact ⟨fun z => ⟨h1.1 z, h2.1 z⟩, fun k hk z => ⟨h1.2 k hk z, h2.2 k hk z⟩⟩
theorem mWp_both {call : mK} (hb : mBoth call) (hm : mMono call) {m nx : Nat} {X1 X2 : Nat → mC → Prop} {Q1 Q2 : mQ} : ∀ (is : List mJ) (c : mC), mWp call m nx X1 Q1 is c → mWp call m nx X2 Q2 is c → mWp call m nx (fun t c => X1 t c ∧ X2 t c) (fun r I S => Q1 r I S ∧ Q2 r I S) is c
  | [], _, h1, h2 => ⟨h1, h2⟩
  | q :: is, c, h1, h2 => mAct_mono hm (fun _ _ z => z) (fun _ _ _ z => z) (fun c z => mWp_both hb hm is c z.1 z.2) _ (mAct_both hb hm _ h1 h2)
theorem mAt_both {call : mK} (hb : mBoth call) (hm : mMono call) {m pc : Nat} {c : mC} {Q1 Q2 : mQ} (h1 : mAt call m pc c Q1) : mAt call m pc c Q2 → mAt call m pc c (fun r I S => Q1 r I S ∧ Q2 r I S) := by
  refine h1 (fun pc c => mAt call m pc c Q2 → mAt call m pc c (fun r I S => Q1 r I S ∧ Q2 r I S)) (fun pc c z1 h2 => ?_)
  have z2 := mAt_unfold hm h2
  refine mAt_fold hm ?_
  unfold mBlk at z1 z2 ⊢
  cases hh : mCode m pc with
  | none => rw [hh] at z1; exact z1.elim
  | some b =>
    rw [hh] at z1 z2
    exact mWp_mono hm (fun t c z => z.1 z.2) (fun _ _ _ z => z) _ _ (mWp_both hb hm _ _ z1 z2)
theorem mRun_both : ∀ D : Nat, mBoth (mRun D)
  | 0, _, _, _, _, _, _, h, _ => h.elim
  | D + 1, _, _, _, _, _, _, h1, h2 => ⟨h1.1, mAt_both (mRun_both D) (mRun_mono D) h1.2 h2.2⟩

theorem mWp_det {call : mK} (hd : mDet call) (hm : mMono call) {m nx : Nat} {X : Nat → mC → Prop} {XO : mZ → mN → mH → Nat → mC → Prop} {Q : mQ} (hX : ∀ t c, X t c → ∃ r I S, Q r I S ∧ XO r I S t c) : ∀ (is : List mJ) (c : mC), mWp call m nx X Q is c → ∃ r I S, Q r I S ∧ mWp call m nx (XO r I S) (mOne r I S) is c
  | [], c, h => hX _ _ h
  | q :: is, c, h => mAct_det hd hm (restO := fun r I S => mWp call m nx (XO r I S) (mOne r I S) is) hX (mWp_det hd hm hX is) _ h
theorem mAt_det {call : mK} (hd : mDet call) (hm : mMono call) {m pc : Nat} {c : mC} {Q : mQ} (h : mAt call m pc c Q) : ∃ r I S, Q r I S ∧ mAt call m pc c (mOne r I S) := by
  refine h (fun pc c => ∃ r I S, Q r I S ∧ mAt call m pc c (mOne r I S)) (fun pc c z => ?_)
  unfold mBlk at z
  cases hh : mCode m pc with
  | none => rw [hh] at z; exact z.elim
  | some b =>
    rw [hh] at z
    obtain ⟨r, I, S, a, k⟩ := mWp_det hd hm (XO := fun r I S pc c => mAt call m pc c (mOne r I S)) (fun t c z => z) b.1 c z
    refine ⟨r, I, S, a, mAt_fold hm ?_⟩
    unfold mBlk
    rw [hh]
    exact k
theorem mRun_det : ∀ D : Nat, mDet (mRun D)
  | 0, _, _, _, _, _, h => h.elim
  | D + 1, _, _, _, _, _, h => by
    obtain ⟨r, I', S', a, b⟩ := mAt_det (mRun_det D) (mRun_mono D) h.2
    exact ⟨r, I', S', a, h.1, b⟩
theorem mRun_eq {D : Nat} {y : Nat} {a : List mV} {I : mN} {S : mH} {r : mZ} {I' : mN} {S' : mH} (h : mRun D y a I S (mOne r I' S')) (Q : mQ) : mRun D y a I S Q = Q r I' S' := by
  apply propext
  constructor
  · intro z
    have h2 : mRun D y a I S (fun r2 I2 S2 => Q r2 I2 S2 ∧ mOne r I' S' r2 I2 S2) := mRun_both D _ _ _ _ _ _ z h
    obtain ⟨r3, I3, S3, ⟨h4, rfl, rfl, rfl⟩, -⟩ := mRun_det D _ _ _ _ _ h2
    exact h4
  · intro z
    exact mRun_mono D _ _ _ _ _ _ (fun r I S e => by obtain ⟨rfl, rfl, rfl⟩ := e; exact z) h

def uI (r : Option mV) (f : Int → Prop) : Prop := match r with
  | some (.inl x) => f x
  | _ => False
def uA (r : Option mV) (f : mV → Prop) : Prop := match r with
  | some (.inr (.inl x)) => f (mR x)
  | some (.inr (.inr (.inl x))) => f (mS x)
  | _ => False
def uD (r : Option mV) (f : UInt64 → Prop) : Prop := match r with
  | some (.inr (.inr (.inr (.inr (.inr x))))) => f x
  | _ => False
theorem uI_s (x : Int) (f : Int → Prop) : uI (some (.inl x)) f = f x := rfl
theorem uA_r (x : Int) (f : mV → Prop) : uA (some (.inr (.inl x))) f = f (mR x) := rfl
theorem uA_s (x : Nat) (f : mV → Prop) : uA (some (.inr (.inr (.inl x)))) f = f (mS x) := rfl
theorem uD_d (x : UInt64) (f : UInt64 → Prop) : uD (some (.inr (.inr (.inr (.inr (.inr x)))))) f = f x := rfl
theorem uI_ok {call : mK} {m pc : Nat} {X : Nat → mC → Prop} {Q : mQ} {rest : mC → Prop} (c : mC) (k : Nat) (g : Int → mC) : mAct call m pc X Q rest (lI c k fun x => eGo True (g x)) = uI (mGet c.1 k) (fun x => rest (g x)) := by
  unfold lI uI
  generalize mGet c.1 k = o
  rcases o with _ | (x | x | x | x | x | x)
  all_goals first | exact propext ⟨fun h => h.2, fun h => ⟨trivial, h⟩⟩ | exact propext ⟨fun h => h.1, fun h => h.elim⟩
theorem uA_ok {call : mK} {m pc : Nat} {X : Nat → mC → Prop} {Q : mQ} {rest : mC → Prop} (c : mC) (k : Nat) (g : mV → mC) : mAct call m pc X Q rest (lA c k fun x => eGo True (g x)) = uA (mGet c.1 k) (fun x => rest (g x)) := by
  unfold lA uA
  generalize mGet c.1 k = o
  rcases o with _ | (x | x | x | x | x | x)
  all_goals first | exact propext ⟨fun h => h.2, fun h => ⟨trivial, h⟩⟩ | exact propext ⟨fun h => h.1, fun h => h.elim⟩
theorem uD_ok {call : mK} {m pc : Nat} {X : Nat → mC → Prop} {Q : mQ} {rest : mC → Prop} (c : mC) (k : Nat) (g : UInt64 → mC) : mAct call m pc X Q rest (lD c k fun x => eGo True (g x)) = uD (mGet c.1 k) (fun x => rest (g x)) := by
  unfold lD uD
  generalize mGet c.1 k = o
  rcases o with _ | (x | x | x | x | x | x)
  all_goals first | exact propext ⟨fun h => h.2, fun h => ⟨trivial, h⟩⟩ | exact propext ⟨fun h => h.1, fun h => h.elim⟩

def mCl (call : mK) (m pc : Nat) (X : Nat → mC → Prop) (Q : mQ) (rest : mC → Prop) (y : Nat) (args : List mV) (ls : mM) (st : List mV) (I : mN) (S : mH) : Prop := mAct call m pc X Q rest (bif Nat.blt 1000 y then mLib y args (ls, st, I, S) else eCall (mCs st ≤ 8) y args (ls, st, I, S))
def mCv (call : mK) (m pc : Nat) (X : Nat → mC → Prop) (Q : mQ) (rest : mC → Prop) (y : Nat) (args : List mV) (k : Int) (ls : mM) (st : List mV) (I : mN) (S : mH) : Prop := mAct call m pc X Q rest (bif Nat.blt 1000 y then mLib y args (ls, st, I, S) else mRecv k y args (ls, st, I, S))
theorem mBlt {y : Nat} (h : y ≤ 1000) : Nat.blt 1000 y = false := by
  unfold Nat.blt
  cases hh : Nat.ble (Nat.succ 1000) y with
  | false => rfl
  | true => exact absurd (Nat.le_of_ble_eq_true hh) (by omega)
theorem mCl_own {call : mK} {m pc : Nat} {X : Nat → mC → Prop} {Q : mQ} {rest : mC → Prop} {y : Nat} {args : List mV} {ls : mM} {st : List mV} {I : mN} {S : mH} (h : y ≤ 1000) (hs : mCs st ≤ 8) : mCl call m pc X Q rest y args ls st I S = call y args I S (mAft m pc ls st X Q rest) := by
  unfold mCl
  rw [mBlt h]
  exact propext ⟨fun h => h.2, fun h => ⟨hs, h⟩⟩
theorem mCv_own {call : mK} {m pc : Nat} {X : Nat → mC → Prop} {Q : mQ} {rest : mC → Prop} {y : Nat} {args : List mV} {k x : Int} {ls : mM} {st : List mV} {I : mN} {S : mH} (h : y ≤ 1000) : mCv call m pc X Q rest y (.inr (.inl x) :: args) k ls st I S = ((S.2.1 x = k ∧ mCs st ≤ 8) ∧ call y (mR x :: args) I S (mAft m pc ls st X Q rest)) := by
  unfold mCv
  rw [mBlt h]
  rfl
theorem mCl_min {call : mK} {m pc : Nat} {X : Nat → mC → Prop} {Q : mQ} {rest : mC → Prop} {x y : Int} {ls : mM} {st : List mV} {I : mN} {S : mH} (hs : mCs st ≤ 8) : mCl call m pc X Q rest 1003 [.inl x, .inl y] ls st I S = rest (ls, mI (if x ≤ y then x else y) :: st, I, S) := propext ⟨fun h => h.2, fun h => ⟨hs, h⟩⟩
theorem mCl_copy {call : mK} {m pc : Nat} {X : Nat → mC → Prop} {Q : mQ} {rest : mC → Prop} {a sp b dp n : Int} {ls : mM} {st : List mV} {I : mN} {S : mH} : mCl call m pc X Q rest 1004 [.inr (.inl a), .inl sp, .inr (.inl b), .inl dp, .inl n] ls st I S = ((mCs st ≤ 8 ∧ S.2.1 a = 50 ∧ S.2.1 b = 50 ∧ 0 ≤ sp ∧ 0 ≤ dp ∧ 0 ≤ n ∧ sp + n ≤ S.2.2.1 a ∧ dp + n ≤ S.2.2.1 b) ∧ rest (ls, st, mUa I b (mTake (I a) (I b) sp dp n), S)) := rfl
theorem mCv_obj {call : mK} {m pc : Nat} {X : Nat → mC → Prop} {Q : mQ} {rest : mC → Prop} {x k : Int} {ls : mM} {st : List mV} {I : mN} {S : mH} (hs : mCs st ≤ 8) (hx : 0 ≤ x) : mCv call m pc X Q rest 1005 [.inr (.inl x)] k ls st I S = rest (ls, st, I, S) := propext ⟨fun h => h.2, fun h => ⟨⟨hs, hx⟩, h⟩⟩
theorem mAct_len {call : mK} {m pc : Nat} {X : Nat → mC → Prop} {Q : mQ} {rest : mC → Prop} {k : Nat} {ls : mM} {st : List mV} {I : mN} {S : mH} (hs : mCs st ≤ 8) : mAct call m pc X Q rest (mLib 1001 [.inr (.inr (.inl k))] (ls, st, I, S)) = rest (ls, mI (mLen k) :: st, I, S) := propext ⟨fun h => h.2, fun h => ⟨hs, h⟩⟩
theorem mAct_chr {call : mK} {m pc : Nat} {X : Nat → mC → Prop} {Q : mQ} {rest : mC → Prop} {k : Nat} {i : Int} {ls : mM} {st : List mV} {I : mN} {S : mH} : mAct call m pc X Q rest (mLib 1002 [.inr (.inr (.inl k)), .inl i] (ls, st, I, S)) = ((mCs st ≤ 8 ∧ 0 ≤ i ∧ i < mLen k) ∧ rest (ls, mI (mTxt k i) :: st, I, S)) := rfl
theorem mAft_v (m pc : Nat) (ls : mM) (st : List mV) (X : Nat → mC → Prop) (Q : mQ) (rest : mC → Prop) (I : mN) (S : mH) (v : mV) : mAft m pc ls st X Q rest (.inl (some v)) I S = rest (ls, v :: st, I, S) := rfl
theorem mAft_n (m pc : Nat) (ls : mM) (st : List mV) (X : Nat → mC → Prop) (Q : mQ) (rest : mC → Prop) (I : mN) (S : mH) : mAft m pc ls st X Q rest (.inl none) I S = rest (ls, st, I, S) := rfl
theorem mAft_x (m pc : Nat) (ls : mM) (st : List mV) (X : Nat → mC → Prop) (Q : mQ) (rest : mC → Prop) (I : mN) (S : mH) (e : Nat) (h : m < 371) : mAft m pc ls st X Q rest (.inr e) I S = Q (.inr e) I S := by
  unfold mAft mHnd
  dsimp only
  rw [if_pos h]
theorem mPut_0 (ls : mM) (k : Nat) (v : mV) : mPut 0 ls k v = mSet ls k v := rfl
theorem w_nil (call : mK) (m nx : Nat) (X : Nat → mC → Prop) (Q : mQ) (c : mC) : mWp call m nx X Q [] c = X nx c := rfl
theorem mGet_0 (x0 : Option mV) (l : mM) : mGet (x0 :: l) 0 = x0 := rfl
theorem mSet_0 (x0 : Option mV) (l : mM) (v : mV) : mSet (x0 :: l) 0 v = some v :: l := rfl
theorem mGet_1 (x0 x1 : Option mV) (l : mM) : mGet (x0 :: x1 :: l) 1 = x1 := rfl
theorem mSet_1 (x0 x1 : Option mV) (l : mM) (v : mV) : mSet (x0 :: x1 :: l) 1 v = x0 :: some v :: l := rfl
theorem mGet_2 (x0 x1 x2 : Option mV) (l : mM) : mGet (x0 :: x1 :: x2 :: l) 2 = x2 := rfl
theorem mSet_2 (x0 x1 x2 : Option mV) (l : mM) (v : mV) : mSet (x0 :: x1 :: x2 :: l) 2 v = x0 :: x1 :: some v :: l := rfl
theorem mGet_3 (x0 x1 x2 x3 : Option mV) (l : mM) : mGet (x0 :: x1 :: x2 :: x3 :: l) 3 = x3 := rfl
theorem mSet_3 (x0 x1 x2 x3 : Option mV) (l : mM) (v : mV) : mSet (x0 :: x1 :: x2 :: x3 :: l) 3 v = x0 :: x1 :: x2 :: some v :: l := rfl
theorem mGet_4 (x0 x1 x2 x3 x4 : Option mV) (l : mM) : mGet (x0 :: x1 :: x2 :: x3 :: x4 :: l) 4 = x4 := rfl
theorem mSet_4 (x0 x1 x2 x3 x4 : Option mV) (l : mM) (v : mV) : mSet (x0 :: x1 :: x2 :: x3 :: x4 :: l) 4 v = x0 :: x1 :: x2 :: x3 :: some v :: l := rfl
theorem mGet_5 (x0 x1 x2 x3 x4 x5 : Option mV) (l : mM) : mGet (x0 :: x1 :: x2 :: x3 :: x4 :: x5 :: l) 5 = x5 := rfl
theorem mSet_5 (x0 x1 x2 x3 x4 x5 : Option mV) (l : mM) (v : mV) : mSet (x0 :: x1 :: x2 :: x3 :: x4 :: x5 :: l) 5 v = x0 :: x1 :: x2 :: x3 :: x4 :: some v :: l := rfl
theorem mGet_6 (x0 x1 x2 x3 x4 x5 x6 : Option mV) (l : mM) : mGet (x0 :: x1 :: x2 :: x3 :: x4 :: x5 :: x6 :: l) 6 = x6 := rfl
theorem mSet_6 (x0 x1 x2 x3 x4 x5 x6 : Option mV) (l : mM) (v : mV) : mSet (x0 :: x1 :: x2 :: x3 :: x4 :: x5 :: x6 :: l) 6 v = x0 :: x1 :: x2 :: x3 :: x4 :: x5 :: some v :: l := rfl
theorem mGet_7 (x0 x1 x2 x3 x4 x5 x6 x7 : Option mV) (l : mM) : mGet (x0 :: x1 :: x2 :: x3 :: x4 :: x5 :: x6 :: x7 :: l) 7 = x7 := rfl
theorem mSet_7 (x0 x1 x2 x3 x4 x5 x6 x7 : Option mV) (l : mM) (v : mV) : mSet (x0 :: x1 :: x2 :: x3 :: x4 :: x5 :: x6 :: x7 :: l) 7 v = x0 :: x1 :: x2 :: x3 :: x4 :: x5 :: x6 :: some v :: l := rfl
theorem mGet_8 (x0 x1 x2 x3 x4 x5 x6 x7 x8 : Option mV) (l : mM) : mGet (x0 :: x1 :: x2 :: x3 :: x4 :: x5 :: x6 :: x7 :: x8 :: l) 8 = x8 := rfl
theorem mSet_8 (x0 x1 x2 x3 x4 x5 x6 x7 x8 : Option mV) (l : mM) (v : mV) : mSet (x0 :: x1 :: x2 :: x3 :: x4 :: x5 :: x6 :: x7 :: x8 :: l) 8 v = x0 :: x1 :: x2 :: x3 :: x4 :: x5 :: x6 :: x7 :: some v :: l := rfl
theorem mGet_9 (x0 x1 x2 x3 x4 x5 x6 x7 x8 x9 : Option mV) (l : mM) : mGet (x0 :: x1 :: x2 :: x3 :: x4 :: x5 :: x6 :: x7 :: x8 :: x9 :: l) 9 = x9 := rfl
theorem mSet_9 (x0 x1 x2 x3 x4 x5 x6 x7 x8 x9 : Option mV) (l : mM) (v : mV) : mSet (x0 :: x1 :: x2 :: x3 :: x4 :: x5 :: x6 :: x7 :: x8 :: x9 :: l) 9 v = x0 :: x1 :: x2 :: x3 :: x4 :: x5 :: x6 :: x7 :: x8 :: some v :: l := rfl
theorem mGet_10 (x0 x1 x2 x3 x4 x5 x6 x7 x8 x9 x10 : Option mV) (l : mM) : mGet (x0 :: x1 :: x2 :: x3 :: x4 :: x5 :: x6 :: x7 :: x8 :: x9 :: x10 :: l) 10 = x10 := rfl
theorem mSet_10 (x0 x1 x2 x3 x4 x5 x6 x7 x8 x9 x10 : Option mV) (l : mM) (v : mV) : mSet (x0 :: x1 :: x2 :: x3 :: x4 :: x5 :: x6 :: x7 :: x8 :: x9 :: x10 :: l) 10 v = x0 :: x1 :: x2 :: x3 :: x4 :: x5 :: x6 :: x7 :: x8 :: x9 :: some v :: l := rfl
theorem mGet_11 (x0 x1 x2 x3 x4 x5 x6 x7 x8 x9 x10 x11 : Option mV) (l : mM) : mGet (x0 :: x1 :: x2 :: x3 :: x4 :: x5 :: x6 :: x7 :: x8 :: x9 :: x10 :: x11 :: l) 11 = x11 := rfl
theorem mSet_11 (x0 x1 x2 x3 x4 x5 x6 x7 x8 x9 x10 x11 : Option mV) (l : mM) (v : mV) : mSet (x0 :: x1 :: x2 :: x3 :: x4 :: x5 :: x6 :: x7 :: x8 :: x9 :: x10 :: x11 :: l) 11 v = x0 :: x1 :: x2 :: x3 :: x4 :: x5 :: x6 :: x7 :: x8 :: x9 :: x10 :: some v :: l := rfl
theorem mGet_12 (x0 x1 x2 x3 x4 x5 x6 x7 x8 x9 x10 x11 x12 : Option mV) (l : mM) : mGet (x0 :: x1 :: x2 :: x3 :: x4 :: x5 :: x6 :: x7 :: x8 :: x9 :: x10 :: x11 :: x12 :: l) 12 = x12 := rfl
theorem mSet_12 (x0 x1 x2 x3 x4 x5 x6 x7 x8 x9 x10 x11 x12 : Option mV) (l : mM) (v : mV) : mSet (x0 :: x1 :: x2 :: x3 :: x4 :: x5 :: x6 :: x7 :: x8 :: x9 :: x10 :: x11 :: x12 :: l) 12 v = x0 :: x1 :: x2 :: x3 :: x4 :: x5 :: x6 :: x7 :: x8 :: x9 :: x10 :: x11 :: some v :: l := rfl
theorem mGet_13 (x0 x1 x2 x3 x4 x5 x6 x7 x8 x9 x10 x11 x12 x13 : Option mV) (l : mM) : mGet (x0 :: x1 :: x2 :: x3 :: x4 :: x5 :: x6 :: x7 :: x8 :: x9 :: x10 :: x11 :: x12 :: x13 :: l) 13 = x13 := rfl
theorem mSet_13 (x0 x1 x2 x3 x4 x5 x6 x7 x8 x9 x10 x11 x12 x13 : Option mV) (l : mM) (v : mV) : mSet (x0 :: x1 :: x2 :: x3 :: x4 :: x5 :: x6 :: x7 :: x8 :: x9 :: x10 :: x11 :: x12 :: x13 :: l) 13 v = x0 :: x1 :: x2 :: x3 :: x4 :: x5 :: x6 :: x7 :: x8 :: x9 :: x10 :: x11 :: x12 :: some v :: l := rfl

