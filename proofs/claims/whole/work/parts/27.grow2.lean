/-! A run of the small machine only makes cells. -/
def mNgI (q : mJ) : Bool := match q.2.1 with
  | .new _ => decide (0 ≤ q.2.2.2.1)
  | _ => true
theorem mNg_all : mTabs.all (fun t => t.all (fun b => b.2.1.all mNgI)) = true := by decide +kernel
theorem mNgI_ok {q : mJ} (h : mNgI q = true) : 0 ≤ q.2.2.2.1 ∨ ∀ v, q.2.1 ≠ .new v := by
  unfold mNgI at h
  split at h
  · exact Or.inl (of_decide_eq_true h)
  · rename_i hn
    exact Or.inr hn
theorem mFind_in {pc : Nat} {b : List mJ × Nat} : ∀ {l : List (Nat × List mJ × Nat)}, mFind pc l = some b → (pc, b) ∈ l
  | [], h => by cases h
  | q :: l, h => by
    unfold mFind at h
    cases hq : Nat.beq q.1 pc with
    | true =>
      rw [hq] at h
      have e1 : q.1 = pc := Nat.eq_of_beq_eq_true hq
      have e2 : q.2 = b := Option.some.inj h
      rw [← e1, ← e2]
      exact List.mem_cons_self
    | false =>
      rw [hq] at h
      exact List.mem_cons_of_mem _ (mFind_in h)
theorem mTabOf_in {b : Nat × List mJ × Nat} : ∀ {m : Nat} {l : List (List (Nat × List mJ × Nat))}, b ∈ mTabOf m l → mTabOf m l ∈ l
  | 0, [], h => by simp [mTabOf] at h
  | m + 1, [], h => by simp [mTabOf] at h
  | 0, q :: l, h => List.mem_cons_self
  | m + 1, q :: l, h => List.mem_cons_of_mem _ (mTabOf_in (m := m) (l := l) (b := b) h)
theorem mCode_new {m pc nx : Nat} {is : List mJ} (h : mCode m pc = some (is, nx)) : ∀ q ∈ is, 0 ≤ q.2.2.2.1 ∨ ∀ v, q.2.1 ≠ .new v := by
  intro q hq
  have h1 := mFind_in h
  have h2 := List.all_eq_true.mp mNg_all _ (mTabOf_in h1)
  have h3 := List.all_eq_true.mp h2 _ h1
  exact mNgI_ok (List.all_eq_true.mp h3 q hq)
def mGrC (call : mK) : Prop := ∀ (y : Nat) (a : List mV) (I : mN) (S : mH) (Q : mQ), call y a I S Q → call y a I S (fun r I' S' => Q r I' S' ∧ mLe S S')
theorem mGr_wp {call : mK} (hc : mMono call) (hg : mGrC call) {m nx : Nat} {Q : mQ} {S1 : mH} {X X' : Nat → mC → Prop} (hX : ∀ t c, X t c → mLe S1 c.2.2.2 → X' t c) : ∀ (is : List mJ) (c : mC), (∀ q ∈ is, 0 ≤ q.2.2.2.1 ∨ ∀ v, q.2.1 ≠ .new v) → mLe S1 c.2.2.2 → mWp call m nx X Q is c → mWp call m nx X' (fun r I' S' => Q r I' S' ∧ mLe S1 S') is c
  | [], c, _, hl, h => hX _ _ h hl
  | q :: is, c, hn, hl, h => by
    have ih := mGr_wp (call := call) (m := m) (nx := nx) (Q := Q) (S1 := S1) (X := X) (X' := X') hc hg hX is
    have hn2 : ∀ q ∈ is, 0 ≤ q.2.2.2.1 ∨ ∀ v, q.2.1 ≠ .new v := fun q hq => hn q (List.mem_cons_of_mem _ hq)
    have hg1 := mGr_do q c (hn q List.mem_cons_self)
    have h : mAct call m q.1 X Q (mWp call m nx X Q is) (mDo q c) := h
    show mAct call m q.1 X' (fun r I' S' => Q r I' S' ∧ mLe S1 S') (mWp call m nx X' (fun r I' S' => Q r I' S' ∧ mLe S1 S') is) (mDo q c)
    generalize mDo q c = ef at h hg1
    rcases ef with ⟨p, c'⟩ | ⟨p, t, c'⟩ | ⟨t, c'⟩ | ⟨p, y, args, ls, st, I, S⟩ | ⟨p, r, I, S⟩ | ⟨x, lo, d, ts, c'⟩
    · exact ⟨h.1, ih _ hn2 (mLe_t hl (hg1 h.1)) h.2⟩
    · exact ⟨fun z => hX _ _ (h.1 z) (mLe_t hl hg1), fun z => ih _ hn2 (mLe_t hl hg1) (h.2 z)⟩
    · exact hX _ _ h (mLe_t hl hg1)
    · have hl1 : mLe S1 S := mLe_t hl hg1
      refine ⟨h.1, hc _ _ _ _ _ _ (fun r I' S' hz => ?_) (hg _ _ _ _ _ h.2)⟩
      obtain ⟨hz, hle⟩ := hz
      have hl2 : mLe S1 S' := mLe_t hl1 hle
      unfold mAft at hz ⊢
      rcases r with v | e'
      · rcases v with _ | v
        · exact ih _ hn2 hl2 hz
        · exact ih _ hn2 hl2 hz
      · dsimp only at hz ⊢
        cases hh : mHnd m q.1 e' with
        | none => rw [hh] at hz; exact ⟨hz, hl2⟩
        | some t => rw [hh] at hz; exact hX _ _ hz hl2
    · exact ⟨h.1, h.2, mLe_t hl (hg1 h.1)⟩
    · exact ⟨fun z => hX _ _ (h.1 z) (mLe_t hl hg1), fun k hk z => hX _ _ (h.2 k hk z) (mLe_t hl hg1)⟩
theorem mGr_at {call : mK} (hc : mMono call) (hg : mGrC call) {m pc : Nat} {c : mC} {Q : mQ} (h : mAt call m pc c Q) : ∀ S1 : mH, mLe S1 c.2.2.2 → mAt call m pc c (fun r I' S' => Q r I' S' ∧ mLe S1 S') := by
  refine h (fun pc c => ∀ S1 : mH, mLe S1 c.2.2.2 → mAt call m pc c (fun r I' S' => Q r I' S' ∧ mLe S1 S')) (fun pc c hb S1 hl => ?_)
  refine mAt_fold hc ?_
  unfold mBlk at hb ⊢
  cases hh : mCode m pc with
  | none => rw [hh] at hb; exact hb
  | some b =>
    obtain ⟨is, nx⟩ := b
    rw [hh] at hb
    exact mGr_wp hc hg (fun t c hx hl => hx S1 hl) is c (mCode_new hh) hl hb
theorem mGrow : ∀ D : Nat, mGrC (mRun D)
  | 0, _, _, _, _, _, h => h.elim
  | D + 1, y, a, I, S, Q, h => ⟨h.1, mGr_at (mRun_mono D) (mGrow D) h.2 S (mLe_r S)⟩
/-- what a call comes to: one outcome, no cell less -/
theorem mRun_out {D y : Nat} {a : List mV} {I : mN} {S : mH} {Q : mQ} (h : mRun D y a I S Q) : ∃ r I' S', Q r I' S' ∧ mLe S S' ∧ mRun D y a I S (mOne r I' S') := by
  obtain ⟨r, I', S', h1, h2⟩ := mRun_det D _ _ _ _ _ (mGrow D _ _ _ _ _ h)
  exact ⟨r, I', S', h1.1, h1.2, h2⟩
