/-! Checked instructions, fifth lot: fields written, Math.min, arraycopy, Object's constructor. -/
def mPf (y v : Nat) (k b : Int) (n : Nat) : Bool := match mClz[(k - 1).toNat]? with
  | some q => (!(q.2.1 b.toNat).2.2.2 || (Nat.blt y 371 && decide ((mNm y).name = "<init>") && decide ((q.2.1 b.toNat).1 = mCname (mOw y)))) && (match n with
    | 1 => (match mFt (q.2.1 b.toNat).2.2.1 with
      | .object _ => true
      | .array _ => true
      | _ => false)
    | _ => true)
  | none => false
theorem mFt_I : mFt "I" = .int := by decide +kernel
theorem mFt_Z : mFt "Z" = .boolean := by decide +kernel
theorem mRef_fit {v : Value} {a : Int} {ty : FieldType} (h : mRef v a) (ht : (∃ n, ty = .object n) ∨ ∃ t, ty = FieldType.array t) : narrow ty v = v ∧ fits ty v = true := by
  rcases ht with ⟨n, rfl⟩ | ⟨t, rfl⟩ <;> rcases h with ⟨-, rfl⟩ | ⟨-, rfl⟩ | ⟨-, q, rfl⟩ <;> exact ⟨rfl, rfl⟩
theorem mZ_fit {x : Int} (h : 0 ≤ x ∧ x ≤ 1) : fits .boolean (.int (mO x)) = true := by
  rcases (show x = 0 ∨ x = 1 by omega) with rfl | rfl <;> rfl
theorem mLname_min : mLname 1003 = Lib.Math.min.name := by unfold mLname; rw [mLn_eq]; rfl
theorem mLname_cpy : mLname 1004 = arraycopyName := by unfold mLname; rw [mLn_eq]; rfl
theorem mLname_obj : mLname 1005 = Lib.objectInit := by unfold mLname; rw [mLn_eq]; rfl
section NAW
variable {ρ : mRho} {p : Program} {l : Launch} {e : Env} {R : Room} {s : State} {m : MethodId} {args : Array Value} {below : List Frame} {meth : Method} {c : Code} {Qe : State → Prop} {y : Nat} {H0 : Heap} {S0 Sf : mH} {If : mN} {D mcR msR : Nat} {r : mZ}
variable {pc : Nat} {mls : mM} {mst : List mV} {I : mN} {S : mH} {rest : mC → Prop} {a n nx : Nat} {b k : Int}
theorem ar_putf {v : Nat} (C : mCx ρ p l e R s m args below meth c Qe y H0 S0 Sf D mcR msR r If) (hk : (mNx y (pc, .putfield v, a, b, k, n) 3 nx && mFd y v k b n && mPf y v k b n) = true) (hr : ∀ c', rest c' → (mPt ρ p l e R s m args below meth c Qe y H0 S0 Sf) nx c') (h : mAct (mRun D) y pc (mPt ρ p l e R s m args below meth c Qe y H0 S0 Sf) (mOne r If Sf) rest (mDo (pc, .putfield v, a, b, k, n) (mls, mst, I, S))) : (mPt ρ p l e R s m args below meth c Qe y H0 S0 Sf) pc (mls, mst, I, S) := by
  rw [Bool.and_eq_true] at hk
  obtain ⟨hk, hf⟩ := hk
  rw [Bool.and_eq_true] at hk
  obtain ⟨hk, hv⟩ := hk
  obtain ⟨hd, rfl⟩ := mNx_ok hk
  obtain ⟨q, hq, hk1, hb0, hbl, hlk, hty⟩ := mFd_ok hv
  have e9 : (((k - 1).toNat : Nat) : Int) + 1 = k := by omega
  have e8 : ((b.toNat : Nat) : Int) = b := by omega
  unfold mPf at hf
  rw [hq] at hf
  dsimp only at hf
  rw [Bool.and_eq_true] at hf
  obtain ⟨hf1, hf2⟩ := hf
  have hfin : (q.2.1 b.toNat).2.2.2 = false ∨ ((q.2.1 b.toNat).2.2.2 = true ∧ meth.name = "<init>" ∧ (q.2.1 b.toNat).1 = mCname (mOw y)) := by
    simp only [Bool.or_eq_true, Bool.and_eq_true, decide_eq_true_eq] at hf1
    cases hz : (q.2.1 b.toNat).2.2.2 with
    | false => exact Or.inl rfl
    | true =>
      rw [hz] at hf1
      rcases hf1 with hf1 | hf1
      · cases hf1
      · exact Or.inr ⟨rfl, (C.2.2.2.2.2 (Nat.le_of_ble_eq_true hf1.1.1)).trans hf1.1.2, hf1.2⟩
  have h : mAct (mRun D) y pc (mPt ρ p l e R s m args below meth c Qe y H0 S0 Sf) (mOne r If Sf) rest (mPutF k b n (mls, mst, I, S)) := h
  unfold mPutF at h
  dsimp only at h
  split at h
  · rename_i u x t _
    have h : (S.2.1 x = k ∧ (n = 0 ∨ (n = 2 ∧ 0 ≤ u ∧ u ≤ 1))) ∧ rest (mls, t, mUp I x b u, S) := h
    refine st_putf (cn := (k - 1).toNat) (k := b.toNat) (I' := mUp I x b u) (S' := S) C.1.1 C.1.2.1 C.1.2.2.2 C.2.1.1 C.2.1.2.1 hq hbl (C.2.1.1 _ hlk) (by rw [e9]; exact h.1.1) hfin hd (fun w hw => ?_) (fun z hz => mUp_a hz) (fun z _ => rfl) (fun j hj => ⟨mUp_nk (by omega), rfl⟩) rfl (hr _ h.2)
    have e7 : mUp I x b u x (b.toNat : Int) = u := mUp_eq rfl e8
    rw [e7]
    obtain ⟨hin, rfl⟩ := hw
    rcases h.1.2 with hn | hn
    · subst hn
      rcases hty with ⟨-, ht⟩ | ⟨h9, -⟩ | ⟨h9, -⟩
      · rw [ht, mFt_I]
        refine ⟨rfl, rfl, ?_⟩
        unfold mFld
        rw [if_pos rfl]
        exact ⟨hin, rfl⟩
      · cases h9
      · cases h9
    · obtain ⟨hn, hu⟩ := hn
      subst hn
      rcases hty with ⟨h9, -⟩ | ⟨h9, -⟩ | ⟨-, ht⟩
      · cases h9
      · cases h9
      · rw [ht, mFt_Z]
        refine ⟨mNar_z hu, mZ_fit hu, ?_⟩
        unfold mFld
        rw [if_neg (by decide), if_pos rfl]
        exact ⟨hu, rfl⟩
  · rename_i u x t _
    have h : (S.2.1 x = k ∧ n = 1) ∧ rest (mls, t, I, (mUp S.1 x b u, S.2)) := h
    refine st_putf (cn := (k - 1).toNat) (k := b.toNat) (I' := I) (S' := (mUp S.1 x b u, S.2)) C.1.1 C.1.2.1 C.1.2.2.2 C.2.1.1 C.2.1.2.1 hq hbl (C.2.1.1 _ hlk) (by rw [e9]; exact h.1.1) hfin hd (fun w hw => ?_) (fun z _ => rfl) (fun z hz => mUp_a hz) (fun j hj => ⟨rfl, mUp_nk (by omega)⟩) rfl (hr _ h.2)
    have e7 : mUp S.1 x b u x (b.toNat : Int) = u := mUp_eq rfl e8
    have hn := h.1.2
    subst hn
    rcases hty with ⟨h9, -⟩ | ⟨-, ht, ht2⟩ | ⟨h9, -⟩
    · cases h9
    · have hw : mRef w u := hw
      have hrt : (∃ n, mFt (q.2.1 b.toNat).2.2.1 = .object n) ∨ ∃ t, mFt (q.2.1 b.toNat).2.2.1 = FieldType.array t := by
        have hf2 : (match mFt (q.2.1 b.toNat).2.2.1 with | .object _ => true | .array _ => true | _ => false) = true := hf2
        split at hf2
        · rename_i z hz; exact Or.inl ⟨_, hz⟩
        · rename_i z hz; exact Or.inr ⟨_, hz⟩
        · cases hf2
      refine ⟨(mRef_fit hw hrt).1, (mRef_fit hw hrt).2, ?_⟩
      unfold mFld
      rw [if_neg ht, if_neg ht2]
      show mRef w (mUp S.1 x b u x (b.toNat : Int))
      rw [e7]; exact hw
    · cases h9
  · exact h.1.elim
theorem ar_min {v : Nat} (C : mCx ρ p l e R s m args below meth c Qe y H0 S0 Sf D mcR msR r If) (hk : (mNx y (pc, .invokestatic v, a, b, k, n) 3 nx && (decide (n = 2 ∧ a = 1003) && mFm mLX (mOw y) v 1003)) = true) (hr : ∀ c', rest c' → (mPt ρ p l e R s m args below meth c Qe y H0 S0 Sf) nx c') (h : mAct (mRun D) y pc (mPt ρ p l e R s m args below meth c Qe y H0 S0 Sf) (mOne r If Sf) rest (mDo (pc, .invokestatic v, a, b, k, n) (mls, mst, I, S))) : (mPt ρ p l e R s m args below meth c Qe y H0 S0 Sf) pc (mls, mst, I, S) := by
  rw [Bool.and_eq_true] at hk
  obtain ⟨hk, hv⟩ := hk
  obtain ⟨hd, rfl⟩ := mNx_ok hk
  have hRc : Sf.2.2.2.1 ≤ S0.2.2.2.1 + (R.cells : Int) := by rw [C.2.2.2.1.2.1, C.2.2.2.1.2.2.1]; exact Int.le_refl _
  have hRs : Sf.2.2.2.2 ≤ S0.2.2.2.2 + (R.slots : Int) := by rw [C.2.2.2.1.2.1, C.2.2.2.1.2.2.2]; exact Int.le_refl _
  rw [Bool.and_eq_true, decide_eq_true_eq] at hv
  obtain ⟨⟨rfl, rfl⟩, hlk⟩ := hv
  have hlink := C.2.1.1 _ (mFm_x hlk)
  rw [mLname_min] at hlink
  rcases mst with _ | ⟨w1, _ | ⟨w2, t⟩⟩
  · exact (show False ∧ _ from h).1.elim
  · exact (show False ∧ _ from h).1.elim
  · rcases w2 with w2 | w2 | w2 | w2 | w2 | w2
    · rcases w1 with w1 | w1 | w1 | w1 | w1 | w1
      · have h : mCs t ≤ 8 ∧ rest (mls, mI (if w2 ≤ w1 then w2 else w1) :: t, I, S) := h
        exact st_min C.1.1 C.1.2.1 C.1.2.2.1 C.1.2.2.2 hlink (C.2.1.1 _ (mWl_of (mW_lib _ (List.mem_of_getElem? (i := 5) rfl)))) (C.2.1.1 _ (mWl_of (mW_lib _ (List.mem_of_getElem? (i := 6) rfl)))) (C.2.1.1 _ (mWl_of (mW_lib _ (List.mem_of_getElem? (i := 7) rfl)))) (by rw [C.2.2.2.1.2.1]; show 1 ≤ D + 1 + 6; omega) (by rw [C.2.2.2.1.2.1]; show 8 + 13 ≤ 41 * (D + 1) + 278; omega) hRc hRs h.1 hd (hr _ h.2)
      all_goals exact (show False ∧ _ from h).1.elim
    all_goals exact (show False ∧ _ from h).1.elim
theorem ar_copy {v : Nat} (C : mCx ρ p l e R s m args below meth c Qe y H0 S0 Sf D mcR msR r If) (hk : (mNx y (pc, .invokestatic v, a, b, k, n) 3 nx && (decide (n = 5 ∧ a = 1004) && mFm mLX (mOw y) v 1004)) = true) (hr : ∀ c', rest c' → (mPt ρ p l e R s m args below meth c Qe y H0 S0 Sf) nx c') (h : mAct (mRun D) y pc (mPt ρ p l e R s m args below meth c Qe y H0 S0 Sf) (mOne r If Sf) rest (mDo (pc, .invokestatic v, a, b, k, n) (mls, mst, I, S))) : (mPt ρ p l e R s m args below meth c Qe y H0 S0 Sf) pc (mls, mst, I, S) := by
  rw [Bool.and_eq_true] at hk
  obtain ⟨hk, hv⟩ := hk
  obtain ⟨hd, rfl⟩ := mNx_ok hk
  have hRc : Sf.2.2.2.1 ≤ S0.2.2.2.1 + (R.cells : Int) := by rw [C.2.2.2.1.2.1, C.2.2.2.1.2.2.1]; exact Int.le_refl _
  have hRs : Sf.2.2.2.2 ≤ S0.2.2.2.2 + (R.slots : Int) := by rw [C.2.2.2.1.2.1, C.2.2.2.1.2.2.2]; exact Int.le_refl _
  rw [Bool.and_eq_true, decide_eq_true_eq] at hv
  obtain ⟨⟨rfl, rfl⟩, hlk⟩ := hv
  have hlink := C.2.1.1 _ (mFm_x hlk)
  rw [mLname_cpy] at hlink
  rcases mst with _ | ⟨w1, _ | ⟨w2, _ | ⟨w3, _ | ⟨w4, _ | ⟨w5, t⟩⟩⟩⟩⟩
  · exact (show False ∧ _ from h).1.elim
  · exact (show False ∧ _ from h).1.elim
  · exact (show False ∧ _ from h).1.elim
  · exact (show False ∧ _ from h).1.elim
  · exact (show False ∧ _ from h).1.elim
  · rcases w5 with w5 | w5 | w5 | w5 | w5 | w5
    rotate_left 1
    · rcases w4 with w4 | w4 | w4 | w4 | w4 | w4
      · rcases w3 with w3 | w3 | w3 | w3 | w3 | w3
        rotate_left 1
        · rcases w2 with w2 | w2 | w2 | w2 | w2 | w2
          · rcases w1 with w1 | w1 | w1 | w1 | w1 | w1
            · have h : (mCs t ≤ 8 ∧ S.2.1 w5 = 50 ∧ S.2.1 w3 = 50 ∧ 0 ≤ w4 ∧ 0 ≤ w2 ∧ 0 ≤ w1 ∧ w4 + w1 ≤ S.2.2.1 w5 ∧ w2 + w1 ≤ S.2.2.1 w3) ∧ rest (mls, t, mUa I w3 (mTake (I w5) (I w3) w4 w2 w1), S) := h
              obtain ⟨⟨q1, q2, q3, q4, q5, q6, q7, q8⟩, q9⟩ := h
              exact st_copy C.1.1 C.1.2.1 C.1.2.2.1 C.1.2.2.2 hlink (C.2.1.1 _ (mWl_of (mW_lib _ (List.mem_of_getElem? (i := 2) rfl)))) (C.2.1.1 _ (mWl_of (mW_lib _ (List.mem_of_getElem? (i := 3) rfl)))) (C.2.1.1 _ (mWl_of (mW_lib _ (List.mem_of_getElem? (i := 4) rfl)))) (by rw [C.2.2.2.1.2.1]; show 1 ≤ D + 1 + 6; omega) (by rw [C.2.2.2.1.2.1]; show 200 ≤ 41 * (D + 1) + 278; omega) q1 q2 q3 q4 q5 q6 q7 q8 hd (hr _ q9)
            all_goals exact (show False ∧ _ from h).1.elim
          all_goals exact (show False ∧ _ from h).1.elim
        all_goals exact (show False ∧ _ from h).1.elim
      all_goals exact (show False ∧ _ from h).1.elim
    all_goals exact (show False ∧ _ from h).1.elim
theorem ar_obj {v : Nat} (C : mCx ρ p l e R s m args below meth c Qe y H0 S0 Sf D mcR msR r If) (hk : (mNx y (pc, .invokespecial v, a, b, k, n) 3 nx && (decide (n = 1 ∧ a = 1005) && mFm mLX (mOw y) v 1005)) = true) (hr : ∀ c', rest c' → (mPt ρ p l e R s m args below meth c Qe y H0 S0 Sf) nx c') (h : mAct (mRun D) y pc (mPt ρ p l e R s m args below meth c Qe y H0 S0 Sf) (mOne r If Sf) rest (mDo (pc, .invokespecial v, a, b, k, n) (mls, mst, I, S))) : (mPt ρ p l e R s m args below meth c Qe y H0 S0 Sf) pc (mls, mst, I, S) := by
  rw [Bool.and_eq_true] at hk
  obtain ⟨hk, hv⟩ := hk
  obtain ⟨hd, rfl⟩ := mNx_ok hk
  rw [Bool.and_eq_true, decide_eq_true_eq] at hv
  obtain ⟨⟨rfl, rfl⟩, hlk⟩ := hv
  have hlink := C.2.1.1 _ (mFm_x hlk)
  rw [mLname_obj] at hlink
  rcases mst with _ | ⟨w1, t⟩
  · exact (show False ∧ _ from h).1.elim
  · rcases w1 with w1 | w1 | w1 | w1 | w1 | w1
    rotate_left 1
    · have h : (mCs t ≤ 8 ∧ 0 ≤ w1) ∧ rest (mls, t, I, S) := h
      exact st_obj C.1.1 C.1.2.1 C.1.2.2.1 C.1.2.2.2 hlink (C.2.1.1 _ (mWl_of (mW_lib _ (List.mem_of_getElem? (i := 0) rfl)))) (C.2.1.1 _ (mWl_of (mW_lib _ (List.mem_of_getElem? (i := 1) rfl)))) (by rw [C.2.2.2.1.2.1]; show 1 ≤ D + 1 + 6; omega) (by rw [C.2.2.2.1.2.1]; show 20 ≤ 41 * (D + 1) + 278; omega) h.1.1 h.1.2 hd (hr _ h.2)
    all_goals exact (show False ∧ _ from h).1.elim
end NAW
