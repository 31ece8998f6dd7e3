/-! The law's run, for every script; the claim's start. -/
theorem lawRun_all : lawRun := fun b L lo xs hL hb => by
  have h : mRun (1990 + 52) 413 [mR (b : Int)] (lsI xs) (lsS b L lo) (fun r _ S => r = .inl (some (mI 1)) ∧ S.2.2.2.1 ≤ (lo : Int) + 601024 ∧ S.2.2.2.2 ≤ 7293034) := law_run (b := (b : Int)) (L := (L : Int)) (x := (lo : Int)) 1990 (by omega) (by omega) (by omega) (by omega) rfl (Int.le_refl 0) (if_pos rfl) (if_pos rfl) (fun S' I' h1 h2 => ⟨rfl, h1, h2⟩)
  obtain ⟨r, I', S', ⟨h1, h2, h3⟩, h4⟩ := mRun_det (1990 + 52) _ _ _ _ _ h
  subst h1
  exact ⟨I', S', h4, h2, h3⟩
theorem whole_start {p : Program} {e : Env} {s : State} {m : MethodId} {below : List Frame} {meth : Method} {c : Code} (l : Launch) (hflags : l.flags = flags0) {b L : Nat} {xs : Nat → Int32} (hL : L ≤ 3072) (C0 : lw_At p s m meth c b L xs) : W p l e room_1 s m #[Value.ref b] below meth c s.heap [] 0 0 (lw_Z below #[Value.ref b] s) (entryFrame m ([Value.ref b] : List Value).toArray 9) := sStart lawRun_all l hflags hL C0
