/-! The law's entry: what the Statement gives of the start, and the machine's run out of the small machine's. -/
def sSub : List Cond → List (Nat × Cond) → Bool
  | _, [] => true
  | t, q :: l => match t.drop q.1 with
    | [] => false
    | c :: t' => decide (c = q.2) && sSub t' l
theorem sSub_ok : ∀ (l : List (Nat × Cond)) (t : List Cond), sSub t l = true → ∀ q ∈ l, q.2 ∈ t
  | [], _, _ => fun q h => by cases h
  | q :: l, t, h => by
    unfold sSub at h
    split at h
    · cases h
    · rename_i c t' ht
      rw [Bool.and_eq_true, decide_eq_true_eq] at h
      obtain ⟨h1, h3⟩ := h
      have hc : ∀ x, x ∈ c :: t' → x ∈ t := fun x hx => List.mem_of_mem_drop (i := q.1) (by rw [ht]; exact hx)
      intro z hz
      rcases List.mem_cons.mp hz with rfl | hz
      · rw [← h1]; exact hc _ List.mem_cons_self
      · exact hc _ (List.mem_cons_of_mem _ (sSub_ok l t' h3 z hz))
abbrev sNar : Cond := Jvm.Cond.and given_1 narrow_1
def sCan : List (Nat × Nat) := [(8, 31), (8, 33), (8, 35), (8, 37), (8, 39), (8, 41), (8, 43), (8, 45), (8, 47), (8, 49), (8, 51), (8, 53), (8, 55), (8, 57), (8, 59), (8, 61), (8, 63), (8, 65), (8, 67), (8, 69), (8, 71), (8, 73), (8, 75), (8, 77), (8, 79), (8, 81), (8, 83), (8, 85), (10, 69), (10, 75), (10, 77), (10, 79), (10, 81), (10, 83), (10, 85), (11, 489), (11, 596)]
def sTrm (t : Nat) : Term := .string (mCname (sCan.getD t (0, 0)).1) (sCan.getD t (0, 0)).2
def sVal (t : Nat) : Term := .field (sTrm t) "java/lang/String" "value" "[B"
def sLen (t : Nat) : Nat := (mTs.map String.length).getD t 0
def sElW (t j : Nat) : Cond := .eq (.elem (sVal t) (.int (Int32.ofNat j))) (.int ((mTx8.getD t []).getD j 0))
def sTxW (t : Nat) : List Cond := .exactly (sTrm t) "java/lang/String" :: .eq (.field (sTrm t) "java/lang/String" "coder" "B") (.int 0) :: .arrayOf (sVal t) .byte :: .eq (.length (sVal t)) (.int (Int32.ofNat (sLen t))) :: (List.range (sLen t)).map (sElW t)
def sGapT : List (Nat × Nat) := [(383, 0), (0, 1), (0, 2), (0, 3), (0, 4), (0, 5), (0, 6), (0, 7), (0, 8), (0, 9), (0, 10), (0, 11), (0, 12), (0, 13), (0, 14), (0, 15), (0, 16), (0, 17), (0, 18), (0, 19), (0, 20), (0, 21), (0, 22), (0, 23), (0, 24), (0, 25), (0, 26), (0, 27), (0, 28), (0, 29), (0, 30), (0, 31), (0, 32), (0, 33), (0, 34), (1139, 36), (0, 35)]
def sTxL : List (Nat × Cond) := sGapT.flatMap (fun g => match sTxW g.2 with
  | [] => []
  | w :: l => (g.1, w) :: l.map (fun v => (0, v)))
theorem sTx_ok : sSub (flatC sNar) sTxL = true := by decide +kernel
theorem sGapT_all : (List.range 37).all (fun t => sGapT.any (fun g => Nat.beq g.2 t)) = true := by decide +kernel
theorem sTx_in {t : Nat} (ht : t < 37) : ∀ w ∈ sTxW t, w ∈ flatC sNar := by
  intro w hw
  obtain ⟨g, hg, h2⟩ := List.any_eq_true.mp (List.all_eq_true.mp sGapT_all t (List.mem_range.mpr ht))
  obtain ⟨g1, g2⟩ := g
  obtain rfl : g2 = t := Nat.eq_of_beq_eq_true h2
  have key : ∃ n, (n, w) ∈ sTxL := by
    rcases List.mem_cons.mp hw with rfl | hw
    · exact ⟨g1, List.mem_flatMap.mpr ⟨(g1, g2), hg, List.mem_cons_self⟩⟩
    · exact ⟨0, List.mem_flatMap.mpr ⟨(g1, g2), hg, List.mem_cons_of_mem _ (List.mem_map.mpr ⟨w, hw, rfl⟩)⟩⟩
  obtain ⟨n, hn⟩ := key
  exact sSub_ok _ _ sTx_ok _ hn
def sOne : List (Nat × Cond) := [(4, Jvm.Cond.eq (Jvm.Term.static "java/lang/String" "COMPACT_STRINGS" "Z") (Jvm.Term.int (1 : Int32))),
  (0, Jvm.Cond.isRef (Jvm.Term.static "jdk/internal/util/Preconditions" "SIOOBE_FORMATTER" "Ljava/util/function/BiFunction;")),
  (3, Jvm.Cond.isRef (Jvm.Term.static "java/lang/Throwable" "UNASSIGNED_STACK" "[Ljava/lang/StackTraceElement;")),
  (0, Jvm.Cond.isRef (Jvm.Term.static "java/lang/Throwable" "SUPPRESSED_SENTINEL" "Ljava/util/List;")),
  (218, Jvm.Cond.not (Jvm.Cond.castable "java/lang/IllegalArgumentException" "java/lang/IllegalStateException")),
  (3, Jvm.Cond.not (Jvm.Cond.castable "java/lang/IndexOutOfBoundsException" "java/lang/IllegalStateException")),
  (0, Jvm.Cond.not (Jvm.Cond.castable "java/util/NoSuchElementException" "java/lang/IllegalStateException")),
  (12, Jvm.Cond.not (Jvm.Cond.castable "java/lang/IllegalStateException" "java/lang/IllegalArgumentException")),
  (3, Jvm.Cond.not (Jvm.Cond.castable "java/lang/IndexOutOfBoundsException" "java/lang/IllegalArgumentException")),
  (0, Jvm.Cond.not (Jvm.Cond.castable "java/util/NoSuchElementException" "java/lang/IllegalArgumentException")),
  (12, Jvm.Cond.not (Jvm.Cond.castable "java/lang/IllegalStateException" "java/lang/IndexOutOfBoundsException")),
  (0, Jvm.Cond.not (Jvm.Cond.castable "java/lang/IllegalArgumentException" "java/lang/IndexOutOfBoundsException")),
  (2, Jvm.Cond.not (Jvm.Cond.castable "java/util/NoSuchElementException" "java/lang/IndexOutOfBoundsException")),
  (12, Jvm.Cond.not (Jvm.Cond.castable "java/lang/IllegalStateException" "java/util/NoSuchElementException")),
  (0, Jvm.Cond.not (Jvm.Cond.castable "java/lang/IllegalArgumentException" "java/util/NoSuchElementException")),
  (3, Jvm.Cond.not (Jvm.Cond.castable "java/lang/IndexOutOfBoundsException" "java/util/NoSuchElementException")),
  (752, Jvm.Cond.exactly (Jvm.Term.string "RiverSeniority" (104 : Nat)) "java/lang/String"),
  (44, Jvm.Cond.exactly (Jvm.Term.string "RiverSeniority" (114 : Nat)) "java/lang/String"),
  (23, Jvm.Cond.exactly (Jvm.Term.string "RiverSeniority" (145 : Nat)) "java/lang/String"),
  (27, Jvm.Cond.exactly (Jvm.Term.string "RiverSeniority" (156 : Nat)) "java/lang/String"),
  (38, Jvm.Cond.exactly (Jvm.Term.string "RiverSeniority" (161 : Nat)) "java/lang/String"),
  (21, Jvm.Cond.exactly (Jvm.Term.string "RiverSeniority" (430 : Nat)) "java/lang/String"),
  (25, Jvm.Cond.exactly (Jvm.Term.string "RiverSeniority" (170 : Nat)) "java/lang/String"),
  (50, Jvm.Cond.exactly (Jvm.Term.string "RiverSeniority" (175 : Nat)) "java/lang/String"),
  (22, Jvm.Cond.exactly (Jvm.Term.string "RiverSeniority" (432 : Nat)) "java/lang/String"),
  (25, Jvm.Cond.exactly (Jvm.Term.string "RiverSeniority" (188 : Nat)) "java/lang/String"),
  (35, Jvm.Cond.exactly (Jvm.Term.string "RiverSeniority" (440 : Nat)) "java/lang/String"),
  (19, Jvm.Cond.exactly (Jvm.Term.string "RiverSeniority" (203 : Nat)) "java/lang/String"),
  (32, Jvm.Cond.exactly (Jvm.Term.string "RiverSeniority" (205 : Nat)) "java/lang/String"),
  (22, Jvm.Cond.exactly (Jvm.Term.string "RiverSeniority" (434 : Nat)) "java/lang/String"),
  (25, Jvm.Cond.exactly (Jvm.Term.string "RiverSeniority" (218 : Nat)) "java/lang/String"),
  (40, Jvm.Cond.exactly (Jvm.Term.string "RiverSeniority" (233 : Nat)) "java/lang/String"),
  (52, Jvm.Cond.exactly (Jvm.Term.string "RiverSeniority" (239 : Nat)) "java/lang/String"),
  (25, Jvm.Cond.exactly (Jvm.Term.string "RiverSeniority" (245 : Nat)) "java/lang/String"),
  (24, Jvm.Cond.exactly (Jvm.Term.string "RiverSeniority" (265 : Nat)) "java/lang/String"),
  (24, Jvm.Cond.exactly (Jvm.Term.string "RiverSeniority" (271 : Nat)) "java/lang/String"),
  (44, Jvm.Cond.exactly (Jvm.Term.string "RiverSeniority" (444 : Nat)) "java/lang/String"),
  (40, Jvm.Cond.exactly (Jvm.Term.string "RiverSeniority" (446 : Nat)) "java/lang/String"),
  (34, Jvm.Cond.exactly (Jvm.Term.string "RiverSeniority" (281 : Nat)) "java/lang/String"),
  (28, Jvm.Cond.exactly (Jvm.Term.string "RiverSeniority" (436 : Nat)) "java/lang/String"),
  (28, Jvm.Cond.exactly (Jvm.Term.string "RiverSeniority" (289 : Nat)) "java/lang/String"),
  (33, Jvm.Cond.exactly (Jvm.Term.string "RiverSeniority" (300 : Nat)) "java/lang/String"),
  (25, Jvm.Cond.exactly (Jvm.Term.string "RiverSeniority" (304 : Nat)) "java/lang/String"),
  (26, Jvm.Cond.exactly (Jvm.Term.string "RiverSeniority" (328 : Nat)) "java/lang/String"),
  (23, Jvm.Cond.exactly (Jvm.Term.string "RiverSeniority" (438 : Nat)) "java/lang/String"),
  (26, Jvm.Cond.exactly (Jvm.Term.string "RiverSeniority" (361 : Nat)) "java/lang/String"),
  (23, Jvm.Cond.exactly (Jvm.Term.string "RiverSeniority" (342 : Nat)) "java/lang/String"),
  (26, Jvm.Cond.exactly (Jvm.Term.string "RiverSeniority" (442 : Nat)) "java/lang/String"),
  (40, Jvm.Cond.exactly (Jvm.Term.string "RiverSeniority" (403 : Nat)) "java/lang/String"),
  (31, Jvm.Cond.exactly (Jvm.Term.string "RiverSeniority" (405 : Nat)) "java/lang/String"),
  (420, Jvm.Cond.eq (Jvm.Term.string "RiverSeniority$Signs" (53 : Nat)) (Jvm.Term.string "RiverSeniorityModel" (582 : Nat))),
  (9, Jvm.Cond.eq (Jvm.Term.string "RiverSeniority$Signs" (55 : Nat)) (Jvm.Term.string "RiverSeniorityModel" (563 : Nat))),
  (9, Jvm.Cond.eq (Jvm.Term.string "RiverSeniority$Signs" (57 : Nat)) (Jvm.Term.string "RiverSeniorityModel" (568 : Nat))),
  (8, Jvm.Cond.eq (Jvm.Term.string "RiverSeniority$Signs" (59 : Nat)) (Jvm.Term.string "RiverSeniorityModel" (515 : Nat))),
  (9, Jvm.Cond.eq (Jvm.Term.string "RiverSeniority$Signs" (61 : Nat)) (Jvm.Term.string "RiverSeniorityModel" (573 : Nat))),
  (9, Jvm.Cond.eq (Jvm.Term.string "RiverSeniority$Signs" (63 : Nat)) (Jvm.Term.string "RiverSeniorityModel" (554 : Nat))),
  (7, Jvm.Cond.eq (Jvm.Term.string "RiverSeniority$Signs" (65 : Nat)) (Jvm.Term.string "RiverSeniorityModel" (556 : Nat))),
  (10, Jvm.Cond.eq (Jvm.Term.string "RiverSeniority$Signs" (67 : Nat)) (Jvm.Term.string "RiverSeniorityModel" (558 : Nat))),
  (6, Jvm.Cond.eq (Jvm.Term.string "RiverSeniority$Signs" (71 : Nat)) (Jvm.Term.string "RiverSeniorityModel" (509 : Nat))),
  (8, Jvm.Cond.eq (Jvm.Term.string "RiverSeniority$Signs" (73 : Nat)) (Jvm.Term.string "RiverSeniorityModel" (511 : Nat))),
  (8, Jvm.Cond.eq (Jvm.Term.string "RiverSeniority$Signs" (75 : Nat)) (Jvm.Term.string "RiverSeniorityModel" (513 : Nat))),
  (8, Jvm.Cond.eq (Jvm.Term.string "RiverSeniority$Signs" (77 : Nat)) (Jvm.Term.string "RiverSeniorityModel" (517 : Nat))),
  (9, Jvm.Cond.eq (Jvm.Term.string "RiverSeniority$Signs" (79 : Nat)) (Jvm.Term.string "RiverSeniorityModel" (519 : Nat))),
  (9, Jvm.Cond.eq (Jvm.Term.string "RiverSeniority$Signs" (81 : Nat)) (Jvm.Term.string "RiverSeniorityModel" (521 : Nat))),
  (8, Jvm.Cond.eq (Jvm.Term.string "RiverSeniority$Signs" (83 : Nat)) (Jvm.Term.string "RiverSeniorityModel" (523 : Nat))),
  (10, Jvm.Cond.eq (Jvm.Term.string "RiverSeniority$Signs" (69 : Nat)) (Jvm.Term.string "RiverSeniorityModel" (578 : Nat)))]
theorem sOne_ok : sSub (flatC sNar) sOne = true := by decide +kernel
theorem sOneB {args : Array Value} {s : State} (h : sNar.before args s = true) (i : Nat) {w : Cond} (hw : (sOne.map (·.2))[i]? = some w) : w.before args s = true := by
  obtain ⟨q, hq, rfl⟩ := List.mem_map.mp (List.mem_of_getElem? hw)
  exact flat_of_before _ h _ (sSub_ok _ _ sOne_ok _ hq)
theorem sOneM {args : Array Value} {s : State} (h : sNar.before args s = true) {w : Cond} (hw : w ∈ sOne.map (·.2)) : w.before args s = true := by
  obtain ⟨q, hq, rfl⟩ := List.mem_map.mp hw
  exact flat_of_before _ h _ (sSub_ok _ _ sOne_ok _ hq)
theorem sNc {args : Array Value} {s : State} (hgv : sNar.before args s = true) : ∀ a b : Nat, a < 4 → b < 4 → a ≠ b → va_Nc (mEname a) (mEname b) s := by
  intro a b ha hb hab
  match a, b, ha, hb, hab with
  | 0, 1, _, _, _ => exact va_Nc.of (sOneB hgv 7 rfl)
  | 0, 2, _, _, _ => exact va_Nc.of (sOneB hgv 10 rfl)
  | 0, 3, _, _, _ => exact va_Nc.of (sOneB hgv 13 rfl)
  | 1, 0, _, _, _ => exact va_Nc.of (sOneB hgv 4 rfl)
  | 1, 2, _, _, _ => exact va_Nc.of (sOneB hgv 11 rfl)
  | 1, 3, _, _, _ => exact va_Nc.of (sOneB hgv 14 rfl)
  | 2, 0, _, _, _ => exact va_Nc.of (sOneB hgv 5 rfl)
  | 2, 1, _, _, _ => exact va_Nc.of (sOneB hgv 8 rfl)
  | 2, 3, _, _, _ => exact va_Nc.of (sOneB hgv 15 rfl)
  | 3, 0, _, _, _ => exact va_Nc.of (sOneB hgv 6 rfl)
  | 3, 1, _, _, _ => exact va_Nc.of (sOneB hgv 9 rfl)
  | 3, 2, _, _, _ => exact va_Nc.of (sOneB hgv 12 rfl)
  | 0, 0, _, _, h => exact absurd rfl h
  | 1, 1, _, _, h => exact absurd rfl h
  | 2, 2, _, _, h => exact absurd rfl h
  | 3, 3, _, _, h => exact absurd rfl h
theorem sMsg_one : mMsg.all (fun q => decide (Cond.exactly (.string "RiverSeniority" q.1) "java/lang/String" ∈ sOne.map (·.2)) && decide (Cond.stringRef "RiverSeniority" q.1 q.2 ∈ lw_tbl)) = true := by decide +kernel
theorem sLS_tbl : sSub lw_tbl (mLS.map fun e => (e.1, Jvm.Cond.stringRef (mCname e.2.1) e.2.2.1 (mTs.getD e.2.2.2 ""))) = true := by decide +kernel
theorem sLS_eq : mLS.all (fun e => Nat.blt e.2.2.2 37 && (decide (sTrm e.2.2.2 = .string (mCname e.2.1) e.2.2.1) || decide (Cond.eq (sTrm e.2.2.2) (.string (mCname e.2.1) e.2.2.1) ∈ sOne.map (·.2)))) = true := by decide +kernel
theorem sBad_ok : mBad.all (fun w => w.onTables && decide (w ∈ lw_tbl)) = true := by decide +kernel
def sW5 : List Cond := [.laysStatic "java/lang/Throwable" "UNASSIGNED_STACK" "[Ljava/lang/StackTraceElement;", .laysStatic "java/lang/Throwable" "SUPPRESSED_SENTINEL" "Ljava/util/List;", .initialized "java/lang/Throwable", .laysStatic "java/lang/String" "COMPACT_STRINGS" "Z", .initialized "java/lang/String", .laysStatic "jdk/internal/util/Preconditions" "SIOOBE_FORMATTER" "Ljava/util/function/BiFunction;", .initialized "jdk/internal/util/Preconditions"]
theorem sW5_ok : sW5.all (fun w => decide (w ∈ lw_tbl)) = true := by decide +kernel
theorem sW5_in {w : Cond} (i : Nat) (h : sW5[i]? = some w) : w ∈ lw_tbl := of_decide_eq_true (List.all_eq_true.mp sW5_ok w (List.mem_of_getElem? h))
theorem sWO_ok : mWO.all (fun e => decide (Cond.arrayOver (.object (mCname e.2)) ∈ lw_tbl)) = true := by decide +kernel
theorem sLN_ok : mLN.all (fun e => (Cond.methodLinkNest (mCname e.2.1) e.2.2.1 (mNm e.2.2.2) "RiverSeniority").onTables && decide (Cond.methodLinkNest (mCname e.2.1) e.2.2.1 (mNm e.2.2.2) "RiverSeniority" ∈ lw_tbl)) = true := by decide +kernel
theorem sCl_ok : (List.range 12).all (fun c => ((List.range (mClz.getD c ("", mT8, 0)).2.2).all (fun k => mWL.any (fun e => Nat.beq e.2.1 c && Nat.beq e.2.2 k)) && mWN.any (fun e => Nat.beq e.2 c))) = true := by decide +kernel
section NSR
variable {s : State} {b L : Nat} {xs : Nat → Int32}
theorem sKn (hts : ∀ w ∈ mWl, w.before #[Value.ref b] s = true) : ∀ c : Nat, ∃ (x : ClassId × (Nat → Nat)), ∀ q : vw_C, mClz[c]? = some q → u_Kn s q.1 q.2.1 q.2.2 x.1 x.2 := by
  have main : ∀ c : Nat, c < 12 → ∃ (x : ClassId × (Nat → Nat)), ∀ q : vw_C, mClz[c]? = some q → u_Kn s q.1 q.2.1 q.2.2 x.1 x.2 := by
    intro c hc
    have h1 := List.all_eq_true.mp sCl_ok c (List.mem_range.mpr hc)
    rw [Bool.and_eq_true] at h1
    obtain ⟨h1, h2⟩ := h1
    · obtain ⟨q, hq⟩ : ∃ q, mClz[c]? = some q := ⟨_, List.getElem?_eq_getElem (by show c < 12; omega)⟩
      have hgd : mClz.getD c ("", mT8, 0) = q := by rw [List.getD_eq_getElem?_getD, hq]; rfl
      have hi := mF1_n (t := c) h2
      rw [hgd] at h1 hi
      have hnm := mClz_name c q hq
      obtain ⟨cC, iS, hK⟩ := u_known (C := q.1) (T := q.2.1) (N := q.2.2) (n := q.2.2) (ws := mWl) hts (fun w hw => by
        unfold u_ws at hw
        obtain ⟨k, hk, rfl⟩ := List.mem_map.mp hw
        obtain ⟨e, he, h3⟩ := List.any_eq_true.mp (List.all_eq_true.mp h1 k hk)
        rw [Bool.and_eq_true] at h3
        have h4 := mSub_in mWL_ok he
        obtain ⟨g, e1, e2⟩ := e
        obtain rfl : e1 = c := Nat.eq_of_beq_eq_true h3.1
        obtain rfl : e2 = k := Nat.eq_of_beq_eq_true h3.2
        dsimp only at h4
        rw [hgd, ← hnm] at h4
        exact h4) (by rw [hnm]; exact hts _ hi)
      exact ⟨(cC, iS), fun q' hq' => by rw [hq] at hq'; cases hq'; exact hK⟩
  intro c
  by_cases hc : c < 12
  · exact main c hc
  · exact ⟨(0, fun _ => 0), fun q hq => absurd (List.getElem?_eq_some_iff.mp hq).1 hc⟩
theorem sTexts (hgv : sNar.before #[Value.ref b] s = true) {A : Nat → Prop} (hA : ∀ a : Nat, a < s.heap.size → ¬ A a) : ∀ i : Nat, ∃ q : Nat × Nat, i < 37 → (sTrm i).eval #[Value.ref b] s none [] s = some (.ref q.1) ∧ va_O "java/lang/String" q.1 A s s.heap ∧ va_OF "java/lang/String" "coder" "B" (.int 0) q.1 A s s.heap ∧ va_OF "java/lang/String" "value" "[B" (.ref q.2) q.1 A s s.heap ∧ va_T .byte q.2 ((mTs.map String.length).getD i 0) (fun j => .int ((mTx8.getD i []).getD j 0)) A s s.heap := by
  intro i
  by_cases hi : i < 37
  · have hw : ∀ w ∈ sTxW i, w.before #[Value.ref b] s = true := fun w h => flat_of_before _ hgv _ (sTx_in hi w h)
    obtain ⟨a, c, cA, kA, q1, q2, q3, q4, q5, q6, -⟩ := Cond.exactly_spec (args := #[Value.ref b]) (first := s) (o := none) (s := s) (idx := []) (t := sTrm i) (cls := "java/lang/String") (hw _ List.mem_cons_self)
    have hlen := (jTx hi).1
    have hl2 := (jTx hi).2.1
    obtain ⟨t, ht, hT⟩ := va_Tof (tm := sVal i) (ty := .byte) (N := sLen i) (f := fun j => .int ((mTx8.getD i []).getD j 0)) (A := A) (by unfold sLen; rw [hlen]; omega) (hw _ (List.mem_cons_of_mem _ (List.mem_cons_of_mem _ List.mem_cons_self))) (va_eqt (hw _ (List.mem_cons_of_mem _ (List.mem_cons_of_mem _ (List.mem_cons_of_mem _ List.mem_cons_self)))))
      (fun j hj => va_eqt (hw (sElW i j) (List.mem_cons_of_mem _ (List.mem_cons_of_mem _ (List.mem_cons_of_mem _ (List.mem_cons_of_mem _ (List.mem_map.mpr ⟨j, List.mem_range.mpr hj, rfl⟩))))))) hA
    exact ⟨(a, t), fun _ => ⟨q1, ⟨cA, q3, q5, by rw [q6]; exact q2, hA a (Array.getElem?_eq_some_iff.mp q3).1⟩, vk_OFof q1 (va_eqt (hw _ (List.mem_cons_of_mem _ List.mem_cons_self))) hA, vk_OFof q1 ht hA, hT⟩⟩
  · exact ⟨(0, 0), fun h => absurd h hi⟩
theorem sWorld (hts : ∀ w ∈ lw_tbl, w.before #[Value.ref b] s = true) (hgv : sNar.before #[Value.ref b] s = true) (dC : Nat → ClassId) (dI : Nat → Nat → Nat) : ∃ sA : Nat → Nat, mWld (dC, dI, s.heap.size, b, L, xs, sA) s s.heap := by
  have hA : ∀ a : Nat, a < s.heap.size → ¬ s.heap.size ≤ a := fun a h1 h2 => by omega
  obtain ⟨ad, had⟩ := Classical.axiomOfChoice (sTexts hgv (A := fun q => s.heap.size ≤ q) hA)
  refine ⟨fun i => (ad i).1, fun w hw => ?_, vx_Zqof (hts _ (sW5_in 0 rfl)) (hts _ (sW5_in 2 rfl)) (sOneB hgv 2 rfl) hA, vx_Zqof (hts _ (sW5_in 1 rfl)) (hts _ (sW5_in 2 rfl)) (sOneB hgv 3 rfl) hA, fun e he => ?_, fun q hq => ?_, ⟨va_Zof (hts _ (sW5_in 3 rfl)) (hts _ (sW5_in 4 rfl)) (va_eqt (sOneB hgv 0 rfl)) hA, ?_, sNc hgv⟩, fun i => (ad i).2, fun i hi => (had i hi).2⟩
  · have h := List.all_eq_true.mp sBad_ok w hw
    rw [Bool.and_eq_true, decide_eq_true_eq] at h
    exact va_Nw.of h.1 (hts _ h.2)
  · have h := List.all_eq_true.mp sLS_eq e he
    rw [Bool.and_eq_true, Bool.or_eq_true, decide_eq_true_eq, decide_eq_true_eq] at h
    have ht : e.2.2.2 < 37 := Nat.le_of_ble_eq_true h.1
    have h2 := hts _ (sSub_ok _ _ sLS_tbl _ (List.mem_map.mpr ⟨e, he, rfl⟩))
    dsimp only at h2
    have h3 := (had _ ht).1
    refine vk_R.of h2 ?_
    rcases h.2 with h4 | h4
    · rw [← h4]; exact h3
    · exact va_eqR (sOneM hgv h4) h3
  · have h := List.all_eq_true.mp sMsg_one q hq
    rw [Bool.and_eq_true, decide_eq_true_eq, decide_eq_true_eq] at h
    obtain ⟨a, c, cA, kA, q1, -⟩ := Cond.exactly_spec (args := #[Value.ref b]) (first := s) (o := none) (s := s) (idx := []) (sOneM hgv h.1)
    exact ⟨a, vk_R.of (hts _ h.2) q1⟩
  · obtain ⟨v, hv, hr⟩ := Cond.isRef_spec (sOneB hgv 1 rfl)
    refine ⟨v, ?_, va_Zof (hts _ (sW5_in 5 rfl)) (hts _ (sW5_in 6 rfl)) hv hA⟩
    cases v with
    | null => rfl
    | ref a => rfl
    | _ => cases hr
def lsI (xs : Nat → Int32) : mN := fun _ j => (xs j.toNat).toInt
def lsS (b L lo : Nat) : mH := (fun _ _ => -1, fun a => if a = (b : Int) then 90 else 0, fun a => if a = (b : Int) then (L : Int) else 0, (lo : Int), 0)
/-- what is left: the law's run on the small machine -/
def lawRun : Prop := ∀ (b L lo : Nat) (xs : Nat → Int32), L ≤ 3072 → b < lo → ∃ (I' : mN) (S' : mH), mRun 2042 413 [mR b] (lsI xs) (lsS b L lo) (mOne (.inl (some (mI 1))) I' S') ∧ S'.2.2.2.1 ≤ (lo : Int) + 601024 ∧ S'.2.2.2.2 ≤ 7293034
theorem sStart (hrun : lawRun) {p : Program} {e : Env} {m : MethodId} {below : List Frame} {meth : Method} {c : Code} (l : Launch) (hflags : l.flags = flags0) (hL : L ≤ 3072) (C0 : lw_At p s m meth c b L xs) : W p l e room_1 s m #[Value.ref b] below meth c s.heap [] 0 0 (lw_Z below #[Value.ref b] s) (entryFrame m ([Value.ref b] : List Value).toArray 9) := by
  obtain ⟨hx, hb, hr, hml, hown, hts, hX, hbl, hlk, hgv⟩ := C0
  have htw : ∀ w ∈ mWl, w.before #[Value.ref b] s = true := fun w hw => hts w (mWl_in hw).1
  obtain ⟨I', S', hrun1, hc1, hc2⟩ := hrun b L s.heap.size xs hL hbl
  obtain ⟨dk, hdk⟩ := Classical.axiomOfChoice (sKn htw)
  obtain ⟨sA, hW⟩ := sWorld (L := L) (xs := xs) hts hgv (fun c => (dk c).1) (fun c => (dk c).2)
  have hstr : l.stackTraces = false := by unfold Launch.stackTraces; rw [hflags]; decide +kernel
  have hgrow := (mGrow 2042 _ _ _ _ _ hrun1)
  have hge : mLe (lsS b L s.heap.size) S' := by
    obtain ⟨r9, I9, S9, ⟨⟨-, -, h9⟩, h8⟩, -⟩ := mRun_det 2042 _ _ _ _ _ hgrow
    rw [← h9]; exact h8
  have g1 : (s.heap.size : Int) ≤ S'.2.2.2.1 := hge.1
  have g2 : (0 : Int) ≤ S'.2.2.2.2 := hge.2
  obtain ⟨k1, hk1⟩ := Int.eq_ofNat_of_zero_le (show 0 ≤ (s.heap.size : Int) + 601024 - S'.2.2.2.1 by omega)
  obtain ⟨k2, hk2⟩ := Int.eq_ofNat_of_zero_le (show 0 ≤ (7293034 : Int) - S'.2.2.2.2 by omega)
  have hT : mTab (fun c => (dk c).1, fun c => (dk c).2, s.heap.size, b, L, xs, sA) s := by
    refine ⟨fun c q hq => hdk c q hq, fun e9 he => ?_, fun e9 he => ?_⟩
    · exact va_AO.of (hts _ (of_decide_eq_true (List.all_eq_true.mp sWO_ok e9 he)))
    · have h := List.all_eq_true.mp sLN_ok e9 he
      rw [Bool.and_eq_true, decide_eq_true_eq] at h
      exact va_Nw.of h.1 (hts _ h.2)
  have C : mCx (fun c => (dk c).1, fun c => (dk c).2, s.heap.size, b, L, xs, sA) p l e room_1 s m #[Value.ref b] below meth c (lw_Z below #[Value.ref b] s) 413 s.heap (S'.1, S'.2.1, S'.2.2.1, S'.2.2.2.1 - 601024, S'.2.2.2.2 - 7293034) S' 2041 601024 7293034 (.inl (some (mI 1))) I' := by
    refine ⟨⟨hx, hb, hml, hown⟩, ⟨htw, hT, hW⟩, ⟨rfl, fun h9 => absurd h9 (by decide), hlk, hstr, fun h9 => absurd rfl h9, fun _ => ⟨_, rfl⟩, fun _ h9 => absurd h9 (by decide), fun _ => ⟨rfl, ?_, mGoodH_all hstr 2041⟩⟩, ⟨mGood_all hstr 2041, rfl, ?_, ?_⟩, ⟨hr, fun h9 => absurd h9 (by decide)⟩⟩
    · intro pc H locs cells slots ls hd hO h1 h2
      refine va_forget (fun q hq => hO.2.2.2 q hq) (W.widen h1 h2 ?_)
      exact lw_ret (d0 := s.drawn) (Drawn.sameBut.refl s.drawn lw_cs) hx hb hr hlk hd
    · show S'.2.2.2.1 = S'.2.2.2.1 - 601024 + ((601024 : Nat) : Int)
      omega
    · show S'.2.2.2.2 = S'.2.2.2.2 - 7293034 + ((7293034 : Nat) : Int)
      omega
  have h2 := mBlkAll C (mChk_ok (by decide)) hrun1.2
  have hl0 := lv_entry [Value.ref b] (n := 9) (Nat.le_of_ble_eq_true rfl)
  rw [lg_entry_eq]
  generalize (lg_sl [Value.ref b] ++ List.replicate (9 - (lg_sl [Value.ref b]).length) Slot.unset).toArray = ls at hl0 ⊢
  have hvs : mStk (fun c => (dk c).1, fun c => (dk c).2, s.heap.size, b, L, xs, sA) [Value.ref b] [mR b] := ⟨Or.inr (Or.inl ⟨Int.natCast_nonneg b, by rw [Int.toNat_natCast]⟩), trivial⟩
  have hH : mHeap (fun c => (dk c).1, fun c => (dk c).2, s.heap.size, b, L, xs, sA) s (lsI xs) (lsS b L s.heap.size) s.heap := by
    refine ⟨rfl, Nat.le_refl _, hbl, fun a => ?_⟩
    by_cases ha : a = (b : Int)
    · refine Or.inr (Or.inr (Or.inr ⟨?_, ha, ?_, hL, hX, fun j hj => ?_⟩))
      · show (if a = (b : Int) then (90 : Int) else 0) = 90
        rw [if_pos ha]
      · show (if a = (b : Int) then (L : Int) else 0) = L
        rw [if_pos ha]
      · show (xs (j : Int).toNat).toInt = _
        rw [Int.toNat_natCast]
    · left
      show (if a = (b : Int) then (90 : Int) else 0) = 0
      rw [if_neg ha]
  refine W.widen (Nat.zero_le k1) (Nat.zero_le k2) ?_
  exact h2.2 s.heap [] k1 k2 ls [] (mLoc_entry (y := 413) hvs hrun1.1.1 hrun1.1.2 hl0) trivial hH ⟨Nat.le_refl _, Nat.le_refl _, fun _ _ => rfl, fun z hz => by cases hz⟩ ⟨by show (s.heap.size : Int) = S'.2.2.2.1 - 601024 + (k1 : Int); omega, by show (0 : Int) = S'.2.2.2.2 - 7293034 + (k2 : Int); omega⟩
end NSR
