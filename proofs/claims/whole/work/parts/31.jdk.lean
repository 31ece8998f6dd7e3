/-! The JDK's own methods on texts: length, charAt and what they call. -/
theorem lg_sl1 : ∀ (vs : List Value), (∀ v ∈ vs, v.category = 1) → (lg_sl vs).length = vs.length
  | [], _ => rfl
  | v :: vs, h => by
    have h1 := h v List.mem_cons_self
    have ih := lg_sl1 vs (fun w hw => h w (List.mem_cons_of_mem _ hw))
    simp [lg_sl, h1]
    simpa [lg_sl] using ih
def jn_coder : MethodName := ⟨"java/lang/String", "coder", "()B"⟩
def jn_len : MethodName := ⟨"java/lang/String", "length", "()I"⟩
def jn_lat : MethodName := ⟨"java/lang/String", "isLatin1", "()Z"⟩
def jn_chr : MethodName := ⟨"java/lang/String", "charAt", "(I)C"⟩
def jn_chr1 : MethodName := ⟨"java/lang/StringLatin1", "charAt", "([BI)C"⟩
def jn_chk : MethodName := ⟨"java/lang/String", "checkIndex", "(II)V"⟩
def jn_chk3 : MethodName := ⟨"jdk/internal/util/Preconditions", "checkIndex", "(IILjava/util/function/BiFunction;)I"⟩
def jW : List Cond := [.code jn_coder prog_29_method_152_code 1 (some .byte), .code jn_len prog_29_method_54_code 1 (some .int), .code jn_lat prog_29_method_154_code 1 (some .boolean), .code jn_chr prog_29_method_56_code 2 (some .char), .code jn_chr1 prog_31_method_2_code 2 (some .char), .code jn_chk prog_29_method_155_code 2 none, .code jn_chk3 prog_40_method_11_code 3 (some .int),
  .fieldLink "java/lang/String" 38 "java/lang/String" "COMPACT_STRINGS" "Z", .fieldLink "java/lang/String" 15 "java/lang/String" "coder" "B", .fieldLink "java/lang/String" 9 "java/lang/String" "value" "[B", .fieldLink "java/lang/String" 1053 "jdk/internal/util/Preconditions" "SIOOBE_FORMATTER" "Ljava/util/function/BiFunction;",
  .methodLink "java/lang/String" 335 jn_coder, .methodLink "java/lang/String" 492 jn_lat, .methodLink "java/lang/String" 495 jn_chr1, .methodLink "java/lang/StringLatin1" 9 jn_chk, .methodLink "java/lang/String" 1059 jn_chk3,
  .instanceMethod jn_coder, .instanceMethod jn_lat, .instanceMethod jn_len, .instanceMethod jn_chr, .selects "java/lang/String" jn_coder jn_coder, .selects "java/lang/String" jn_lat jn_lat, .selects "java/lang/String" jn_len jn_len, .selects "java/lang/String" jn_chr jn_chr,
  .static jn_chr1, .static jn_chk, .static jn_chk3, .initialized "java/lang/String", .initialized "java/lang/StringLatin1", .initialized "jdk/internal/util/Preconditions"]
theorem jW_ok : jW.all (fun w => goodWord w && decide (w ∈ lw_tbl)) = true := by decide +kernel
theorem jIn {w : Cond} (i : Nat) (h : jW[i]? = some w) : w ∈ mWl := by
  have h1 := List.all_eq_true.mp jW_ok w (List.mem_of_getElem? h)
  rw [Bool.and_eq_true, decide_eq_true_eq] at h1
  exact List.mem_filter.mpr ⟨h1.2, h1.1⟩
theorem jGood {w : Cond} (i : Nat) (h : jW[i]? = some w) : GoodIn mWl (w :: mWl) := by
  intro v hv
  rcases List.mem_cons.mp hv with rfl | hv
  · exact ⟨jIn i h, good_of_word (mWl_in (jIn i h)).2⟩
  · exact ⟨hv, good_of_word (mWl_in hv).2⟩
def jOk (v : Option Value) : Array Value → State → Outcome → State → Prop := fun _ st o t => o = .returned v ∧ t.heap = st.heap
def jX : String → State → State → Prop := fun _ _ _ => False
def jF : Addr → Prop := fun _ => False
def jR (f n : Nat) : Room := { frames := f, cells := 0, slots := 0, locals := n }
def jP (ρ : mRho) (as : List Value) : Array Value → State → Prop := fun v U => v = as.toArray ∧ mWld ρ U U.heap
theorem jP_blind (ρ : mRho) (as : List Value) : FrameBlind (jP ρ as) := fun a U g mk h => ⟨h.1, mWld_warm (s := U) (U := U.calling g mk a) (State.WarmedH.refl U) (fun _ _ => rfl) h.2⟩
abbrev jM (ρ : mRho) (l : Launch) (y : MethodName) (cc : ByteArray) (maxL : Nat) (ret : Option FieldType) (f n : Nat) (as : List Value) (v : Option Value) : Prop := vx_Met l y (Cond.code y cc maxL ret :: mWl) (jR f n) (jP ρ as) (jOk v) jX 0 0 jF
section NJD
variable {ρ : mRho} {p : Program} {l : Launch} {e : Env} {R : Room} {s : State} {m : MethodId} {args : Array Value} {below : List Frame} {meth : Method} {c : Code} {Q : State → Prop} {H : Heap} {locs : List Loc} {cells slots : Nat} {pc : Nat} {ls : Array Slot} {stk rest : List Value}
theorem jGo {ar : Array Value} {v : Option Value} (k : vx_Run p l e R s m args below meth c H locs cells slots 0 0 (F0 m pc ls stk) rest (jOk v ar) jX jF)
    (hn : W p l e R s m args below meth c H locs cells slots Q (F0 m (pc + 3) ls (v.toList ++ rest))) : W p l e R s m args below meth c H locs cells slots Q (F0 m pc ls stk) := by
  intro T hT X
  rcases k T hT X with ⟨v', st₀, t, T', L, g0, X', hf, e1, e2, ⟨hv', hh⟩, st⟩ | ⟨q, st₀, t, T', L, E, ce, g0, X', hf, e1, e2, hx, _⟩
  · cases hv'
    have hL : L = [] := by
      cases L with
      | nil => rfl
      | cons z L => exact (hf z List.mem_cons_self).elim
    subst hL
    rw [List.append_nil] at X'
    obtain ⟨t2, a1, b1⟩ := hn T' (by rw [e1, hh, g0]) X'
    exact ⟨t2, st t2 a1, b1⟩
  · exact hx.elim
theorem jRecv {adV : Nat → Nat} {i : Nat} (hE : mKS ρ adV s s.heap) (hi : i < 37) (hS : va_S (mFree ρ) s.heap H locs) : ∃ cell : Cell, H[ρ.2.2.2.2.2.2 i]? = some cell ∧ cell.vm.isStatics = false ∧ s.vm.findClass "java/lang/String" = some cell.cls := by
  obtain ⟨cell, h1, h2, h3, -⟩ := (hE i hi).1.kept hS.2.1
  exact ⟨cell, h1, h2, h3⟩
theorem jPre {as : List Value} (hWd : mWld ρ s s.heap) (hq : ∀ q : Nat, q < ρ.2.2.1 → H[q]? = s.heap[q]?) : PreS s H (jP ρ as) as :=
  ⟨jP_blind ρ as, fun U hU hW => ⟨rfl, mWld_warm hW (fun q h => by rw [hU]; exact hq q h) hWd⟩⟩
theorem jCb {own : String} {idx f n na : Nat} {y : MethodName} {cc : ByteArray} {maxL : Nat} {ret : Option FieldType} (hts : ∀ w ∈ mWl, w.before args s = true) (i j : Nat) (h : jW[i]? = some (.code y cc maxL ret)) (hj : jW[j]? = some (.initialized y.cls)) (hl : (Cond.methodLink own idx y).before args s = true)
    (hd : y.cls ≠ "java/lang/invoke/MethodHandle" ∧ y.cls ≠ "java/lang/invoke/VarHandle" ∧ (parseMethodDescriptor y.desc).map (fun d => d.parameters.length) = some na) (hR : f + 1 ≤ R.frames ∧ 8 + (maxL + 11) + n ≤ R.locals) :
    CallB R s args own idx y cc maxL ret (Cond.code y cc maxL ret :: mWl) (jR f n) 0 0 na :=
  callB_of (Ts := mWl) na hts (jGood i h) rfl rfl rfl (hts _ (jIn j hj)) hl hd hR
end NJD
theorem jE {y : MethodName} {l : Launch} {cc : ByteArray} {maxL : Nat} {ret : Option FieldType} {f n : Nat} {as : List Value} {v : Option Value} {ρ : mRho} (hy : plainName y.cls = true) (hL : (lg_sl as).length ≤ maxL)
    (body : ∀ (p : Program) (e : Env) (s : State) (m : MethodId) (args : Array Value) (below : List Frame) (meth : Method) (c : Code) (ls : Array Slot), p.tables.exec = Jvm.exec → c.code = cc → c.maxLocals = maxL → meth.sig.returnType = ret → s.vm.findClass y.cls = some m.cls → meth.locks = false → (∀ w ∈ mWl, w.before args s = true) → mWld ρ s s.heap → lv_has ls maxL (lv_args 0 as) →
      W p l e (jR f n) s m args below meth c s.heap [] 0 0 (MQ below (jOk v) args s 0 0 jF) (F0 m 0 ls [])) : jM ρ l y cc maxL ret f n as v := by
  refine vx_ofW (cc := cc) (maxL := maxL) (ret := ret) hy rfl ?_
  intro p e s m args below meth c s₁ B hml ht hP
  obtain ⟨rfl, hWd⟩ := hP
  have hts := atoms_spec (ws := Cond.code y cc maxL ret :: mWl) B.pre
  have hl := lv_entry as (n := maxL) hL
  rw [lg_entry_eq]
  generalize (lg_sl as ++ List.replicate (maxL - (lg_sl as).length) Slot.unset).toArray = ls at hl ⊢
  exact vx_ret (body p e s m as.toArray below meth c ls B.exec B.bytes hml B.returns (findClass_of_methodNamed B.named) B.notSynchronized (fun w hw => hts w (List.mem_cons_of_mem _ hw)) hWd hl)
theorem d_coder_0 : decode prog_29_method_152_code 0 = .ok (.getstatic 38, 3) := by decide +kernel
theorem d_coder_3 : decode prog_29_method_152_code 3 = .ok (.ifCond .eq 10, 3) := by decide +kernel
theorem d_coder_6 : decode prog_29_method_152_code 6 = .ok (.aload_n 0, 1) := by decide +kernel
theorem d_coder_7 : decode prog_29_method_152_code 7 = .ok (.getfield 15, 3) := by decide +kernel
theorem d_coder_10 : decode prog_29_method_152_code 10 = .ok (.goto 4, 3) := by decide +kernel
theorem d_coder_14 : decode prog_29_method_152_code 14 = .ok (.ireturn, 1) := by decide +kernel
theorem jc_coder {ρ : mRho} (l : Launch) {k : Nat} (hk : k < 37) : jM ρ l jn_coder prog_29_method_152_code 1 (some .byte) 0 0 [.ref (ρ.2.2.2.2.2.2 k)] (some (.int 0)) := by
  refine jE (by decide) (Nat.le_of_ble_eq_true rfl) ?_
  intro p e s m args below meth c ls hx hb hml hr hown hlk hts hWd hl
  obtain ⟨-, -, -, -, -, ⟨hz1, -⟩, adV, hK⟩ := hWd
  have hS : va_S (mFree ρ) s.heap s.heap [] := va_S.rf
  refine va_gets hx hb hz1 hS hown (hts _ (jIn 7 rfl)) (fun _ h => h) d_coder_0 ?_
  refine lv_if_eq (tgt := 13) hx hb d_coder_3 (by decide) (fun h => absurd h (by decide)) (fun _ => ?_)
  refine lv_aload_n hx hb d_coder_6 rfl (lv_at hl 0 rfl) ?_
  refine vk_getf hx hb (hK k hk).2.1 hS hown (hts _ (jIn 8 rfl)) (fun _ h => h) d_coder_7 ?_
  refine lv_goto (tgt := 14) hx hb d_coder_10 (by decide) ?_
  exact W.zret hx hb hr rfl (fun t ht hW => ⟨rfl, ht⟩) (fun q h => by cases h) d_coder_14 hlk
theorem d_lat_0 : decode prog_29_method_154_code 0 = .ok (.getstatic 38, 3) := by decide +kernel
theorem d_lat_3 : decode prog_29_method_154_code 3 = .ok (.ifCond .eq 14, 3) := by decide +kernel
theorem d_lat_6 : decode prog_29_method_154_code 6 = .ok (.aload_n 0, 1) := by decide +kernel
theorem d_lat_7 : decode prog_29_method_154_code 7 = .ok (.getfield 15, 3) := by decide +kernel
theorem d_lat_10 : decode prog_29_method_154_code 10 = .ok (.ifCond .ne 7, 3) := by decide +kernel
theorem d_lat_13 : decode prog_29_method_154_code 13 = .ok (.iconst 1, 1) := by decide +kernel
theorem d_lat_14 : decode prog_29_method_154_code 14 = .ok (.goto 4, 3) := by decide +kernel
theorem d_lat_18 : decode prog_29_method_154_code 18 = .ok (.ireturn, 1) := by decide +kernel
theorem jc_lat {ρ : mRho} (l : Launch) {k : Nat} (hk : k < 37) : jM ρ l jn_lat prog_29_method_154_code 1 (some .boolean) 0 0 [.ref (ρ.2.2.2.2.2.2 k)] (some (.int 1)) := by
  refine jE (by decide) (Nat.le_of_ble_eq_true rfl) ?_
  intro p e s m args below meth c ls hx hb hml hr hown hlk hts hWd hl
  obtain ⟨-, -, -, -, -, ⟨hz1, -⟩, adV, hK⟩ := hWd
  have hS : va_S (mFree ρ) s.heap s.heap [] := va_S.rf
  refine va_gets hx hb hz1 hS hown (hts _ (jIn 7 rfl)) (fun _ h => h) d_lat_0 ?_
  refine lv_if_eq (tgt := 17) hx hb d_lat_3 (by decide) (fun h => absurd h (by decide)) (fun _ => ?_)
  refine lv_aload_n hx hb d_lat_6 rfl (lv_at hl 0 rfl) ?_
  refine vk_getf hx hb (hK k hk).2.1 hS hown (hts _ (jIn 8 rfl)) (fun _ h => h) d_lat_7 ?_
  refine lv_if_ne (tgt := 17) hx hb d_lat_10 (by decide) (fun h => absurd rfl h) (fun _ => ?_)
  refine lv_iconst hx hb d_lat_13 rfl ?_
  refine lv_goto (tgt := 18) hx hb d_lat_14 (by decide) ?_
  exact W.zret hx hb hr rfl (fun t ht hW => ⟨rfl, ht⟩) (fun q h => by cases h) d_lat_18 hlk
theorem d_len_0 : decode prog_29_method_54_code 0 = .ok (.aload_n 0, 1) := by decide +kernel
theorem d_len_1 : decode prog_29_method_54_code 1 = .ok (.getfield 9, 3) := by decide +kernel
theorem d_len_4 : decode prog_29_method_54_code 4 = .ok (.arraylength, 1) := by decide +kernel
theorem d_len_5 : decode prog_29_method_54_code 5 = .ok (.aload_n 0, 1) := by decide +kernel
theorem d_len_6 : decode prog_29_method_54_code 6 = .ok (.invokevirtual 335, 3) := by decide +kernel
theorem d_len_9 : decode prog_29_method_54_code 9 = .ok (.ishr, 1) := by decide +kernel
theorem d_len_10 : decode prog_29_method_54_code 10 = .ok (.ireturn, 1) := by decide +kernel
def jTxB (k : Nat) : Bool := decide ((mTs.map String.length).getD k 0 = (mTx k).length ∧ (mTx k).length < 1000) && (List.range (mTx k).length).all (fun j => decide ((((((mTx8.getD k []).getD j 0) &&& 255).toUInt32 % 65536).toInt32 = mO ((mTx k).getD j 0)) ∧ (0 ≤ (mTx k).getD j 0 ∧ (mTx k).getD j 0 ≤ 127)))
theorem jTx_all : (List.range 37).all jTxB = true := by decide +kernel
theorem jTx {k : Nat} (hk : k < 37) : (mTs.map String.length).getD k 0 = (mTx k).length ∧ (mTx k).length < 1000 ∧ ∀ j : Nat, j < (mTx k).length → (((((mTx8.getD k []).getD j 0) &&& 255).toUInt32 % 65536).toInt32 = mO ((mTx k).getD j 0)) ∧ (0 ≤ (mTx k).getD j 0 ∧ (mTx k).getD j 0 ≤ 127) := by
  have h := List.all_eq_true.mp jTx_all k (List.mem_range.mpr hk)
  unfold jTxB at h
  rw [Bool.and_eq_true, decide_eq_true_eq] at h
  exact ⟨h.1.1, h.1.2, fun j hj => of_decide_eq_true (List.all_eq_true.mp h.2 j (List.mem_range.mpr hj))⟩
theorem jc_len {ρ : mRho} (l : Launch) {k : Nat} (hk : k < 37) : jM ρ l jn_len prog_29_method_54_code 1 (some .int) 1 20 [.ref (ρ.2.2.2.2.2.2 k)] (some (.int (mO (mLen k)))) := by
  refine jE (by decide) (Nat.le_of_ble_eq_true rfl) ?_
  intro p e s m args below meth c ls hx hb hml hr hown hlk hts hWd hl
  have hWd0 := hWd
  obtain ⟨-, -, -, -, -, -, adV, hK⟩ := hWd
  have hS : va_S (mFree ρ) s.heap s.heap [] := va_S.rf
  refine lv_aload_n hx hb d_len_0 rfl (lv_at hl 0 rfl) ?_
  refine vk_getf hx hb (hK k hk).2.2.1 hS hown (hts _ (jIn 9 rfl)) (fun _ h => h) d_len_1 ?_
  refine va_tlen hx hb (hK k hk).2.2.2 hS (v := mO (mLen k)) (by rw [(jTx hk).1]; exact Int32.ofInt_eq_ofNat.symm) d_len_4 ?_
  refine lv_aload_n hx hb d_len_5 rfl (lv_at hl 0 rfl) ?_
  refine jGo (vx_runV (S := ⟨hx, hb, hml, hown, hts⟩) (hM := jc_coder (ρ := ρ) l hk) (C := "java/lang/String") (b := ρ.2.2.2.2.2.2 k) (As := []) (n := 0) ⟨jCb (f := 0) (n := 0) hts 0 27 rfl rfl (hts _ (jIn 11 rfl)) (by decide) ⟨Nat.le_of_ble_eq_true rfl, Nat.le_of_ble_eq_true rfl⟩, hts _ (jIn 16 rfl), hts _ (jIn 20 rfl)⟩ ⟨jP_blind _ _, jRecv hK hk hS, (jPre hWd0 (fun _ _ => rfl)).2⟩ rfl rfl hl.1 rfl (by show 2 * 0 + _ ≤ 8; exact (by decide : 1 ≤ 8)) d_len_6 ⟨Nat.le_of_ble_eq_true rfl, Nat.le_of_ble_eq_true rfl⟩) ?_
  refine lv_ishr hx hb d_len_9 ?_
  have e9 : mO (mLen k) >>> ((0 : Int32) &&& 31) = mO (mLen k) := by
    show mO (mLen k) >>> (0 : Int32) = _
    exact Int32.shiftRight_zero
  rw [e9]
  exact W.iret hx hb hr (fun t ht hW => ⟨rfl, ht⟩) (fun q h => by cases h) d_len_10 hlk
theorem d_chk3_0 : decode prog_40_method_11_code 0 = .ok (.iload_n 0, 1) := by decide +kernel
theorem d_chk3_1 : decode prog_40_method_11_code 1 = .ok (.ifCond .lt 8, 3) := by decide +kernel
theorem d_chk3_4 : decode prog_40_method_11_code 4 = .ok (.iload_n 0, 1) := by decide +kernel
theorem d_chk3_5 : decode prog_40_method_11_code 5 = .ok (.iload_n 1, 1) := by decide +kernel
theorem d_chk3_6 : decode prog_40_method_11_code 6 = .ok (.if_icmp .lt 10, 3) := by decide +kernel
theorem d_chk3_16 : decode prog_40_method_11_code 16 = .ok (.iload_n 0, 1) := by decide +kernel
theorem d_chk3_17 : decode prog_40_method_11_code 17 = .ok (.ireturn, 1) := by decide +kernel
theorem j3 {x y : Int32} {v : Value} (hv : v.category = 1) : ∀ w ∈ ([.int x, .int y, v] : List Value), w.category = 1 := by
  intro w hw
  rcases List.mem_cons.mp hw with rfl | hw
  · rfl
  · rcases List.mem_cons.mp hw with rfl | hw
    · rfl
    · rcases List.mem_cons.mp hw with rfl | hw
      · exact hv
      · cases hw
theorem jc_chk3 {ρ : mRho} (l : Launch) {i n : Int} {v : Value} (hv : v.category = 1) (hi : mIn i) (hn : mIn n) (h0 : 0 ≤ i) (h1 : i < n) : jM ρ l jn_chk3 prog_40_method_11_code 3 (some .int) 0 0 [.int (mO i), .int (mO n), v] (some (.int (mO i))) := by
  refine jE (by decide) (Nat.le_of_eq (lg_sl1 [.int (mO i), .int (mO n), v] (j3 hv))) ?_
  intro p e s m args below meth c ls hx hb hml hr hown hlk hts hWd hl
  refine lv_iload_n hx hb d_chk3_0 rfl (lv_at hl 0 rfl) ?_
  refine lv_if_lt (tgt := 9) hx hb d_chk3_1 (by decide) (fun h => absurd ((mO_lt hi mIn_0).mp h) (by omega)) (fun _ => ?_)
  refine lv_iload_n hx hb d_chk3_4 rfl (lv_at hl 0 rfl) ?_
  refine lv_iload_n hx hb d_chk3_5 rfl (lv_at hl 1 rfl) ?_
  refine lv_icmp_lt (tgt := 16) hx hb d_chk3_6 (by decide) (fun _ => ?_) (fun h => absurd ((mO_lt hi hn).mpr h1) h)
  refine lv_iload_n hx hb d_chk3_16 rfl (lv_at hl 0 rfl) ?_
  exact W.iret hx hb hr (fun t ht hW => ⟨rfl, ht⟩) (fun q h => by cases h) d_chk3_17 hlk
theorem d_chk_0 : decode prog_29_method_155_code 0 = .ok (.iload_n 0, 1) := by decide +kernel
theorem d_chk_1 : decode prog_29_method_155_code 1 = .ok (.iload_n 1, 1) := by decide +kernel
theorem d_chk_2 : decode prog_29_method_155_code 2 = .ok (.getstatic 1053, 3) := by decide +kernel
theorem d_chk_5 : decode prog_29_method_155_code 5 = .ok (.invokestatic 1059, 3) := by decide +kernel
theorem d_chk_8 : decode prog_29_method_155_code 8 = .ok (.pop, 1) := by decide +kernel
theorem d_chk_9 : decode prog_29_method_155_code 9 = .ok (.return_, 1) := by decide +kernel
theorem jc_chk {ρ : mRho} (l : Launch) {i n : Int} (hi : mIn i) (hn : mIn n) (h0 : 0 ≤ i) (h1 : i < n) : jM ρ l jn_chk prog_29_method_155_code 2 none 1 22 [.int (mO i), .int (mO n)] none := by
  refine jE (by decide) (Nat.le_of_ble_eq_true rfl) ?_
  intro p e s m args below meth c ls hx hb hml hr hown hlk hts hWd hl
  have hWd0 := hWd
  obtain ⟨-, -, -, -, -, ⟨-, ⟨v, hvc, hv⟩, -⟩, -⟩ := hWd
  have hS : va_S (mFree ρ) s.heap s.heap [] := va_S.rf
  refine lv_iload_n hx hb d_chk_0 rfl (lv_at hl 0 rfl) ?_
  refine lv_iload_n hx hb d_chk_1 rfl (lv_at hl 1 rfl) ?_
  refine va_gets hx hb hv hS hown (hts _ (jIn 10 rfl)) (fun _ h => h) d_chk_2 ?_
  refine jGo (vx_runS (S := ⟨hx, hb, hml, hown, hts⟩) (hM := jc_chk3 (ρ := ρ) l hvc hi hn h0 h1) (As := [.int (mO i), .int (mO n), v]) (rest := []) (n := 3) ⟨jCb (f := 0) (n := 0) hts 6 29 rfl rfl (hts _ (jIn 15 rfl)) (by decide) ⟨Nat.le_of_ble_eq_true rfl, Nat.le_of_ble_eq_true rfl⟩, hts _ (jIn 26 rfl)⟩ (jPre hWd0 (fun _ _ => rfl)) rfl rfl hl.1 rfl (show 2 * 0 + 0 ≤ 8 by decide) d_chk_5 ⟨Nat.le_of_ble_eq_true rfl, Nat.le_of_ble_eq_true rfl⟩) ?_
  refine lv_pop hx hb d_chk_8 rfl ?_
  exact W.vret hx hb hr (fun t ht hW => ⟨rfl, ht⟩) (fun q h => by cases h) d_chk_9 hlk
theorem d_chr1_0 : decode prog_31_method_2_code 0 = .ok (.iload_n 1, 1) := by decide +kernel
theorem d_chr1_1 : decode prog_31_method_2_code 1 = .ok (.aload_n 0, 1) := by decide +kernel
theorem d_chr1_2 : decode prog_31_method_2_code 2 = .ok (.arraylength, 1) := by decide +kernel
theorem d_chr1_3 : decode prog_31_method_2_code 3 = .ok (.invokestatic 9, 3) := by decide +kernel
theorem d_chr1_6 : decode prog_31_method_2_code 6 = .ok (.aload_n 0, 1) := by decide +kernel
theorem d_chr1_7 : decode prog_31_method_2_code 7 = .ok (.iload_n 1, 1) := by decide +kernel
theorem d_chr1_8 : decode prog_31_method_2_code 8 = .ok (.baload, 1) := by decide +kernel
theorem d_chr1_9 : decode prog_31_method_2_code 9 = .ok (.sipush 255, 3) := by decide +kernel
theorem d_chr1_12 : decode prog_31_method_2_code 12 = .ok (.iand, 1) := by decide +kernel
theorem d_chr1_13 : decode prog_31_method_2_code 13 = .ok (.i2c, 1) := by decide +kernel
theorem d_chr1_14 : decode prog_31_method_2_code 14 = .ok (.ireturn, 1) := by decide +kernel
theorem jNar {k : Nat} {i : Int} (h : 0 ≤ (mTx k).getD i.toNat 0 ∧ (mTx k).getD i.toNat 0 ≤ 127) : narrow .char (.int (mO (mTxt k i))) = .int (mO (mTxt k i)) := mNar_c (v := mTxt k i) ⟨h.1, Int.le_trans h.2 (by decide)⟩
def jPv (ρ : mRho) (k : Nat) (i : Int) : Array Value → State → Prop := fun v U => mWld ρ U U.heap ∧ ∃ (a : Nat), v = [Value.ref a, .int (mO i)].toArray ∧ va_T .byte a (mTx k).length (fun j => .int ((mTx8.getD k []).getD j 0)) (mFree ρ) U U.heap
theorem jPv_blind (ρ : mRho) (k : Nat) (i : Int) : FrameBlind (jPv ρ k i) := fun a U g mk h => ⟨mWld_warm (s := U) (U := U.calling g mk a) (State.WarmedH.refl U) (fun _ _ => rfl) h.1, by
  obtain ⟨-, x, h1, h2⟩ := h
  exact ⟨x, h1, va_T.moved (u := U) (U := U.calling g mk a) (Vm.Alike.refl U.vm) h2⟩⟩
theorem mIn_len {k : Nat} (hk : k < 37) : mIn (mLen k) := by
  have h := (jTx hk).2.1
  unfold mIn mLen
  omega
theorem jc_chr1 {ρ : mRho} (l : Launch) {k : Nat} {i : Int} (hk : k < 37) (h0 : 0 ≤ i) (h1 : i < mLen k) : vx_Met l jn_chr1 (Cond.code jn_chr1 prog_31_method_2_code 2 (some .char) :: mWl) (jR 2 43) (jPv ρ k i) (jOk (some (.int (mO (mTxt k i))))) jX 0 0 jF := by
  refine vx_ofW (cc := prog_31_method_2_code) (maxL := 2) (ret := some .char) (by decide) rfl ?_
  intro p e s m args below meth c s₁ B hml ht hP
  obtain ⟨hWd, a, rfl, hT⟩ := hP
  have hts0 := atoms_spec (ws := Cond.code jn_chr1 prog_31_method_2_code 2 (some .char) :: mWl) B.pre
  have hts : ∀ w ∈ mWl, w.before _ s = true := fun w hw => hts0 w (List.mem_cons_of_mem _ hw)
  have hx := B.exec
  have hb := B.bytes
  have hr := B.returns
  have hown : s.vm.findClass "java/lang/StringLatin1" = some m.cls := findClass_of_methodNamed B.named
  have hlk := B.notSynchronized
  have hl := lv_entry ([.ref a, .int (mO i)]) (n := 2) (Nat.le_of_ble_eq_true rfl)
  rw [lg_entry_eq]
  generalize (lg_sl ([.ref a, .int (mO i)]) ++ List.replicate (2 - (lg_sl ([.ref a, .int (mO i)])).length) Slot.unset).toArray = ls at hl ⊢
  have hl : lv_has ls 2 [(0, .ref a), (1, .int (mO i))] := hl
  have hS : va_S (mFree ρ) s.heap s.heap [] := va_S.rf
  have hln := (jTx hk).2.1
  have hi : mIn i := by unfold mLen at h1; unfold mIn; omega
  refine vx_ret ?_
  refine lv_iload_n hx hb d_chr1_0 rfl (lv_at hl 1 rfl) ?_
  refine lv_aload_n hx hb d_chr1_1 rfl (lv_at hl 0 rfl) ?_
  refine va_tlen hx hb hT hS (v := mO (mLen k)) Int32.ofInt_eq_ofNat.symm d_chr1_2 ?_
  refine jGo (vx_runS (S := ⟨hx, hb, hml, hown, hts⟩) (hM := jc_chk (ρ := ρ) l hi (mIn_len hk) h0 h1) (As := [.int (mO i), .int (mO (mLen k))]) (rest := []) (n := 2) ⟨jCb (f := 1) (n := 22) hts 5 27 rfl rfl (hts _ (jIn 14 rfl)) (by decide) ⟨Nat.le_of_ble_eq_true rfl, Nat.le_of_ble_eq_true rfl⟩, hts _ (jIn 25 rfl)⟩ (jPre hWd (fun _ _ => rfl)) rfl rfl hl.1 rfl (show 2 * 0 + 0 ≤ 8 by decide) d_chr1_3 ⟨Nat.le_refl _, Nat.le_refl _⟩) ?_
  refine lv_aload_n hx hb d_chr1_6 rfl (lv_at hl 0 rfl) ?_
  refine lv_iload_n hx hb d_chr1_7 rfl (lv_at hl 1 rfl) ?_
  have ei : (mO i).toNatClampNeg = i.toNat := mO_clamp hi h0
  have hj : i.toNat < (mTx k).length := by unfold mLen at h1; omega
  refine va_tb hx hb hT hS (i := mO i) (v := .int ((mTx8.getD k []).getD i.toNat 0)) (by
    rintro (h | h)
    · have := (mO_lt hi mIn_0).mp h; omega
    · rw [ei] at h; omega) (by rw [ei]) d_chr1_8 ?_
  refine lv_sipush hx hb d_chr1_9 (v := 255) rfl ?_
  refine lv_iand hx hb d_chr1_12 ?_
  refine lv_i2c hx hb d_chr1_13 (v := mO (mTxt k i)) ((jTx hk).2.2 i.toNat hj).1 ?_
  exact W.zret hx hb hr (jNar ((jTx hk).2.2 i.toNat hj).2) (fun t ht hW => ⟨rfl, ht⟩) (fun q h => by cases h) d_chr1_14 hlk
theorem d_chr_0 : decode prog_29_method_56_code 0 = .ok (.aload_n 0, 1) := by decide +kernel
theorem d_chr_1 : decode prog_29_method_56_code 1 = .ok (.invokevirtual 492, 3) := by decide +kernel
theorem d_chr_4 : decode prog_29_method_56_code 4 = .ok (.ifCond .eq 12, 3) := by decide +kernel
theorem d_chr_7 : decode prog_29_method_56_code 7 = .ok (.aload_n 0, 1) := by decide +kernel
theorem d_chr_8 : decode prog_29_method_56_code 8 = .ok (.getfield 9, 3) := by decide +kernel
theorem d_chr_11 : decode prog_29_method_56_code 11 = .ok (.iload_n 1, 1) := by decide +kernel
theorem d_chr_12 : decode prog_29_method_56_code 12 = .ok (.invokestatic 495, 3) := by decide +kernel
theorem d_chr_15 : decode prog_29_method_56_code 15 = .ok (.ireturn, 1) := by decide +kernel
theorem jc_chr {ρ : mRho} (l : Launch) {k : Nat} {i : Int} (hk : k < 37) (h0 : 0 ≤ i) (h1 : i < mLen k) : jM ρ l jn_chr prog_29_method_56_code 2 (some .char) 3 64 [.ref (ρ.2.2.2.2.2.2 k), .int (mO i)] (some (.int (mO (mTxt k i)))) := by
  refine jE (by decide) (Nat.le_of_ble_eq_true rfl) ?_
  intro p e s m args below meth c ls hx hb hml hr hown hlk hts hWd hl
  have hWd0 := hWd
  obtain ⟨-, -, -, -, -, -, adV, hK⟩ := hWd
  have hS : va_S (mFree ρ) s.heap s.heap [] := va_S.rf
  have hj : i.toNat < (mTx k).length := by unfold mLen at h1; omega
  refine lv_aload_n hx hb d_chr_0 rfl (lv_at hl 0 rfl) ?_
  refine jGo (vx_runV (S := ⟨hx, hb, hml, hown, hts⟩) (hM := jc_lat (ρ := ρ) l hk) (C := "java/lang/String") (b := ρ.2.2.2.2.2.2 k) (As := []) (n := 0) ⟨jCb (f := 0) (n := 0) hts 2 27 rfl rfl (hts _ (jIn 12 rfl)) (by decide) ⟨Nat.le_of_ble_eq_true rfl, Nat.le_of_ble_eq_true rfl⟩, hts _ (jIn 17 rfl), hts _ (jIn 21 rfl)⟩ ⟨jP_blind _ _, jRecv hK hk hS, (jPre hWd0 (fun _ _ => rfl)).2⟩ rfl rfl hl.1 rfl (by show 2 * 0 + _ ≤ 8; exact (by decide : 0 ≤ 8)) d_chr_1 ⟨Nat.le_of_ble_eq_true rfl, Nat.le_of_ble_eq_true rfl⟩) ?_
  refine lv_if_eq (tgt := 16) hx hb d_chr_4 (by decide) (fun h => absurd h (by decide)) (fun _ => ?_)
  refine lv_aload_n hx hb d_chr_7 rfl (lv_at hl 0 rfl) ?_
  refine vk_getf hx hb (hK k hk).2.2.1 hS hown (hts _ (jIn 9 rfl)) (fun _ h => h) d_chr_8 ?_
  refine lv_iload_n hx hb d_chr_11 rfl (lv_at hl 1 rfl) ?_
  have hT := (hK k hk).2.2.2
  rw [(jTx hk).1] at hT
  refine jGo (vx_runS (S := ⟨hx, hb, hml, hown, hts⟩) (hM := jc_chr1 (ρ := ρ) l hk h0 h1) (As := [.ref (adV k), .int (mO i)]) (rest := []) (n := 2) ⟨jCb (f := 2) (n := 43) hts 4 28 rfl rfl (hts _ (jIn 13 rfl)) (by decide) ⟨Nat.le_of_ble_eq_true rfl, Nat.le_of_ble_eq_true rfl⟩, hts _ (jIn 24 rfl)⟩ ⟨jPv_blind _ _ _, fun U hU hW => ⟨mWld_warm hW (fun q h => by rw [hU]) hWd0, adV k, rfl, by rw [hU]; exact va_T.moved hW.alike hT⟩⟩ rfl rfl hl.1 rfl (show 2 * 0 + 0 ≤ 8 by decide) d_chr_12 ⟨Nat.le_of_ble_eq_true rfl, Nat.le_of_ble_eq_true rfl⟩) ?_
  exact W.zret hx hb hr (jNar ((jTx hk).2.2 i.toNat hj).2) (fun t ht hW => ⟨rfl, ht⟩) (fun q h => by cases h) d_chr_15 hlk
