/-! the blocks: what stands at a place; a method's entry -/
theorem e_Ja_fill (D : Nat) (x0 x1 : mV) (I : mN) (S : mH) (Q : mQ) (h : mCs [x0, x1] ≤ 2) : mRun (D + 1) 0 [x0, x1] I S Q = mAt (mRun D) 0 0 ([some x0, some x1, none, none], [], I, S) Q := propext ⟨fun z => z.2, fun z => ⟨⟨h, Nat.le_of_ble_eq_true rfl⟩, z⟩⟩
theorem a_Ja_fill_0 (D : Nat) (c : mC) (Q : mQ) : mAt (mRun D) 0 0 c Q = mWp (mRun D) 0 5 (fun pc c => mAt (mRun D) 0 pc c Q) Q bk_Ja_fill_0 c := mAt_blk rfl
theorem a_Ja_fill_5 (D : Nat) (c : mC) (Q : mQ) : mAt (mRun D) 0 5 c Q = mWp (mRun D) 0 0 (fun pc c => mAt (mRun D) 0 pc c Q) Q bk_Ja_fill_5 c := mAt_blk rfl
theorem a_Ja_fill_20 (D : Nat) (c : mC) (Q : mQ) : mAt (mRun D) 0 20 c Q = mWp (mRun D) 0 0 (fun pc c => mAt (mRun D) 0 pc c Q) Q bk_Ja_fill_20 c := mAt_blk rfl
theorem e_Ja_fillR (D : Nat) (x0 x1 x2 x3 : mV) (I : mN) (S : mH) (Q : mQ) (h : mCs [x0, x1, x2, x3] ≤ 4) : mRun (D + 1) 1 [x0, x1, x2, x3] I S Q = mAt (mRun D) 1 0 ([some x0, some x1, some x2, some x3, none], [], I, S) Q := propext ⟨fun z => z.2, fun z => ⟨⟨h, Nat.le_of_ble_eq_true rfl⟩, z⟩⟩
theorem a_Ja_fillR_0 (D : Nat) (c : mC) (Q : mQ) : mAt (mRun D) 1 0 c Q = mWp (mRun D) 1 10 (fun pc c => mAt (mRun D) 1 pc c Q) Q bk_Ja_fillR_0 c := mAt_blk rfl
theorem a_Ja_fillR_10 (D : Nat) (c : mC) (Q : mQ) : mAt (mRun D) 1 10 c Q = mWp (mRun D) 1 0 (fun pc c => mAt (mRun D) 1 pc c Q) Q bk_Ja_fillR_10 c := mAt_blk rfl
theorem a_Ja_fillR_27 (D : Nat) (c : mC) (Q : mQ) : mAt (mRun D) 1 27 c Q = mWp (mRun D) 1 0 (fun pc c => mAt (mRun D) 1 pc c Q) Q bk_Ja_fillR_27 c := mAt_blk rfl
theorem e_Ja_rangeCheck (D : Nat) (x0 x1 x2 : mV) (I : mN) (S : mH) (Q : mQ) (h : mCs [x0, x1, x2] ≤ 3) : mRun (D + 1) 2 [x0, x1, x2] I S Q = mAt (mRun D) 2 0 ([some x0, some x1, some x2], [], I, S) Q := propext ⟨fun z => z.2, fun z => ⟨⟨h, Nat.le_of_ble_eq_true rfl⟩, z⟩⟩
theorem a_Ja_rangeCheck_0 (D : Nat) (c : mC) (Q : mQ) : mAt (mRun D) 2 0 c Q = mWp (mRun D) 2 0 (fun pc c => mAt (mRun D) 2 pc c Q) Q bk_Ja_rangeCheck_0 c := mAt_blk rfl
theorem a_Ja_rangeCheck_46 (D : Nat) (c : mC) (Q : mQ) : mAt (mRun D) 2 46 c Q = mWp (mRun D) 2 0 (fun pc c => mAt (mRun D) 2 pc c Q) Q bk_Ja_rangeCheck_46 c := mAt_blk rfl
theorem a_Ja_rangeCheck_59 (D : Nat) (c : mC) (Q : mQ) : mAt (mRun D) 2 59 c Q = mWp (mRun D) 2 0 (fun pc c => mAt (mRun D) 2 pc c Q) Q bk_Ja_rangeCheck_59 c := mAt_blk rfl
theorem a_Ja_rangeCheck_73 (D : Nat) (c : mC) (Q : mQ) : mAt (mRun D) 2 73 c Q = mWp (mRun D) 2 0 (fun pc c => mAt (mRun D) 2 pc c Q) Q bk_Ja_rangeCheck_73 c := mAt_blk rfl
theorem e_Ba_init (D : Nat) (x0 : mV) (I : mN) (S : mH) (Q : mQ) (h : mCs [x0] ≤ 1) : mRun (D + 1) 3 [x0] I S Q = mAt (mRun D) 3 0 ([some x0, none], [], I, S) Q := propext ⟨fun z => z.2, fun z => ⟨⟨h, Nat.le_of_ble_eq_true rfl⟩, z⟩⟩
theorem a_Ba_init_0 (D : Nat) (c : mC) (Q : mQ) : mAt (mRun D) 3 0 c Q = mWp (mRun D) 3 40 (fun pc c => mAt (mRun D) 3 pc c Q) Q bk_Ba_init_0 c := mAt_blk rfl
theorem a_Ba_init_40 (D : Nat) (c : mC) (Q : mQ) : mAt (mRun D) 3 40 c Q = mWp (mRun D) 3 0 (fun pc c => mAt (mRun D) 3 pc c Q) Q bk_Ba_init_40 c := mAt_blk rfl
theorem a_Ba_init_65 (D : Nat) (c : mC) (Q : mQ) : mAt (mRun D) 3 65 c Q = mWp (mRun D) 3 67 (fun pc c => mAt (mRun D) 3 pc c Q) Q bk_Ba_init_65 c := mAt_blk rfl
theorem a_Ba_init_67 (D : Nat) (c : mC) (Q : mQ) : mAt (mRun D) 3 67 c Q = mWp (mRun D) 3 0 (fun pc c => mAt (mRun D) 3 pc c Q) Q bk_Ba_init_67 c := mAt_blk rfl
theorem a_Ba_init_92 (D : Nat) (c : mC) (Q : mQ) : mAt (mRun D) 3 92 c Q = mWp (mRun D) 3 94 (fun pc c => mAt (mRun D) 3 pc c Q) Q bk_Ba_init_92 c := mAt_blk rfl
theorem a_Ba_init_94 (D : Nat) (c : mC) (Q : mQ) : mAt (mRun D) 3 94 c Q = mWp (mRun D) 3 0 (fun pc c => mAt (mRun D) 3 pc c Q) Q bk_Ba_init_94 c := mAt_blk rfl
theorem a_Ba_init_119 (D : Nat) (c : mC) (Q : mQ) : mAt (mRun D) 3 119 c Q = mWp (mRun D) 3 0 (fun pc c => mAt (mRun D) 3 pc c Q) Q bk_Ba_init_119 c := mAt_blk rfl
theorem e_Ba_reset (D : Nat) (x0 : mV) (I : mN) (S : mH) (Q : mQ) (h : mCs [x0] ≤ 1) : mRun (D + 1) 4 [x0] I S Q = mAt (mRun D) 4 0 ([some x0], [], I, S) Q := propext ⟨fun z => z.2, fun z => ⟨⟨h, Nat.le_of_ble_eq_true rfl⟩, z⟩⟩
theorem a_Ba_reset_0 (D : Nat) (c : mC) (Q : mQ) : mAt (mRun D) 4 0 c Q = mWp (mRun D) 4 0 (fun pc c => mAt (mRun D) 4 pc c Q) Q bk_Ba_reset_0 c := mAt_blk rfl
theorem e_Ba_copyFrom (D : Nat) (x0 x1 : mV) (I : mN) (S : mH) (Q : mQ) (h : mCs [x0, x1] ≤ 2) : mRun (D + 1) 5 [x0, x1] I S Q = mAt (mRun D) 5 0 ([some x0, some x1, none], [], I, S) Q := propext ⟨fun z => z.2, fun z => ⟨⟨h, Nat.le_of_ble_eq_true rfl⟩, z⟩⟩
theorem a_Ba_copyFrom_0 (D : Nat) (c : mC) (Q : mQ) : mAt (mRun D) 5 0 c Q = mWp (mRun D) 5 34 (fun pc c => mAt (mRun D) 5 pc c Q) Q bk_Ba_copyFrom_0 c := mAt_blk rfl
theorem a_Ba_copyFrom_34 (D : Nat) (c : mC) (Q : mQ) : mAt (mRun D) 5 34 c Q = mWp (mRun D) 5 0 (fun pc c => mAt (mRun D) 5 pc c Q) Q bk_Ba_copyFrom_34 c := mAt_blk rfl
theorem a_Ba_copyFrom_61 (D : Nat) (c : mC) (Q : mQ) : mAt (mRun D) 5 61 c Q = mWp (mRun D) 5 63 (fun pc c => mAt (mRun D) 5 pc c Q) Q bk_Ba_copyFrom_61 c := mAt_blk rfl
theorem a_Ba_copyFrom_63 (D : Nat) (c : mC) (Q : mQ) : mAt (mRun D) 5 63 c Q = mWp (mRun D) 5 0 (fun pc c => mAt (mRun D) 5 pc c Q) Q bk_Ba_copyFrom_63 c := mAt_blk rfl
theorem a_Ba_copyFrom_90 (D : Nat) (c : mC) (Q : mQ) : mAt (mRun D) 5 90 c Q = mWp (mRun D) 5 92 (fun pc c => mAt (mRun D) 5 pc c Q) Q bk_Ba_copyFrom_90 c := mAt_blk rfl
theorem a_Ba_copyFrom_92 (D : Nat) (c : mC) (Q : mQ) : mAt (mRun D) 5 92 c Q = mWp (mRun D) 5 0 (fun pc c => mAt (mRun D) 5 pc c Q) Q bk_Ba_copyFrom_92 c := mAt_blk rfl
theorem a_Ba_copyFrom_119 (D : Nat) (c : mC) (Q : mQ) : mAt (mRun D) 5 119 c Q = mWp (mRun D) 5 121 (fun pc c => mAt (mRun D) 5 pc c Q) Q bk_Ba_copyFrom_119 c := mAt_blk rfl
theorem a_Ba_copyFrom_121 (D : Nat) (c : mC) (Q : mQ) : mAt (mRun D) 5 121 c Q = mWp (mRun D) 5 0 (fun pc c => mAt (mRun D) 5 pc c Q) Q bk_Ba_copyFrom_121 c := mAt_blk rfl
theorem a_Ba_copyFrom_144 (D : Nat) (c : mC) (Q : mQ) : mAt (mRun D) 5 144 c Q = mWp (mRun D) 5 0 (fun pc c => mAt (mRun D) 5 pc c Q) Q bk_Ba_copyFrom_144 c := mAt_blk rfl
theorem e_Ba_forgetPlans (D : Nat) (x0 : mV) (I : mN) (S : mH) (Q : mQ) (h : mCs [x0] ≤ 1) : mRun (D + 1) 6 [x0] I S Q = mAt (mRun D) 6 0 ([some x0, none], [], I, S) Q := propext ⟨fun z => z.2, fun z => ⟨⟨h, Nat.le_of_ble_eq_true rfl⟩, z⟩⟩
theorem a_Ba_forgetPlans_0 (D : Nat) (c : mC) (Q : mQ) : mAt (mRun D) 6 0 c Q = mWp (mRun D) 6 2 (fun pc c => mAt (mRun D) 6 pc c Q) Q bk_Ba_forgetPlans_0 c := mAt_blk rfl
theorem a_Ba_forgetPlans_2 (D : Nat) (c : mC) (Q : mQ) : mAt (mRun D) 6 2 c Q = mWp (mRun D) 6 0 (fun pc c => mAt (mRun D) 6 pc c Q) Q bk_Ba_forgetPlans_2 c := mAt_blk rfl
theorem a_Ba_forgetPlans_20 (D : Nat) (c : mC) (Q : mQ) : mAt (mRun D) 6 20 c Q = mWp (mRun D) 6 0 (fun pc c => mAt (mRun D) 6 pc c Q) Q bk_Ba_forgetPlans_20 c := mAt_blk rfl
theorem e_Ba_joinPlace (D : Nat) (x0 x1 x2 : mV) (I : mN) (S : mH) (Q : mQ) (h : mCs [x0, x1, x2] ≤ 3) : mRun (D + 1) 7 [x0, x1, x2] I S Q = mAt (mRun D) 7 0 ([some x0, some x1, some x2, none], [], I, S) Q := propext ⟨fun z => z.2, fun z => ⟨⟨h, Nat.le_of_ble_eq_true rfl⟩, z⟩⟩
theorem a_Ba_joinPlace_0 (D : Nat) (c : mC) (Q : mQ) : mAt (mRun D) 7 0 c Q = mWp (mRun D) 7 48 (fun pc c => mAt (mRun D) 7 pc c Q) Q bk_Ba_joinPlace_0 c := mAt_blk rfl
theorem a_Ba_joinPlace_48 (D : Nat) (c : mC) (Q : mQ) : mAt (mRun D) 7 48 c Q = mWp (mRun D) 7 0 (fun pc c => mAt (mRun D) 7 pc c Q) Q bk_Ba_joinPlace_48 c := mAt_blk rfl
theorem e_Ba_joinReach (D : Nat) (x0 x1 x2 x3 x4 : mV) (I : mN) (S : mH) (Q : mQ) (h : mCs [x0, x1, x2, x3, x4] ≤ 5) : mRun (D + 1) 8 [x0, x1, x2, x3, x4] I S Q = mAt (mRun D) 8 0 ([some x0, some x1, some x2, some x3, some x4, none], [], I, S) Q := propext ⟨fun z => z.2, fun z => ⟨⟨h, Nat.le_of_ble_eq_true rfl⟩, z⟩⟩
theorem a_Ba_joinReach_0 (D : Nat) (c : mC) (Q : mQ) : mAt (mRun D) 8 0 c Q = mWp (mRun D) 8 63 (fun pc c => mAt (mRun D) 8 pc c Q) Q bk_Ba_joinReach_0 c := mAt_blk rfl
theorem a_Ba_joinReach_63 (D : Nat) (c : mC) (Q : mQ) : mAt (mRun D) 8 63 c Q = mWp (mRun D) 8 0 (fun pc c => mAt (mRun D) 8 pc c Q) Q bk_Ba_joinReach_63 c := mAt_blk rfl
theorem e_Ba_joinRight (D : Nat) (x0 x1 x2 x3 : mV) (I : mN) (S : mH) (Q : mQ) (h : mCs [x0, x1, x2, x3] ≤ 4) : mRun (D + 1) 9 [x0, x1, x2, x3] I S Q = mAt (mRun D) 9 0 ([some x0, some x1, some x2, some x3, none], [], I, S) Q := propext ⟨fun z => z.2, fun z => ⟨⟨h, Nat.le_of_ble_eq_true rfl⟩, z⟩⟩
theorem a_Ba_joinRight_0 (D : Nat) (c : mC) (Q : mQ) : mAt (mRun D) 9 0 c Q = mWp (mRun D) 9 62 (fun pc c => mAt (mRun D) 9 pc c Q) Q bk_Ba_joinRight_0 c := mAt_blk rfl
theorem a_Ba_joinRight_62 (D : Nat) (c : mC) (Q : mQ) : mAt (mRun D) 9 62 c Q = mWp (mRun D) 9 0 (fun pc c => mAt (mRun D) 9 pc c Q) Q bk_Ba_joinRight_62 c := mAt_blk rfl
theorem e_Ba_canLeaseOut (D : Nat) (x0 x1 x2 x3 x4 : mV) (I : mN) (S : mH) (Q : mQ) (h : mCs [x0, x1, x2, x3, x4] ≤ 5) : mRun (D + 1) 10 [x0, x1, x2, x3, x4] I S Q = mAt (mRun D) 10 0 ([some x0, some x1, some x2, some x3, some x4, none, none], [], I, S) Q := propext ⟨fun z => z.2, fun z => ⟨⟨h, Nat.le_of_ble_eq_true rfl⟩, z⟩⟩
theorem a_Ba_canLeaseOut_0 (D : Nat) (c : mC) (Q : mQ) : mAt (mRun D) 10 0 c Q = mWp (mRun D) 10 33 (fun pc c => mAt (mRun D) 10 pc c Q) Q bk_Ba_canLeaseOut_0 c := mAt_blk rfl
theorem a_Ba_canLeaseOut_33 (D : Nat) (c : mC) (Q : mQ) : mAt (mRun D) 10 33 c Q = mWp (mRun D) 10 0 (fun pc c => mAt (mRun D) 10 pc c Q) Q bk_Ba_canLeaseOut_33 c := mAt_blk rfl
theorem a_Ba_canLeaseOut_35 (D : Nat) (c : mC) (Q : mQ) : mAt (mRun D) 10 35 c Q = mWp (mRun D) 10 38 (fun pc c => mAt (mRun D) 10 pc c Q) Q bk_Ba_canLeaseOut_35 c := mAt_blk rfl
theorem a_Ba_canLeaseOut_38 (D : Nat) (c : mC) (Q : mQ) : mAt (mRun D) 10 38 c Q = mWp (mRun D) 10 0 (fun pc c => mAt (mRun D) 10 pc c Q) Q bk_Ba_canLeaseOut_38 c := mAt_blk rfl
theorem a_Ba_canLeaseOut_66 (D : Nat) (c : mC) (Q : mQ) : mAt (mRun D) 10 66 c Q = mWp (mRun D) 10 0 (fun pc c => mAt (mRun D) 10 pc c Q) Q bk_Ba_canLeaseOut_66 c := mAt_blk rfl
theorem a_Ba_canLeaseOut_72 (D : Nat) (c : mC) (Q : mQ) : mAt (mRun D) 10 72 c Q = mWp (mRun D) 10 0 (fun pc c => mAt (mRun D) 10 pc c Q) Q bk_Ba_canLeaseOut_72 c := mAt_blk rfl
theorem e_Ba_leaseOut (D : Nat) (x0 x1 x2 x3 x4 x5 : mV) (I : mN) (S : mH) (Q : mQ) (h : mCs [x0, x1, x2, x3, x4, x5] ≤ 6) : mRun (D + 1) 11 [x0, x1, x2, x3, x4, x5] I S Q = mAt (mRun D) 11 0 ([some x0, some x1, some x2, some x3, some x4, some x5, none, none, none, none], [], I, S) Q := propext ⟨fun z => z.2, fun z => ⟨⟨h, Nat.le_of_ble_eq_true rfl⟩, z⟩⟩
theorem a_Ba_leaseOut_0 (D : Nat) (c : mC) (Q : mQ) : mAt (mRun D) 11 0 c Q = mWp (mRun D) 11 0 (fun pc c => mAt (mRun D) 11 pc c Q) Q bk_Ba_leaseOut_0 c := mAt_blk rfl
theorem a_Ba_leaseOut_14 (D : Nat) (c : mC) (Q : mQ) : mAt (mRun D) 11 14 c Q = mWp (mRun D) 11 66 (fun pc c => mAt (mRun D) 11 pc c Q) Q bk_Ba_leaseOut_14 c := mAt_blk rfl
theorem a_Ba_leaseOut_66 (D : Nat) (c : mC) (Q : mQ) : mAt (mRun D) 11 66 c Q = mWp (mRun D) 11 0 (fun pc c => mAt (mRun D) 11 pc c Q) Q bk_Ba_leaseOut_66 c := mAt_blk rfl
theorem a_Ba_leaseOut_107 (D : Nat) (c : mC) (Q : mQ) : mAt (mRun D) 11 107 c Q = mWp (mRun D) 11 0 (fun pc c => mAt (mRun D) 11 pc c Q) Q bk_Ba_leaseOut_107 c := mAt_blk rfl
theorem e_Ba_isOlder (D : Nat) (x0 x1 x2 : mV) (I : mN) (S : mH) (Q : mQ) (h : mCs [x0, x1, x2] ≤ 3) : mRun (D + 1) 12 [x0, x1, x2] I S Q = mAt (mRun D) 12 0 ([some x0, some x1, some x2, none, none], [], I, S) Q := propext ⟨fun z => z.2, fun z => ⟨⟨h, Nat.le_of_ble_eq_true rfl⟩, z⟩⟩
theorem a_Ba_isOlder_0 (D : Nat) (c : mC) (Q : mQ) : mAt (mRun D) 12 0 c Q = mWp (mRun D) 12 0 (fun pc c => mAt (mRun D) 12 pc c Q) Q bk_Ba_isOlder_0 c := mAt_blk rfl
theorem a_Ba_isOlder_43 (D : Nat) (c : mC) (Q : mQ) : mAt (mRun D) 12 43 c Q = mWp (mRun D) 12 44 (fun pc c => mAt (mRun D) 12 pc c Q) Q bk_Ba_isOlder_43 c := mAt_blk rfl
theorem a_Ba_isOlder_44 (D : Nat) (c : mC) (Q : mQ) : mAt (mRun D) 12 44 c Q = mWp (mRun D) 12 0 (fun pc c => mAt (mRun D) 12 pc c Q) Q bk_Ba_isOlder_44 c := mAt_blk rfl
theorem a_Ba_isOlder_45 (D : Nat) (c : mC) (Q : mQ) : mAt (mRun D) 12 45 c Q = mWp (mRun D) 12 0 (fun pc c => mAt (mRun D) 12 pc c Q) Q bk_Ba_isOlder_45 c := mAt_blk rfl
theorem a_Ba_isOlder_73 (D : Nat) (c : mC) (Q : mQ) : mAt (mRun D) 12 73 c Q = mWp (mRun D) 12 74 (fun pc c => mAt (mRun D) 12 pc c Q) Q bk_Ba_isOlder_73 c := mAt_blk rfl
theorem a_Ba_isOlder_74 (D : Nat) (c : mC) (Q : mQ) : mAt (mRun D) 12 74 c Q = mWp (mRun D) 12 0 (fun pc c => mAt (mRun D) 12 pc c Q) Q bk_Ba_isOlder_74 c := mAt_blk rfl
theorem a_Ba_isOlder_75 (D : Nat) (c : mC) (Q : mQ) : mAt (mRun D) 12 75 c Q = mWp (mRun D) 12 0 (fun pc c => mAt (mRun D) 12 pc c Q) Q bk_Ba_isOlder_75 c := mAt_blk rfl
theorem a_Ba_isOlder_84 (D : Nat) (c : mC) (Q : mQ) : mAt (mRun D) 12 84 c Q = mWp (mRun D) 12 85 (fun pc c => mAt (mRun D) 12 pc c Q) Q bk_Ba_isOlder_84 c := mAt_blk rfl
theorem a_Ba_isOlder_85 (D : Nat) (c : mC) (Q : mQ) : mAt (mRun D) 12 85 c Q = mWp (mRun D) 12 0 (fun pc c => mAt (mRun D) 12 pc c Q) Q bk_Ba_isOlder_85 c := mAt_blk rfl
theorem e_Ba_rank (D : Nat) (x0 x1 : mV) (I : mN) (S : mH) (Q : mQ) (h : mCs [x0, x1] ≤ 2) : mRun (D + 1) 13 [x0, x1] I S Q = mAt (mRun D) 13 0 ([some x0, some x1, none, none], [], I, S) Q := propext ⟨fun z => z.2, fun z => ⟨⟨h, Nat.le_of_ble_eq_true rfl⟩, z⟩⟩
theorem a_Ba_rank_0 (D : Nat) (c : mC) (Q : mQ) : mAt (mRun D) 13 0 c Q = mWp (mRun D) 13 4 (fun pc c => mAt (mRun D) 13 pc c Q) Q bk_Ba_rank_0 c := mAt_blk rfl
theorem a_Ba_rank_4 (D : Nat) (c : mC) (Q : mQ) : mAt (mRun D) 13 4 c Q = mWp (mRun D) 13 24 (fun pc c => mAt (mRun D) 13 pc c Q) Q bk_Ba_rank_4 c := mAt_blk rfl
theorem a_Ba_rank_24 (D : Nat) (c : mC) (Q : mQ) : mAt (mRun D) 13 24 c Q = mWp (mRun D) 13 0 (fun pc c => mAt (mRun D) 13 pc c Q) Q bk_Ba_rank_24 c := mAt_blk rfl
theorem a_Ba_rank_30 (D : Nat) (c : mC) (Q : mQ) : mAt (mRun D) 13 30 c Q = mWp (mRun D) 13 0 (fun pc c => mAt (mRun D) 13 pc c Q) Q bk_Ba_rank_30 c := mAt_blk rfl
theorem e_Ba_rightOfRank (D : Nat) (x0 x1 : mV) (I : mN) (S : mH) (Q : mQ) (h : mCs [x0, x1] ≤ 2) : mRun (D + 1) 14 [x0, x1] I S Q = mAt (mRun D) 14 0 ([some x0, some x1, none], [], I, S) Q := propext ⟨fun z => z.2, fun z => ⟨⟨h, Nat.le_of_ble_eq_true rfl⟩, z⟩⟩
theorem a_Ba_rightOfRank_0 (D : Nat) (c : mC) (Q : mQ) : mAt (mRun D) 14 0 c Q = mWp (mRun D) 14 2 (fun pc c => mAt (mRun D) 14 pc c Q) Q bk_Ba_rightOfRank_0 c := mAt_blk rfl
theorem a_Ba_rightOfRank_2 (D : Nat) (c : mC) (Q : mQ) : mAt (mRun D) 14 2 c Q = mWp (mRun D) 14 0 (fun pc c => mAt (mRun D) 14 pc c Q) Q bk_Ba_rightOfRank_2 c := mAt_blk rfl
theorem a_Ba_rightOfRank_21 (D : Nat) (c : mC) (Q : mQ) : mAt (mRun D) 14 21 c Q = mWp (mRun D) 14 0 (fun pc c => mAt (mRun D) 14 pc c Q) Q bk_Ba_rightOfRank_21 c := mAt_blk rfl
theorem a_Ba_rightOfRank_27 (D : Nat) (c : mC) (Q : mQ) : mAt (mRun D) 14 27 c Q = mWp (mRun D) 14 0 (fun pc c => mAt (mRun D) 14 pc c Q) Q bk_Ba_rightOfRank_27 c := mAt_blk rfl
theorem e_Ba_given (D : Nat) (x0 x1 x2 x3 : mV) (I : mN) (S : mH) (Q : mQ) (h : mCs [x0, x1, x2, x3] ≤ 4) : mRun (D + 1) 15 [x0, x1, x2, x3] I S Q = mAt (mRun D) 15 0 ([some x0, some x1, some x2, some x3], [], I, S) Q := propext ⟨fun z => z.2, fun z => ⟨⟨h, Nat.le_of_ble_eq_true rfl⟩, z⟩⟩
theorem a_Ba_given_0 (D : Nat) (c : mC) (Q : mQ) : mAt (mRun D) 15 0 c Q = mWp (mRun D) 15 0 (fun pc c => mAt (mRun D) 15 pc c Q) Q bk_Ba_given_0 c := mAt_blk rfl
theorem a_Ba_given_27 (D : Nat) (c : mC) (Q : mQ) : mAt (mRun D) 15 27 c Q = mWp (mRun D) 15 28 (fun pc c => mAt (mRun D) 15 pc c Q) Q bk_Ba_given_27 c := mAt_blk rfl
theorem a_Ba_given_28 (D : Nat) (c : mC) (Q : mQ) : mAt (mRun D) 15 28 c Q = mWp (mRun D) 15 0 (fun pc c => mAt (mRun D) 15 pc c Q) Q bk_Ba_given_28 c := mAt_blk rfl
theorem e_Ba_amountsFrom (D : Nat) (x0 x1 x2 : mV) (I : mN) (S : mH) (Q : mQ) (h : mCs [x0, x1, x2] ≤ 3) : mRun (D + 1) 16 [x0, x1, x2] I S Q = mAt (mRun D) 16 0 ([some x0, some x1, some x2, none, none], [], I, S) Q := propext ⟨fun z => z.2, fun z => ⟨⟨h, Nat.le_of_ble_eq_true rfl⟩, z⟩⟩
theorem a_Ba_amountsFrom_0 (D : Nat) (c : mC) (Q : mQ) : mAt (mRun D) 16 0 c Q = mWp (mRun D) 16 5 (fun pc c => mAt (mRun D) 16 pc c Q) Q bk_Ba_amountsFrom_0 c := mAt_blk rfl
theorem a_Ba_amountsFrom_5 (D : Nat) (c : mC) (Q : mQ) : mAt (mRun D) 16 5 c Q = mWp (mRun D) 16 0 (fun pc c => mAt (mRun D) 16 pc c Q) Q bk_Ba_amountsFrom_5 c := mAt_blk rfl
theorem a_Ba_amountsFrom_33 (D : Nat) (c : mC) (Q : mQ) : mAt (mRun D) 16 33 c Q = mWp (mRun D) 16 0 (fun pc c => mAt (mRun D) 16 pc c Q) Q bk_Ba_amountsFrom_33 c := mAt_blk rfl
theorem e_Ba_getsLess (D : Nat) (x0 x1 x2 x3 : mV) (I : mN) (S : mH) (Q : mQ) (h : mCs [x0, x1, x2, x3] ≤ 4) : mRun (D + 1) 17 [x0, x1, x2, x3] I S Q = mAt (mRun D) 17 0 ([some x0, some x1, some x2, some x3, none], [], I, S) Q := propext ⟨fun z => z.2, fun z => ⟨⟨h, Nat.le_of_ble_eq_true rfl⟩, z⟩⟩
theorem a_Ba_getsLess_0 (D : Nat) (c : mC) (Q : mQ) : mAt (mRun D) 17 0 c Q = mWp (mRun D) 17 6 (fun pc c => mAt (mRun D) 17 pc c Q) Q bk_Ba_getsLess_0 c := mAt_blk rfl
theorem a_Ba_getsLess_6 (D : Nat) (c : mC) (Q : mQ) : mAt (mRun D) 17 6 c Q = mWp (mRun D) 17 0 (fun pc c => mAt (mRun D) 17 pc c Q) Q bk_Ba_getsLess_6 c := mAt_blk rfl
theorem a_Ba_getsLess_34 (D : Nat) (c : mC) (Q : mQ) : mAt (mRun D) 17 34 c Q = mWp (mRun D) 17 0 (fun pc c => mAt (mRun D) 17 pc c Q) Q bk_Ba_getsLess_34 c := mAt_blk rfl
theorem a_Ba_getsLess_40 (D : Nat) (c : mC) (Q : mQ) : mAt (mRun D) 17 40 c Q = mWp (mRun D) 17 0 (fun pc c => mAt (mRun D) 17 pc c Q) Q bk_Ba_getsLess_40 c := mAt_blk rfl
theorem e_Ba_isUnlike (D : Nat) (x0 x1 x2 : mV) (I : mN) (S : mH) (Q : mQ) (h : mCs [x0, x1, x2] ≤ 3) : mRun (D + 1) 18 [x0, x1, x2] I S Q = mAt (mRun D) 18 0 ([some x0, some x1, some x2], [], I, S) Q := propext ⟨fun z => z.2, fun z => ⟨⟨h, Nat.le_of_ble_eq_true rfl⟩, z⟩⟩
theorem a_Ba_isUnlike_0 (D : Nat) (c : mC) (Q : mQ) : mAt (mRun D) 18 0 c Q = mWp (mRun D) 18 20 (fun pc c => mAt (mRun D) 18 pc c Q) Q bk_Ba_isUnlike_0 c := mAt_blk rfl
theorem a_Ba_isUnlike_20 (D : Nat) (c : mC) (Q : mQ) : mAt (mRun D) 18 20 c Q = mWp (mRun D) 18 0 (fun pc c => mAt (mRun D) 18 pc c Q) Q bk_Ba_isUnlike_20 c := mAt_blk rfl
theorem a_Ba_isUnlike_24 (D : Nat) (c : mC) (Q : mQ) : mAt (mRun D) 18 24 c Q = mWp (mRun D) 18 25 (fun pc c => mAt (mRun D) 18 pc c Q) Q bk_Ba_isUnlike_24 c := mAt_blk rfl
theorem a_Ba_isUnlike_25 (D : Nat) (c : mC) (Q : mQ) : mAt (mRun D) 18 25 c Q = mWp (mRun D) 18 0 (fun pc c => mAt (mRun D) 18 pc c Q) Q bk_Ba_isUnlike_25 c := mAt_blk rfl
theorem e_Ba_takenIn (D : Nat) (x0 x1 x2 x3 : mV) (I : mN) (S : mH) (Q : mQ) (h : mCs [x0, x1, x2, x3] ≤ 4) : mRun (D + 1) 19 [x0, x1, x2, x3] I S Q = mAt (mRun D) 19 0 ([some x0, some x1, some x2, some x3, none, none, none, none], [], I, S) Q := propext ⟨fun z => z.2, fun z => ⟨⟨h, Nat.le_of_ble_eq_true rfl⟩, z⟩⟩
theorem a_Ba_takenIn_0 (D : Nat) (c : mC) (Q : mQ) : mAt (mRun D) 19 0 c Q = mWp (mRun D) 19 6 (fun pc c => mAt (mRun D) 19 pc c Q) Q bk_Ba_takenIn_0 c := mAt_blk rfl
theorem a_Ba_takenIn_6 (D : Nat) (c : mC) (Q : mQ) : mAt (mRun D) 19 6 c Q = mWp (mRun D) 19 0 (fun pc c => mAt (mRun D) 19 pc c Q) Q bk_Ba_takenIn_6 c := mAt_blk rfl
theorem a_Ba_takenIn_25 (D : Nat) (c : mC) (Q : mQ) : mAt (mRun D) 19 25 c Q = mWp (mRun D) 19 0 (fun pc c => mAt (mRun D) 19 pc c Q) Q bk_Ba_takenIn_25 c := mAt_blk rfl
theorem a_Ba_takenIn_40 (D : Nat) (c : mC) (Q : mQ) : mAt (mRun D) 19 40 c Q = mWp (mRun D) 19 41 (fun pc c => mAt (mRun D) 19 pc c Q) Q bk_Ba_takenIn_40 c := mAt_blk rfl
theorem a_Ba_takenIn_41 (D : Nat) (c : mC) (Q : mQ) : mAt (mRun D) 19 41 c Q = mWp (mRun D) 19 49 (fun pc c => mAt (mRun D) 19 pc c Q) Q bk_Ba_takenIn_41 c := mAt_blk rfl
theorem a_Ba_takenIn_49 (D : Nat) (c : mC) (Q : mQ) : mAt (mRun D) 19 49 c Q = mWp (mRun D) 19 95 (fun pc c => mAt (mRun D) 19 pc c Q) Q bk_Ba_takenIn_49 c := mAt_blk rfl
theorem a_Ba_takenIn_95 (D : Nat) (c : mC) (Q : mQ) : mAt (mRun D) 19 95 c Q = mWp (mRun D) 19 0 (fun pc c => mAt (mRun D) 19 pc c Q) Q bk_Ba_takenIn_95 c := mAt_blk rfl
theorem a_Ba_takenIn_101 (D : Nat) (c : mC) (Q : mQ) : mAt (mRun D) 19 101 c Q = mWp (mRun D) 19 0 (fun pc c => mAt (mRun D) 19 pc c Q) Q bk_Ba_takenIn_101 c := mAt_blk rfl
theorem a_Ba_takenIn_107 (D : Nat) (c : mC) (Q : mQ) : mAt (mRun D) 19 107 c Q = mWp (mRun D) 19 0 (fun pc c => mAt (mRun D) 19 pc c Q) Q bk_Ba_takenIn_107 c := mAt_blk rfl
theorem e_Ba_wrongSendings (D : Nat) (x0 : mV) (I : mN) (S : mH) (Q : mQ) (h : mCs [x0] ≤ 1) : mRun (D + 1) 20 [x0] I S Q = mAt (mRun D) 20 0 ([some x0, none, none, none], [], I, S) Q := propext ⟨fun z => z.2, fun z => ⟨⟨h, Nat.le_of_ble_eq_true rfl⟩, z⟩⟩
theorem a_Ba_wrongSendings_0 (D : Nat) (c : mC) (Q : mQ) : mAt (mRun D) 20 0 c Q = mWp (mRun D) 20 4 (fun pc c => mAt (mRun D) 20 pc c Q) Q bk_Ba_wrongSendings_0 c := mAt_blk rfl
theorem a_Ba_wrongSendings_4 (D : Nat) (c : mC) (Q : mQ) : mAt (mRun D) 20 4 c Q = mWp (mRun D) 20 17 (fun pc c => mAt (mRun D) 20 pc c Q) Q bk_Ba_wrongSendings_4 c := mAt_blk rfl
theorem a_Ba_wrongSendings_17 (D : Nat) (c : mC) (Q : mQ) : mAt (mRun D) 20 17 c Q = mWp (mRun D) 20 51 (fun pc c => mAt (mRun D) 20 pc c Q) Q bk_Ba_wrongSendings_17 c := mAt_blk rfl
theorem a_Ba_wrongSendings_51 (D : Nat) (c : mC) (Q : mQ) : mAt (mRun D) 20 51 c Q = mWp (mRun D) 20 0 (fun pc c => mAt (mRun D) 20 pc c Q) Q bk_Ba_wrongSendings_51 c := mAt_blk rfl
theorem a_Ba_wrongSendings_57 (D : Nat) (c : mC) (Q : mQ) : mAt (mRun D) 20 57 c Q = mWp (mRun D) 20 0 (fun pc c => mAt (mRun D) 20 pc c Q) Q bk_Ba_wrongSendings_57 c := mAt_blk rfl
theorem a_Ba_wrongSendings_63 (D : Nat) (c : mC) (Q : mQ) : mAt (mRun D) 20 63 c Q = mWp (mRun D) 20 0 (fun pc c => mAt (mRun D) 20 pc c Q) Q bk_Ba_wrongSendings_63 c := mAt_blk rfl
theorem e_Br_init (D : Nat) (x0 : mV) (I : mN) (S : mH) (Q : mQ) (h : mCs [x0] ≤ 1) : mRun (D + 1) 21 [x0] I S Q = mAt (mRun D) 21 0 ([some x0, none], [], I, S) Q := propext ⟨fun z => z.2, fun z => ⟨⟨h, Nat.le_of_ble_eq_true rfl⟩, z⟩⟩
theorem a_Br_init_0 (D : Nat) (c : mC) (Q : mQ) : mAt (mRun D) 21 0 c Q = mWp (mRun D) 21 15 (fun pc c => mAt (mRun D) 21 pc c Q) Q bk_Br_init_0 c := mAt_blk rfl
theorem a_Br_init_15 (D : Nat) (c : mC) (Q : mQ) : mAt (mRun D) 21 15 c Q = mWp (mRun D) 21 0 (fun pc c => mAt (mRun D) 21 pc c Q) Q bk_Br_init_15 c := mAt_blk rfl
theorem a_Br_init_40 (D : Nat) (c : mC) (Q : mQ) : mAt (mRun D) 21 40 c Q = mWp (mRun D) 21 0 (fun pc c => mAt (mRun D) 21 pc c Q) Q bk_Br_init_40 c := mAt_blk rfl
theorem e_Br_now (D : Nat) (x0 : mV) (I : mN) (S : mH) (Q : mQ) (h : mCs [x0] ≤ 1) : mRun (D + 1) 22 [x0] I S Q = mAt (mRun D) 22 0 ([some x0], [], I, S) Q := propext ⟨fun z => z.2, fun z => ⟨⟨h, Nat.le_of_ble_eq_true rfl⟩, z⟩⟩
theorem a_Br_now_0 (D : Nat) (c : mC) (Q : mQ) : mAt (mRun D) 22 0 c Q = mWp (mRun D) 22 0 (fun pc c => mAt (mRun D) 22 pc c Q) Q bk_Br_now_0 c := mAt_blk rfl
theorem e_Br_before (D : Nat) (x0 : mV) (I : mN) (S : mH) (Q : mQ) (h : mCs [x0] ≤ 1) : mRun (D + 1) 23 [x0] I S Q = mAt (mRun D) 23 0 ([some x0], [], I, S) Q := propext ⟨fun z => z.2, fun z => ⟨⟨h, Nat.le_of_ble_eq_true rfl⟩, z⟩⟩
theorem a_Br_before_0 (D : Nat) (c : mC) (Q : mQ) : mAt (mRun D) 23 0 c Q = mWp (mRun D) 23 0 (fun pc c => mAt (mRun D) 23 pc c Q) Q bk_Br_before_0 c := mAt_blk rfl
theorem a_Br_before_20 (D : Nat) (c : mC) (Q : mQ) : mAt (mRun D) 23 20 c Q = mWp (mRun D) 23 21 (fun pc c => mAt (mRun D) 23 pc c Q) Q bk_Br_before_20 c := mAt_blk rfl
theorem a_Br_before_21 (D : Nat) (c : mC) (Q : mQ) : mAt (mRun D) 23 21 c Q = mWp (mRun D) 23 0 (fun pc c => mAt (mRun D) 23 pc c Q) Q bk_Br_before_21 c := mAt_blk rfl
theorem e_Br_startChange (D : Nat) (x0 : mV) (I : mN) (S : mH) (Q : mQ) (h : mCs [x0] ≤ 1) : mRun (D + 1) 24 [x0] I S Q = mAt (mRun D) 24 0 ([some x0, none], [], I, S) Q := propext ⟨fun z => z.2, fun z => ⟨⟨h, Nat.le_of_ble_eq_true rfl⟩, z⟩⟩
theorem a_Br_startChange_0 (D : Nat) (c : mC) (Q : mQ) : mAt (mRun D) 24 0 c Q = mWp (mRun D) 24 0 (fun pc c => mAt (mRun D) 24 pc c Q) Q bk_Br_startChange_0 c := mAt_blk rfl
theorem a_Br_startChange_27 (D : Nat) (c : mC) (Q : mQ) : mAt (mRun D) 24 27 c Q = mWp (mRun D) 24 31 (fun pc c => mAt (mRun D) 24 pc c Q) Q bk_Br_startChange_27 c := mAt_blk rfl
theorem a_Br_startChange_31 (D : Nat) (c : mC) (Q : mQ) : mAt (mRun D) 24 31 c Q = mWp (mRun D) 24 0 (fun pc c => mAt (mRun D) 24 pc c Q) Q bk_Br_startChange_31 c := mAt_blk rfl
theorem e_Br_forgetOldest (D : Nat) (x0 : mV) (I : mN) (S : mH) (Q : mQ) (h : mCs [x0] ≤ 1) : mRun (D + 1) 25 [x0] I S Q = mAt (mRun D) 25 0 ([some x0, none, none], [], I, S) Q := propext ⟨fun z => z.2, fun z => ⟨⟨h, Nat.le_of_ble_eq_true rfl⟩, z⟩⟩
theorem a_Br_forgetOldest_0 (D : Nat) (c : mC) (Q : mQ) : mAt (mRun D) 25 0 c Q = mWp (mRun D) 25 9 (fun pc c => mAt (mRun D) 25 pc c Q) Q bk_Br_forgetOldest_0 c := mAt_blk rfl
theorem a_Br_forgetOldest_9 (D : Nat) (c : mC) (Q : mQ) : mAt (mRun D) 25 9 c Q = mWp (mRun D) 25 0 (fun pc c => mAt (mRun D) 25 pc c Q) Q bk_Br_forgetOldest_9 c := mAt_blk rfl
theorem a_Br_forgetOldest_35 (D : Nat) (c : mC) (Q : mQ) : mAt (mRun D) 25 35 c Q = mWp (mRun D) 25 0 (fun pc c => mAt (mRun D) 25 pc c Q) Q bk_Br_forgetOldest_35 c := mAt_blk rfl
theorem e_Ev_init (D : Nat) (x0 : mV) (I : mN) (S : mH) (Q : mQ) (h : mCs [x0] ≤ 1) : mRun (D + 1) 26 [x0] I S Q = mAt (mRun D) 26 0 ([some x0], [], I, S) Q := propext ⟨fun z => z.2, fun z => ⟨⟨h, Nat.le_of_ble_eq_true rfl⟩, z⟩⟩
theorem a_Ev_init_0 (D : Nat) (c : mC) (Q : mQ) : mAt (mRun D) 26 0 c Q = mWp (mRun D) 26 0 (fun pc c => mAt (mRun D) 26 pc c Q) Q bk_Ev_init_0 c := mAt_blk rfl
theorem e_Ev_asked (D : Nat) (x0 x1 x2 x3 x4 : mV) (I : mN) (S : mH) (Q : mQ) (h : mCs [x0, x1, x2, x3, x4] ≤ 5) : mRun (D + 1) 27 [x0, x1, x2, x3, x4] I S Q = mAt (mRun D) 27 0 ([some x0, some x1, some x2, some x3, some x4, none, none, none], [], I, S) Q := propext ⟨fun z => z.2, fun z => ⟨⟨h, Nat.le_of_ble_eq_true rfl⟩, z⟩⟩
theorem a_Ev_asked_0 (D : Nat) (c : mC) (Q : mQ) : mAt (mRun D) 27 0 c Q = mWp (mRun D) 27 0 (fun pc c => mAt (mRun D) 27 pc c Q) Q bk_Ev_asked_0 c := mAt_blk rfl
theorem a_Ev_asked_26 (D : Nat) (c : mC) (Q : mQ) : mAt (mRun D) 27 26 c Q = mWp (mRun D) 27 42 (fun pc c => mAt (mRun D) 27 pc c Q) Q bk_Ev_asked_26 c := mAt_blk rfl
theorem a_Ev_asked_42 (D : Nat) (c : mC) (Q : mQ) : mAt (mRun D) 27 42 c Q = mWp (mRun D) 27 0 (fun pc c => mAt (mRun D) 27 pc c Q) Q bk_Ev_asked_42 c := mAt_blk rfl
theorem a_Ev_asked_44 (D : Nat) (c : mC) (Q : mQ) : mAt (mRun D) 27 44 c Q = mWp (mRun D) 27 0 (fun pc c => mAt (mRun D) 27 pc c Q) Q bk_Ev_asked_44 c := mAt_blk rfl
theorem a_Ev_asked_65 (D : Nat) (c : mC) (Q : mQ) : mAt (mRun D) 27 65 c Q = mWp (mRun D) 27 0 (fun pc c => mAt (mRun D) 27 pc c Q) Q bk_Ev_asked_65 c := mAt_blk rfl
theorem a_Ev_asked_86 (D : Nat) (c : mC) (Q : mQ) : mAt (mRun D) 27 86 c Q = mWp (mRun D) 27 0 (fun pc c => mAt (mRun D) 27 pc c Q) Q bk_Ev_asked_86 c := mAt_blk rfl
theorem a_Ev_asked_98 (D : Nat) (c : mC) (Q : mQ) : mAt (mRun D) 27 98 c Q = mWp (mRun D) 27 100 (fun pc c => mAt (mRun D) 27 pc c Q) Q bk_Ev_asked_98 c := mAt_blk rfl
theorem a_Ev_asked_100 (D : Nat) (c : mC) (Q : mQ) : mAt (mRun D) 27 100 c Q = mWp (mRun D) 27 0 (fun pc c => mAt (mRun D) 27 pc c Q) Q bk_Ev_asked_100 c := mAt_blk rfl
theorem e_Ev_worth (D : Nat) (x0 x1 x2 x3 x4 : mV) (I : mN) (S : mH) (Q : mQ) (h : mCs [x0, x1, x2, x3, x4] ≤ 5) : mRun (D + 1) 28 [x0, x1, x2, x3, x4] I S Q = mAt (mRun D) 28 0 ([some x0, some x1, some x2, some x3, some x4], [], I, S) Q := propext ⟨fun z => z.2, fun z => ⟨⟨h, Nat.le_of_ble_eq_true rfl⟩, z⟩⟩
theorem a_Ev_worth_0 (D : Nat) (c : mC) (Q : mQ) : mAt (mRun D) 28 0 c Q = mWp (mRun D) 28 0 (fun pc c => mAt (mRun D) 28 pc c Q) Q bk_Ev_worth_0 c := mAt_blk rfl
theorem e_Ev_expression (D : Nat) (x0 x1 x2 x3 : mV) (I : mN) (S : mH) (Q : mQ) (h : mCs [x0, x1, x2, x3] ≤ 4) : mRun (D + 1) 29 [x0, x1, x2, x3] I S Q = mAt (mRun D) 29 0 ([some x0, some x1, some x2, some x3, none, none, none, none, none], [], I, S) Q := propext ⟨fun z => z.2, fun z => ⟨⟨h, Nat.le_of_ble_eq_true rfl⟩, z⟩⟩
theorem a_Ev_expression_0 (D : Nat) (c : mC) (Q : mQ) : mAt (mRun D) 29 0 c Q = mWp (mRun D) 29 0 (fun pc c => mAt (mRun D) 29 pc c Q) Q bk_Ev_expression_0 c := mAt_blk rfl
theorem a_Ev_expression_8 (D : Nat) (c : mC) (Q : mQ) : mAt (mRun D) 29 8 c Q = mWp (mRun D) 29 0 (fun pc c => mAt (mRun D) 29 pc c Q) Q bk_Ev_expression_8 c := mAt_blk rfl
theorem a_Ev_expression_26 (D : Nat) (c : mC) (Q : mQ) : mAt (mRun D) 29 26 c Q = mWp (mRun D) 29 0 (fun pc c => mAt (mRun D) 29 pc c Q) Q bk_Ev_expression_26 c := mAt_blk rfl
theorem a_Ev_expression_134 (D : Nat) (c : mC) (Q : mQ) : mAt (mRun D) 29 134 c Q = mWp (mRun D) 29 136 (fun pc c => mAt (mRun D) 29 pc c Q) Q bk_Ev_expression_134 c := mAt_blk rfl
theorem a_Ev_expression_136 (D : Nat) (c : mC) (Q : mQ) : mAt (mRun D) 29 136 c Q = mWp (mRun D) 29 0 (fun pc c => mAt (mRun D) 29 pc c Q) Q bk_Ev_expression_136 c := mAt_blk rfl
theorem e_Ev_holds (D : Nat) (x0 x1 x2 : mV) (I : mN) (S : mH) (Q : mQ) (h : mCs [x0, x1, x2] ≤ 3) : mRun (D + 1) 30 [x0, x1, x2] I S Q = mAt (mRun D) 30 0 ([some x0, some x1, some x2], [], I, S) Q := propext ⟨fun z => z.2, fun z => ⟨⟨h, Nat.le_of_ble_eq_true rfl⟩, z⟩⟩
theorem a_Ev_holds_0 (D : Nat) (c : mC) (Q : mQ) : mAt (mRun D) 30 0 c Q = mWp (mRun D) 30 0 (fun pc c => mAt (mRun D) 30 pc c Q) Q bk_Ev_holds_0 c := mAt_blk rfl
theorem a_Ev_holds_15 (D : Nat) (c : mC) (Q : mQ) : mAt (mRun D) 30 15 c Q = mWp (mRun D) 30 16 (fun pc c => mAt (mRun D) 30 pc c Q) Q bk_Ev_holds_15 c := mAt_blk rfl
theorem a_Ev_holds_16 (D : Nat) (c : mC) (Q : mQ) : mAt (mRun D) 30 16 c Q = mWp (mRun D) 30 0 (fun pc c => mAt (mRun D) 30 pc c Q) Q bk_Ev_holds_16 c := mAt_blk rfl
theorem a_Ev_holds_17 (D : Nat) (c : mC) (Q : mQ) : mAt (mRun D) 30 17 c Q = mWp (mRun D) 30 0 (fun pc c => mAt (mRun D) 30 pc c Q) Q bk_Ev_holds_17 c := mAt_blk rfl
theorem a_Ev_holds_32 (D : Nat) (c : mC) (Q : mQ) : mAt (mRun D) 30 32 c Q = mWp (mRun D) 30 0 (fun pc c => mAt (mRun D) 30 pc c Q) Q bk_Ev_holds_32 c := mAt_blk rfl
theorem a_Ev_holds_36 (D : Nat) (c : mC) (Q : mQ) : mAt (mRun D) 30 36 c Q = mWp (mRun D) 30 0 (fun pc c => mAt (mRun D) 30 pc c Q) Q bk_Ev_holds_36 c := mAt_blk rfl
theorem a_Ev_holds_45 (D : Nat) (c : mC) (Q : mQ) : mAt (mRun D) 30 45 c Q = mWp (mRun D) 30 46 (fun pc c => mAt (mRun D) 30 pc c Q) Q bk_Ev_holds_45 c := mAt_blk rfl
theorem a_Ev_holds_46 (D : Nat) (c : mC) (Q : mQ) : mAt (mRun D) 30 46 c Q = mWp (mRun D) 30 0 (fun pc c => mAt (mRun D) 30 pc c Q) Q bk_Ev_holds_46 c := mAt_blk rfl
theorem e_Ev_sum (D : Nat) (x0 x1 x2 x3 : mV) (I : mN) (S : mH) (Q : mQ) (h : mCs [x0, x1, x2, x3] ≤ 4) : mRun (D + 1) 31 [x0, x1, x2, x3] I S Q = mAt (mRun D) 31 0 ([some x0, some x1, some x2, some x3, none, none, none, none], [], I, S) Q := propext ⟨fun z => z.2, fun z => ⟨⟨h, Nat.le_of_ble_eq_true rfl⟩, z⟩⟩
theorem a_Ev_sum_0 (D : Nat) (c : mC) (Q : mQ) : mAt (mRun D) 31 0 c Q = mWp (mRun D) 31 12 (fun pc c => mAt (mRun D) 31 pc c Q) Q bk_Ev_sum_0 c := mAt_blk rfl
theorem a_Ev_sum_12 (D : Nat) (c : mC) (Q : mQ) : mAt (mRun D) 31 12 c Q = mWp (mRun D) 31 0 (fun pc c => mAt (mRun D) 31 pc c Q) Q bk_Ev_sum_12 c := mAt_blk rfl
theorem a_Ev_sum_43 (D : Nat) (c : mC) (Q : mQ) : mAt (mRun D) 31 43 c Q = mWp (mRun D) 31 0 (fun pc c => mAt (mRun D) 31 pc c Q) Q bk_Ev_sum_43 c := mAt_blk rfl
theorem a_Ev_sum_77 (D : Nat) (c : mC) (Q : mQ) : mAt (mRun D) 31 77 c Q = mWp (mRun D) 31 82 (fun pc c => mAt (mRun D) 31 pc c Q) Q bk_Ev_sum_77 c := mAt_blk rfl
theorem a_Ev_sum_82 (D : Nat) (c : mC) (Q : mQ) : mAt (mRun D) 31 82 c Q = mWp (mRun D) 31 0 (fun pc c => mAt (mRun D) 31 pc c Q) Q bk_Ev_sum_82 c := mAt_blk rfl
theorem a_Ev_sum_90 (D : Nat) (c : mC) (Q : mQ) : mAt (mRun D) 31 90 c Q = mWp (mRun D) 31 0 (fun pc c => mAt (mRun D) 31 pc c Q) Q bk_Ev_sum_90 c := mAt_blk rfl
theorem e_Ev_product (D : Nat) (x0 x1 x2 x3 : mV) (I : mN) (S : mH) (Q : mQ) (h : mCs [x0, x1, x2, x3] ≤ 4) : mRun (D + 1) 32 [x0, x1, x2, x3] I S Q = mAt (mRun D) 32 0 ([some x0, some x1, some x2, some x3, none, none, none, none], [], I, S) Q := propext ⟨fun z => z.2, fun z => ⟨⟨h, Nat.le_of_ble_eq_true rfl⟩, z⟩⟩
theorem a_Ev_product_0 (D : Nat) (c : mC) (Q : mQ) : mAt (mRun D) 32 0 c Q = mWp (mRun D) 32 12 (fun pc c => mAt (mRun D) 32 pc c Q) Q bk_Ev_product_0 c := mAt_blk rfl
theorem a_Ev_product_12 (D : Nat) (c : mC) (Q : mQ) : mAt (mRun D) 32 12 c Q = mWp (mRun D) 32 0 (fun pc c => mAt (mRun D) 32 pc c Q) Q bk_Ev_product_12 c := mAt_blk rfl
theorem a_Ev_product_43 (D : Nat) (c : mC) (Q : mQ) : mAt (mRun D) 32 43 c Q = mWp (mRun D) 32 0 (fun pc c => mAt (mRun D) 32 pc c Q) Q bk_Ev_product_43 c := mAt_blk rfl
theorem a_Ev_product_79 (D : Nat) (c : mC) (Q : mQ) : mAt (mRun D) 32 79 c Q = mWp (mRun D) 32 0 (fun pc c => mAt (mRun D) 32 pc c Q) Q bk_Ev_product_79 c := mAt_blk rfl
theorem a_Ev_product_88 (D : Nat) (c : mC) (Q : mQ) : mAt (mRun D) 32 88 c Q = mWp (mRun D) 32 93 (fun pc c => mAt (mRun D) 32 pc c Q) Q bk_Ev_product_88 c := mAt_blk rfl
theorem a_Ev_product_93 (D : Nat) (c : mC) (Q : mQ) : mAt (mRun D) 32 93 c Q = mWp (mRun D) 32 95 (fun pc c => mAt (mRun D) 32 pc c Q) Q bk_Ev_product_93 c := mAt_blk rfl
theorem a_Ev_product_95 (D : Nat) (c : mC) (Q : mQ) : mAt (mRun D) 32 95 c Q = mWp (mRun D) 32 0 (fun pc c => mAt (mRun D) 32 pc c Q) Q bk_Ev_product_95 c := mAt_blk rfl
theorem a_Ev_product_101 (D : Nat) (c : mC) (Q : mQ) : mAt (mRun D) 32 101 c Q = mWp (mRun D) 32 0 (fun pc c => mAt (mRun D) 32 pc c Q) Q bk_Ev_product_101 c := mAt_blk rfl
theorem e_Ev_factor (D : Nat) (x0 x1 x2 x3 : mV) (I : mN) (S : mH) (Q : mQ) (h : mCs [x0, x1, x2, x3] ≤ 4) : mRun (D + 1) 33 [x0, x1, x2, x3] I S Q = mAt (mRun D) 33 0 ([some x0, some x1, some x2, some x3, none, none, none, none, none], [], I, S) Q := propext ⟨fun z => z.2, fun z => ⟨⟨h, Nat.le_of_ble_eq_true rfl⟩, z⟩⟩
theorem a_Ev_factor_0 (D : Nat) (c : mC) (Q : mQ) : mAt (mRun D) 33 0 c Q = mWp (mRun D) 33 0 (fun pc c => mAt (mRun D) 33 pc c Q) Q bk_Ev_factor_0 c := mAt_blk rfl
theorem a_Ev_factor_25 (D : Nat) (c : mC) (Q : mQ) : mAt (mRun D) 33 25 c Q = mWp (mRun D) 33 26 (fun pc c => mAt (mRun D) 33 pc c Q) Q bk_Ev_factor_25 c := mAt_blk rfl
theorem a_Ev_factor_26 (D : Nat) (c : mC) (Q : mQ) : mAt (mRun D) 33 26 c Q = mWp (mRun D) 33 0 (fun pc c => mAt (mRun D) 33 pc c Q) Q bk_Ev_factor_26 c := mAt_blk rfl
theorem a_Ev_factor_47 (D : Nat) (c : mC) (Q : mQ) : mAt (mRun D) 33 47 c Q = mWp (mRun D) 33 0 (fun pc c => mAt (mRun D) 33 pc c Q) Q bk_Ev_factor_47 c := mAt_blk rfl
theorem a_Ev_factor_59 (D : Nat) (c : mC) (Q : mQ) : mAt (mRun D) 33 59 c Q = mWp (mRun D) 33 75 (fun pc c => mAt (mRun D) 33 pc c Q) Q bk_Ev_factor_59 c := mAt_blk rfl
theorem a_Ev_factor_75 (D : Nat) (c : mC) (Q : mQ) : mAt (mRun D) 33 75 c Q = mWp (mRun D) 33 100 (fun pc c => mAt (mRun D) 33 pc c Q) Q bk_Ev_factor_75 c := mAt_blk rfl
theorem a_Ev_factor_100 (D : Nat) (c : mC) (Q : mQ) : mAt (mRun D) 33 100 c Q = mWp (mRun D) 33 0 (fun pc c => mAt (mRun D) 33 pc c Q) Q bk_Ev_factor_100 c := mAt_blk rfl
theorem a_Ev_factor_139 (D : Nat) (c : mC) (Q : mQ) : mAt (mRun D) 33 139 c Q = mWp (mRun D) 33 0 (fun pc c => mAt (mRun D) 33 pc c Q) Q bk_Ev_factor_139 c := mAt_blk rfl
theorem a_Ev_factor_143 (D : Nat) (c : mC) (Q : mQ) : mAt (mRun D) 33 143 c Q = mWp (mRun D) 33 0 (fun pc c => mAt (mRun D) 33 pc c Q) Q bk_Ev_factor_143 c := mAt_blk rfl
theorem a_Ev_factor_154 (D : Nat) (c : mC) (Q : mQ) : mAt (mRun D) 33 154 c Q = mWp (mRun D) 33 155 (fun pc c => mAt (mRun D) 33 pc c Q) Q bk_Ev_factor_154 c := mAt_blk rfl
theorem a_Ev_factor_155 (D : Nat) (c : mC) (Q : mQ) : mAt (mRun D) 33 155 c Q = mWp (mRun D) 33 0 (fun pc c => mAt (mRun D) 33 pc c Q) Q bk_Ev_factor_155 c := mAt_blk rfl
theorem a_Ev_factor_167 (D : Nat) (c : mC) (Q : mQ) : mAt (mRun D) 33 167 c Q = mWp (mRun D) 33 169 (fun pc c => mAt (mRun D) 33 pc c Q) Q bk_Ev_factor_167 c := mAt_blk rfl
theorem a_Ev_factor_169 (D : Nat) (c : mC) (Q : mQ) : mAt (mRun D) 33 169 c Q = mWp (mRun D) 33 171 (fun pc c => mAt (mRun D) 33 pc c Q) Q bk_Ev_factor_169 c := mAt_blk rfl
theorem a_Ev_factor_171 (D : Nat) (c : mC) (Q : mQ) : mAt (mRun D) 33 171 c Q = mWp (mRun D) 33 0 (fun pc c => mAt (mRun D) 33 pc c Q) Q bk_Ev_factor_171 c := mAt_blk rfl
theorem a_Ev_factor_204 (D : Nat) (c : mC) (Q : mQ) : mAt (mRun D) 33 204 c Q = mWp (mRun D) 33 0 (fun pc c => mAt (mRun D) 33 pc c Q) Q bk_Ev_factor_204 c := mAt_blk rfl
theorem a_Ev_factor_224 (D : Nat) (c : mC) (Q : mQ) : mAt (mRun D) 33 224 c Q = mWp (mRun D) 33 226 (fun pc c => mAt (mRun D) 33 pc c Q) Q bk_Ev_factor_224 c := mAt_blk rfl
theorem a_Ev_factor_226 (D : Nat) (c : mC) (Q : mQ) : mAt (mRun D) 33 226 c Q = mWp (mRun D) 33 0 (fun pc c => mAt (mRun D) 33 pc c Q) Q bk_Ev_factor_226 c := mAt_blk rfl
theorem e_Ev_flow (D : Nat) (x0 x1 x2 x3 x4 : mV) (I : mN) (S : mH) (Q : mQ) (h : mCs [x0, x1, x2, x3, x4] ≤ 5) : mRun (D + 1) 34 [x0, x1, x2, x3, x4] I S Q = mAt (mRun D) 34 0 ([some x0, some x1, some x2, some x3, some x4, none, none], [], I, S) Q := propext ⟨fun z => z.2, fun z => ⟨⟨h, Nat.le_of_ble_eq_true rfl⟩, z⟩⟩
theorem a_Ev_flow_0 (D : Nat) (c : mC) (Q : mQ) : mAt (mRun D) 34 0 c Q = mWp (mRun D) 34 18 (fun pc c => mAt (mRun D) 34 pc c Q) Q bk_Ev_flow_0 c := mAt_blk rfl
theorem a_Ev_flow_18 (D : Nat) (c : mC) (Q : mQ) : mAt (mRun D) 34 18 c Q = mWp (mRun D) 34 0 (fun pc c => mAt (mRun D) 34 pc c Q) Q bk_Ev_flow_18 c := mAt_blk rfl
theorem a_Ev_flow_63 (D : Nat) (c : mC) (Q : mQ) : mAt (mRun D) 34 63 c Q = mWp (mRun D) 34 0 (fun pc c => mAt (mRun D) 34 pc c Q) Q bk_Ev_flow_63 c := mAt_blk rfl
theorem e_Ev_signOf (D : Nat) (x0 x1 : mV) (I : mN) (S : mH) (Q : mQ) (h : mCs [x0, x1] ≤ 2) : mRun (D + 1) 35 [x0, x1] I S Q = mAt (mRun D) 35 0 ([some x0, some x1], [], I, S) Q := propext ⟨fun z => z.2, fun z => ⟨⟨h, Nat.le_of_ble_eq_true rfl⟩, z⟩⟩
theorem a_Ev_signOf_0 (D : Nat) (c : mC) (Q : mQ) : mAt (mRun D) 35 0 c Q = mWp (mRun D) 35 20 (fun pc c => mAt (mRun D) 35 pc c Q) Q bk_Ev_signOf_0 c := mAt_blk rfl
theorem a_Ev_signOf_20 (D : Nat) (c : mC) (Q : mQ) : mAt (mRun D) 35 20 c Q = mWp (mRun D) 35 0 (fun pc c => mAt (mRun D) 35 pc c Q) Q bk_Ev_signOf_20 c := mAt_blk rfl
theorem a_Ev_signOf_22 (D : Nat) (c : mC) (Q : mQ) : mAt (mRun D) 35 22 c Q = mWp (mRun D) 35 0 (fun pc c => mAt (mRun D) 35 pc c Q) Q bk_Ev_signOf_22 c := mAt_blk rfl
theorem a_Ev_signOf_47 (D : Nat) (c : mC) (Q : mQ) : mAt (mRun D) 35 47 c Q = mWp (mRun D) 35 48 (fun pc c => mAt (mRun D) 35 pc c Q) Q bk_Ev_signOf_47 c := mAt_blk rfl
theorem a_Ev_signOf_48 (D : Nat) (c : mC) (Q : mQ) : mAt (mRun D) 35 48 c Q = mWp (mRun D) 35 0 (fun pc c => mAt (mRun D) 35 pc c Q) Q bk_Ev_signOf_48 c := mAt_blk rfl
theorem e_Ne_init (D : Nat) (x0 x1 : mV) (I : mN) (S : mH) (Q : mQ) (h : mCs [x0, x1] ≤ 2) : mRun (D + 1) 36 [x0, x1] I S Q = mAt (mRun D) 36 0 ([some x0, some x1], [], I, S) Q := propext ⟨fun z => z.2, fun z => ⟨⟨h, Nat.le_of_ble_eq_true rfl⟩, z⟩⟩
theorem a_Ne_init_0 (D : Nat) (c : mC) (Q : mQ) : mAt (mRun D) 36 0 c Q = mWp (mRun D) 36 0 (fun pc c => mAt (mRun D) 36 pc c Q) Q bk_Ne_init_0 c := mAt_blk rfl
theorem e_Ne_plan (D : Nat) (x0 x1 x2 : mV) (I : mN) (S : mH) (Q : mQ) (h : mCs [x0, x1, x2] ≤ 3) : mRun (D + 1) 37 [x0, x1, x2] I S Q = mAt (mRun D) 37 0 ([some x0, some x1, some x2, none, none, none, none, none, none], [], I, S) Q := propext ⟨fun z => z.2, fun z => ⟨⟨h, Nat.le_of_ble_eq_true rfl⟩, z⟩⟩
theorem a_Ne_plan_0 (D : Nat) (c : mC) (Q : mQ) : mAt (mRun D) 37 0 c Q = mWp (mRun D) 37 0 (fun pc c => mAt (mRun D) 37 pc c Q) Q bk_Ne_plan_0 c := mAt_blk rfl
theorem a_Ne_plan_10 (D : Nat) (c : mC) (Q : mQ) : mAt (mRun D) 37 10 c Q = mWp (mRun D) 37 18 (fun pc c => mAt (mRun D) 37 pc c Q) Q bk_Ne_plan_10 c := mAt_blk rfl
theorem a_Ne_plan_18 (D : Nat) (c : mC) (Q : mQ) : mAt (mRun D) 37 18 c Q = mWp (mRun D) 37 45 (fun pc c => mAt (mRun D) 37 pc c Q) Q bk_Ne_plan_18 c := mAt_blk rfl
theorem a_Ne_plan_45 (D : Nat) (c : mC) (Q : mQ) : mAt (mRun D) 37 45 c Q = mWp (mRun D) 37 130 (fun pc c => mAt (mRun D) 37 pc c Q) Q bk_Ne_plan_45 c := mAt_blk rfl
theorem a_Ne_plan_130 (D : Nat) (c : mC) (Q : mQ) : mAt (mRun D) 37 130 c Q = mWp (mRun D) 37 0 (fun pc c => mAt (mRun D) 37 pc c Q) Q bk_Ne_plan_130 c := mAt_blk rfl
theorem a_Ne_plan_136 (D : Nat) (c : mC) (Q : mQ) : mAt (mRun D) 37 136 c Q = mWp (mRun D) 37 0 (fun pc c => mAt (mRun D) 37 pc c Q) Q bk_Ne_plan_136 c := mAt_blk rfl
theorem a_Ne_plan_142 (D : Nat) (c : mC) (Q : mQ) : mAt (mRun D) 37 142 c Q = mWp (mRun D) 37 0 (fun pc c => mAt (mRun D) 37 pc c Q) Q bk_Ne_plan_142 c := mAt_blk rfl
theorem e_Ne_markDry (D : Nat) (x0 : mV) (I : mN) (S : mH) (Q : mQ) (h : mCs [x0] ≤ 1) : mRun (D + 1) 38 [x0] I S Q = mAt (mRun D) 38 0 ([some x0, none], [], I, S) Q := propext ⟨fun z => z.2, fun z => ⟨⟨h, Nat.le_of_ble_eq_true rfl⟩, z⟩⟩
theorem a_Ne_markDry_0 (D : Nat) (c : mC) (Q : mQ) : mAt (mRun D) 38 0 c Q = mWp (mRun D) 38 2 (fun pc c => mAt (mRun D) 38 pc c Q) Q bk_Ne_markDry_0 c := mAt_blk rfl
theorem a_Ne_markDry_2 (D : Nat) (c : mC) (Q : mQ) : mAt (mRun D) 38 2 c Q = mWp (mRun D) 38 0 (fun pc c => mAt (mRun D) 38 pc c Q) Q bk_Ne_markDry_2 c := mAt_blk rfl
theorem a_Ne_markDry_34 (D : Nat) (c : mC) (Q : mQ) : mAt (mRun D) 38 34 c Q = mWp (mRun D) 38 0 (fun pc c => mAt (mRun D) 38 pc c Q) Q bk_Ne_markDry_34 c := mAt_blk rfl
theorem e_Ne_clearDry (D : Nat) (x0 : mV) (I : mN) (S : mH) (Q : mQ) (h : mCs [x0] ≤ 1) : mRun (D + 1) 39 [x0] I S Q = mAt (mRun D) 39 0 ([some x0, none], [], I, S) Q := propext ⟨fun z => z.2, fun z => ⟨⟨h, Nat.le_of_ble_eq_true rfl⟩, z⟩⟩
theorem a_Ne_clearDry_0 (D : Nat) (c : mC) (Q : mQ) : mAt (mRun D) 39 0 c Q = mWp (mRun D) 39 2 (fun pc c => mAt (mRun D) 39 pc c Q) Q bk_Ne_clearDry_0 c := mAt_blk rfl
theorem a_Ne_clearDry_2 (D : Nat) (c : mC) (Q : mQ) : mAt (mRun D) 39 2 c Q = mWp (mRun D) 39 0 (fun pc c => mAt (mRun D) 39 pc c Q) Q bk_Ne_clearDry_2 c := mAt_blk rfl
theorem a_Ne_clearDry_21 (D : Nat) (c : mC) (Q : mQ) : mAt (mRun D) 39 21 c Q = mWp (mRun D) 39 0 (fun pc c => mAt (mRun D) 39 pc c Q) Q bk_Ne_clearDry_21 c := mAt_blk rfl
theorem e_Ne_findWay (D : Nat) (x0 x1 : mV) (I : mN) (S : mH) (Q : mQ) (h : mCs [x0, x1] ≤ 2) : mRun (D + 1) 40 [x0, x1] I S Q = mAt (mRun D) 40 0 ([some x0, some x1, none, none], [], I, S) Q := propext ⟨fun z => z.2, fun z => ⟨⟨h, Nat.le_of_ble_eq_true rfl⟩, z⟩⟩
theorem a_Ne_findWay_0 (D : Nat) (c : mC) (Q : mQ) : mAt (mRun D) 40 0 c Q = mWp (mRun D) 40 0 (fun pc c => mAt (mRun D) 40 pc c Q) Q bk_Ne_findWay_0 c := mAt_blk rfl
theorem a_Ne_findWay_8 (D : Nat) (c : mC) (Q : mQ) : mAt (mRun D) 40 8 c Q = mWp (mRun D) 40 30 (fun pc c => mAt (mRun D) 40 pc c Q) Q bk_Ne_findWay_8 c := mAt_blk rfl
theorem a_Ne_findWay_30 (D : Nat) (c : mC) (Q : mQ) : mAt (mRun D) 40 30 c Q = mWp (mRun D) 40 38 (fun pc c => mAt (mRun D) 40 pc c Q) Q bk_Ne_findWay_30 c := mAt_blk rfl
theorem a_Ne_findWay_38 (D : Nat) (c : mC) (Q : mQ) : mAt (mRun D) 40 38 c Q = mWp (mRun D) 40 0 (fun pc c => mAt (mRun D) 40 pc c Q) Q bk_Ne_findWay_38 c := mAt_blk rfl
theorem a_Ne_findWay_69 (D : Nat) (c : mC) (Q : mQ) : mAt (mRun D) 40 69 c Q = mWp (mRun D) 40 0 (fun pc c => mAt (mRun D) 40 pc c Q) Q bk_Ne_findWay_69 c := mAt_blk rfl
theorem a_Ne_findWay_75 (D : Nat) (c : mC) (Q : mQ) : mAt (mRun D) 40 75 c Q = mWp (mRun D) 40 80 (fun pc c => mAt (mRun D) 40 pc c Q) Q bk_Ne_findWay_75 c := mAt_blk rfl
theorem a_Ne_findWay_80 (D : Nat) (c : mC) (Q : mQ) : mAt (mRun D) 40 80 c Q = mWp (mRun D) 40 88 (fun pc c => mAt (mRun D) 40 pc c Q) Q bk_Ne_findWay_80 c := mAt_blk rfl
theorem a_Ne_findWay_88 (D : Nat) (c : mC) (Q : mQ) : mAt (mRun D) 40 88 c Q = mWp (mRun D) 40 0 (fun pc c => mAt (mRun D) 40 pc c Q) Q bk_Ne_findWay_88 c := mAt_blk rfl
theorem a_Ne_findWay_126 (D : Nat) (c : mC) (Q : mQ) : mAt (mRun D) 40 126 c Q = mWp (mRun D) 40 0 (fun pc c => mAt (mRun D) 40 pc c Q) Q bk_Ne_findWay_126 c := mAt_blk rfl
theorem a_Ne_findWay_132 (D : Nat) (c : mC) (Q : mQ) : mAt (mRun D) 40 132 c Q = mWp (mRun D) 40 0 (fun pc c => mAt (mRun D) 40 pc c Q) Q bk_Ne_findWay_132 c := mAt_blk rfl
theorem e_Ne_settle (D : Nat) (x0 x1 x2 : mV) (I : mN) (S : mH) (Q : mQ) (h : mCs [x0, x1, x2] ≤ 3) : mRun (D + 1) 41 [x0, x1, x2] I S Q = mAt (mRun D) 41 0 ([some x0, some x1, some x2, none, none, none, none], [], I, S) Q := propext ⟨fun z => z.2, fun z => ⟨⟨h, Nat.le_of_ble_eq_true rfl⟩, z⟩⟩
theorem a_Ne_settle_0 (D : Nat) (c : mC) (Q : mQ) : mAt (mRun D) 41 0 c Q = mWp (mRun D) 41 0 (fun pc c => mAt (mRun D) 41 pc c Q) Q bk_Ne_settle_0 c := mAt_blk rfl
theorem a_Ne_settle_29 (D : Nat) (c : mC) (Q : mQ) : mAt (mRun D) 41 29 c Q = mWp (mRun D) 41 0 (fun pc c => mAt (mRun D) 41 pc c Q) Q bk_Ne_settle_29 c := mAt_blk rfl
theorem e_Ne_store (D : Nat) (x0 x1 x2 : mV) (I : mN) (S : mH) (Q : mQ) (h : mCs [x0, x1, x2] ≤ 3) : mRun (D + 1) 42 [x0, x1, x2] I S Q = mAt (mRun D) 42 0 ([some x0, some x1, some x2, none], [], I, S) Q := propext ⟨fun z => z.2, fun z => ⟨⟨h, Nat.le_of_ble_eq_true rfl⟩, z⟩⟩
theorem a_Ne_store_0 (D : Nat) (c : mC) (Q : mQ) : mAt (mRun D) 42 0 c Q = mWp (mRun D) 42 0 (fun pc c => mAt (mRun D) 42 pc c Q) Q bk_Ne_store_0 c := mAt_blk rfl
theorem a_Ne_store_12 (D : Nat) (c : mC) (Q : mQ) : mAt (mRun D) 42 12 c Q = mWp (mRun D) 42 16 (fun pc c => mAt (mRun D) 42 pc c Q) Q bk_Ne_store_12 c := mAt_blk rfl
theorem a_Ne_store_16 (D : Nat) (c : mC) (Q : mQ) : mAt (mRun D) 42 16 c Q = mWp (mRun D) 42 0 (fun pc c => mAt (mRun D) 42 pc c Q) Q bk_Ne_store_16 c := mAt_blk rfl
theorem e_Ne_waterAt (D : Nat) (x0 x1 x2 x3 : mV) (I : mN) (S : mH) (Q : mQ) (h : mCs [x0, x1, x2, x3] ≤ 4) : mRun (D + 1) 43 [x0, x1, x2, x3] I S Q = mAt (mRun D) 43 0 ([some x0, some x1, some x2, some x3, none, none, none, none], [], I, S) Q := propext ⟨fun z => z.2, fun z => ⟨⟨h, Nat.le_of_ble_eq_true rfl⟩, z⟩⟩
theorem a_Ne_waterAt_0 (D : Nat) (c : mC) (Q : mQ) : mAt (mRun D) 43 0 c Q = mWp (mRun D) 43 37 (fun pc c => mAt (mRun D) 43 pc c Q) Q bk_Ne_waterAt_0 c := mAt_blk rfl
theorem a_Ne_waterAt_37 (D : Nat) (c : mC) (Q : mQ) : mAt (mRun D) 43 37 c Q = mWp (mRun D) 43 40 (fun pc c => mAt (mRun D) 43 pc c Q) Q bk_Ne_waterAt_37 c := mAt_blk rfl
theorem a_Ne_waterAt_40 (D : Nat) (c : mC) (Q : mQ) : mAt (mRun D) 43 40 c Q = mWp (mRun D) 43 98 (fun pc c => mAt (mRun D) 43 pc c Q) Q bk_Ne_waterAt_40 c := mAt_blk rfl
theorem a_Ne_waterAt_98 (D : Nat) (c : mC) (Q : mQ) : mAt (mRun D) 43 98 c Q = mWp (mRun D) 43 0 (fun pc c => mAt (mRun D) 43 pc c Q) Q bk_Ne_waterAt_98 c := mAt_blk rfl
theorem a_Ne_waterAt_104 (D : Nat) (c : mC) (Q : mQ) : mAt (mRun D) 43 104 c Q = mWp (mRun D) 43 0 (fun pc c => mAt (mRun D) 43 pc c Q) Q bk_Ne_waterAt_104 c := mAt_blk rfl
theorem e_Ne_takenAt (D : Nat) (x0 x1 x2 : mV) (I : mN) (S : mH) (Q : mQ) (h : mCs [x0, x1, x2] ≤ 3) : mRun (D + 1) 44 [x0, x1, x2] I S Q = mAt (mRun D) 44 0 ([some x0, some x1, some x2, none, none], [], I, S) Q := propext ⟨fun z => z.2, fun z => ⟨⟨h, Nat.le_of_ble_eq_true rfl⟩, z⟩⟩
theorem a_Ne_takenAt_0 (D : Nat) (c : mC) (Q : mQ) : mAt (mRun D) 44 0 c Q = mWp (mRun D) 44 5 (fun pc c => mAt (mRun D) 44 pc c Q) Q bk_Ne_takenAt_0 c := mAt_blk rfl
theorem a_Ne_takenAt_5 (D : Nat) (c : mC) (Q : mQ) : mAt (mRun D) 44 5 c Q = mWp (mRun D) 44 43 (fun pc c => mAt (mRun D) 44 pc c Q) Q bk_Ne_takenAt_5 c := mAt_blk rfl
theorem a_Ne_takenAt_43 (D : Nat) (c : mC) (Q : mQ) : mAt (mRun D) 44 43 c Q = mWp (mRun D) 44 0 (fun pc c => mAt (mRun D) 44 pc c Q) Q bk_Ne_takenAt_43 c := mAt_blk rfl
theorem a_Ne_takenAt_49 (D : Nat) (c : mC) (Q : mQ) : mAt (mRun D) 44 49 c Q = mWp (mRun D) 44 52 (fun pc c => mAt (mRun D) 44 pc c Q) Q bk_Ne_takenAt_49 c := mAt_blk rfl
theorem a_Ne_takenAt_52 (D : Nat) (c : mC) (Q : mQ) : mAt (mRun D) 44 52 c Q = mWp (mRun D) 44 90 (fun pc c => mAt (mRun D) 44 pc c Q) Q bk_Ne_takenAt_52 c := mAt_blk rfl
theorem a_Ne_takenAt_90 (D : Nat) (c : mC) (Q : mQ) : mAt (mRun D) 44 90 c Q = mWp (mRun D) 44 0 (fun pc c => mAt (mRun D) 44 pc c Q) Q bk_Ne_takenAt_90 c := mAt_blk rfl
theorem a_Ne_takenAt_96 (D : Nat) (c : mC) (Q : mQ) : mAt (mRun D) 44 96 c Q = mWp (mRun D) 44 0 (fun pc c => mAt (mRun D) 44 pc c Q) Q bk_Ne_takenAt_96 c := mAt_blk rfl
theorem e_Ne_findWitness (D : Nat) (x0 x1 x2 x3 : mV) (I : mN) (S : mH) (Q : mQ) (h : mCs [x0, x1, x2, x3] ≤ 4) : mRun (D + 1) 45 [x0, x1, x2, x3] I S Q = mAt (mRun D) 45 0 ([some x0, some x1, some x2, some x3, none, none, none, none], [], I, S) Q := propext ⟨fun z => z.2, fun z => ⟨⟨h, Nat.le_of_ble_eq_true rfl⟩, z⟩⟩
theorem a_Ne_findWitness_0 (D : Nat) (c : mC) (Q : mQ) : mAt (mRun D) 45 0 c Q = mWp (mRun D) 45 15 (fun pc c => mAt (mRun D) 45 pc c Q) Q bk_Ne_findWitness_0 c := mAt_blk rfl
theorem a_Ne_findWitness_15 (D : Nat) (c : mC) (Q : mQ) : mAt (mRun D) 45 15 c Q = mWp (mRun D) 45 51 (fun pc c => mAt (mRun D) 45 pc c Q) Q bk_Ne_findWitness_15 c := mAt_blk rfl
theorem a_Ne_findWitness_51 (D : Nat) (c : mC) (Q : mQ) : mAt (mRun D) 45 51 c Q = mWp (mRun D) 45 0 (fun pc c => mAt (mRun D) 45 pc c Q) Q bk_Ne_findWitness_51 c := mAt_blk rfl
theorem a_Ne_findWitness_110 (D : Nat) (c : mC) (Q : mQ) : mAt (mRun D) 45 110 c Q = mWp (mRun D) 45 0 (fun pc c => mAt (mRun D) 45 pc c Q) Q bk_Ne_findWitness_110 c := mAt_blk rfl
theorem a_Ne_findWitness_116 (D : Nat) (c : mC) (Q : mQ) : mAt (mRun D) 45 116 c Q = mWp (mRun D) 45 0 (fun pc c => mAt (mRun D) 45 pc c Q) Q bk_Ne_findWitness_116 c := mAt_blk rfl
theorem a_Ne_findWitness_122 (D : Nat) (c : mC) (Q : mQ) : mAt (mRun D) 45 122 c Q = mWp (mRun D) 45 0 (fun pc c => mAt (mRun D) 45 pc c Q) Q bk_Ne_findWitness_122 c := mAt_blk rfl
theorem e_Ne_wrongWitnesses (D : Nat) (x0 x1 : mV) (I : mN) (S : mH) (Q : mQ) (h : mCs [x0, x1] ≤ 2) : mRun (D + 1) 46 [x0, x1] I S Q = mAt (mRun D) 46 0 ([some x0, some x1, none, none, none, none, none, none], [], I, S) Q := propext ⟨fun z => z.2, fun z => ⟨⟨h, Nat.le_of_ble_eq_true rfl⟩, z⟩⟩
theorem a_Ne_wrongWitnesses_0 (D : Nat) (c : mC) (Q : mQ) : mAt (mRun D) 46 0 c Q = mWp (mRun D) 46 10 (fun pc c => mAt (mRun D) 46 pc c Q) Q bk_Ne_wrongWitnesses_0 c := mAt_blk rfl
theorem a_Ne_wrongWitnesses_10 (D : Nat) (c : mC) (Q : mQ) : mAt (mRun D) 46 10 c Q = mWp (mRun D) 46 44 (fun pc c => mAt (mRun D) 46 pc c Q) Q bk_Ne_wrongWitnesses_10 c := mAt_blk rfl
theorem a_Ne_wrongWitnesses_44 (D : Nat) (c : mC) (Q : mQ) : mAt (mRun D) 46 44 c Q = mWp (mRun D) 46 0 (fun pc c => mAt (mRun D) 46 pc c Q) Q bk_Ne_wrongWitnesses_44 c := mAt_blk rfl
theorem a_Ne_wrongWitnesses_140 (D : Nat) (c : mC) (Q : mQ) : mAt (mRun D) 46 140 c Q = mWp (mRun D) 46 141 (fun pc c => mAt (mRun D) 46 pc c Q) Q bk_Ne_wrongWitnesses_140 c := mAt_blk rfl
theorem a_Ne_wrongWitnesses_141 (D : Nat) (c : mC) (Q : mQ) : mAt (mRun D) 46 141 c Q = mWp (mRun D) 46 143 (fun pc c => mAt (mRun D) 46 pc c Q) Q bk_Ne_wrongWitnesses_141 c := mAt_blk rfl
theorem a_Ne_wrongWitnesses_143 (D : Nat) (c : mC) (Q : mQ) : mAt (mRun D) 46 143 c Q = mWp (mRun D) 46 0 (fun pc c => mAt (mRun D) 46 pc c Q) Q bk_Ne_wrongWitnesses_143 c := mAt_blk rfl
theorem a_Ne_wrongWitnesses_149 (D : Nat) (c : mC) (Q : mQ) : mAt (mRun D) 46 149 c Q = mWp (mRun D) 46 0 (fun pc c => mAt (mRun D) 46 pc c Q) Q bk_Ne_wrongWitnesses_149 c := mAt_blk rfl
theorem a_Ne_wrongWitnesses_155 (D : Nat) (c : mC) (Q : mQ) : mAt (mRun D) 46 155 c Q = mWp (mRun D) 46 0 (fun pc c => mAt (mRun D) 46 pc c Q) Q bk_Ne_wrongWitnesses_155 c := mAt_blk rfl
theorem e_Ne_wrongNodes (D : Nat) (x0 x1 : mV) (I : mN) (S : mH) (Q : mQ) (h : mCs [x0, x1] ≤ 2) : mRun (D + 1) 47 [x0, x1] I S Q = mAt (mRun D) 47 0 ([some x0, some x1, none, none, none, none], [], I, S) Q := propext ⟨fun z => z.2, fun z => ⟨⟨h, Nat.le_of_ble_eq_true rfl⟩, z⟩⟩
theorem a_Ne_wrongNodes_0 (D : Nat) (c : mC) (Q : mQ) : mAt (mRun D) 47 0 c Q = mWp (mRun D) 47 4 (fun pc c => mAt (mRun D) 47 pc c Q) Q bk_Ne_wrongNodes_0 c := mAt_blk rfl
theorem a_Ne_wrongNodes_4 (D : Nat) (c : mC) (Q : mQ) : mAt (mRun D) 47 4 c Q = mWp (mRun D) 47 18 (fun pc c => mAt (mRun D) 47 pc c Q) Q bk_Ne_wrongNodes_4 c := mAt_blk rfl
theorem a_Ne_wrongNodes_18 (D : Nat) (c : mC) (Q : mQ) : mAt (mRun D) 47 18 c Q = mWp (mRun D) 47 78 (fun pc c => mAt (mRun D) 47 pc c Q) Q bk_Ne_wrongNodes_18 c := mAt_blk rfl
theorem a_Ne_wrongNodes_78 (D : Nat) (c : mC) (Q : mQ) : mAt (mRun D) 47 78 c Q = mWp (mRun D) 47 0 (fun pc c => mAt (mRun D) 47 pc c Q) Q bk_Ne_wrongNodes_78 c := mAt_blk rfl
theorem a_Ne_wrongNodes_84 (D : Nat) (c : mC) (Q : mQ) : mAt (mRun D) 47 84 c Q = mWp (mRun D) 47 0 (fun pc c => mAt (mRun D) 47 pc c Q) Q bk_Ne_wrongNodes_84 c := mAt_blk rfl
theorem a_Ne_wrongNodes_90 (D : Nat) (c : mC) (Q : mQ) : mAt (mRun D) 47 90 c Q = mWp (mRun D) 47 0 (fun pc c => mAt (mRun D) 47 pc c Q) Q bk_Ne_wrongNodes_90 c := mAt_blk rfl
theorem e_Ne_waterInto (D : Nat) (x0 x1 : mV) (I : mN) (S : mH) (Q : mQ) (h : mCs [x0, x1] ≤ 2) : mRun (D + 1) 48 [x0, x1] I S Q = mAt (mRun D) 48 0 ([some x0, some x1, none, none, none, none], [], I, S) Q := propext ⟨fun z => z.2, fun z => ⟨⟨h, Nat.le_of_ble_eq_true rfl⟩, z⟩⟩
theorem a_Ne_waterInto_0 (D : Nat) (c : mC) (Q : mQ) : mAt (mRun D) 48 0 c Q = mWp (mRun D) 48 4 (fun pc c => mAt (mRun D) 48 pc c Q) Q bk_Ne_waterInto_0 c := mAt_blk rfl
theorem a_Ne_waterInto_4 (D : Nat) (c : mC) (Q : mQ) : mAt (mRun D) 48 4 c Q = mWp (mRun D) 48 25 (fun pc c => mAt (mRun D) 48 pc c Q) Q bk_Ne_waterInto_4 c := mAt_blk rfl
theorem a_Ne_waterInto_25 (D : Nat) (c : mC) (Q : mQ) : mAt (mRun D) 48 25 c Q = mWp (mRun D) 48 0 (fun pc c => mAt (mRun D) 48 pc c Q) Q bk_Ne_waterInto_25 c := mAt_blk rfl
theorem a_Ne_waterInto_31 (D : Nat) (c : mC) (Q : mQ) : mAt (mRun D) 48 31 c Q = mWp (mRun D) 48 33 (fun pc c => mAt (mRun D) 48 pc c Q) Q bk_Ne_waterInto_31 c := mAt_blk rfl
theorem a_Ne_waterInto_33 (D : Nat) (c : mC) (Q : mQ) : mAt (mRun D) 48 33 c Q = mWp (mRun D) 48 45 (fun pc c => mAt (mRun D) 48 pc c Q) Q bk_Ne_waterInto_33 c := mAt_blk rfl
theorem a_Ne_waterInto_45 (D : Nat) (c : mC) (Q : mQ) : mAt (mRun D) 48 45 c Q = mWp (mRun D) 48 129 (fun pc c => mAt (mRun D) 48 pc c Q) Q bk_Ne_waterInto_45 c := mAt_blk rfl
theorem a_Ne_waterInto_129 (D : Nat) (c : mC) (Q : mQ) : mAt (mRun D) 48 129 c Q = mWp (mRun D) 48 0 (fun pc c => mAt (mRun D) 48 pc c Q) Q bk_Ne_waterInto_129 c := mAt_blk rfl
theorem a_Ne_waterInto_135 (D : Nat) (c : mC) (Q : mQ) : mAt (mRun D) 48 135 c Q = mWp (mRun D) 48 0 (fun pc c => mAt (mRun D) 48 pc c Q) Q bk_Ne_waterInto_135 c := mAt_blk rfl
theorem a_Ne_waterInto_141 (D : Nat) (c : mC) (Q : mQ) : mAt (mRun D) 48 141 c Q = mWp (mRun D) 48 0 (fun pc c => mAt (mRun D) 48 pc c Q) Q bk_Ne_waterInto_141 c := mAt_blk rfl
theorem e_Ne_load (D : Nat) (x0 x1 x2 : mV) (I : mN) (S : mH) (Q : mQ) (h : mCs [x0, x1, x2] ≤ 3) : mRun (D + 1) 49 [x0, x1, x2] I S Q = mAt (mRun D) 49 0 ([some x0, some x1, some x2, none, none, none], [], I, S) Q := propext ⟨fun z => z.2, fun z => ⟨⟨h, Nat.le_of_ble_eq_true rfl⟩, z⟩⟩
theorem a_Ne_load_0 (D : Nat) (c : mC) (Q : mQ) : mAt (mRun D) 49 0 c Q = mWp (mRun D) 49 10 (fun pc c => mAt (mRun D) 49 pc c Q) Q bk_Ne_load_0 c := mAt_blk rfl
theorem a_Ne_load_10 (D : Nat) (c : mC) (Q : mQ) : mAt (mRun D) 49 10 c Q = mWp (mRun D) 49 0 (fun pc c => mAt (mRun D) 49 pc c Q) Q bk_Ne_load_10 c := mAt_blk rfl
theorem a_Ne_load_36 (D : Nat) (c : mC) (Q : mQ) : mAt (mRun D) 49 36 c Q = mWp (mRun D) 49 38 (fun pc c => mAt (mRun D) 49 pc c Q) Q bk_Ne_load_36 c := mAt_blk rfl
theorem a_Ne_load_38 (D : Nat) (c : mC) (Q : mQ) : mAt (mRun D) 49 38 c Q = mWp (mRun D) 49 0 (fun pc c => mAt (mRun D) 49 pc c Q) Q bk_Ne_load_38 c := mAt_blk rfl
theorem a_Ne_load_64 (D : Nat) (c : mC) (Q : mQ) : mAt (mRun D) 49 64 c Q = mWp (mRun D) 49 65 (fun pc c => mAt (mRun D) 49 pc c Q) Q bk_Ne_load_64 c := mAt_blk rfl
theorem a_Ne_load_65 (D : Nat) (c : mC) (Q : mQ) : mAt (mRun D) 49 65 c Q = mWp (mRun D) 49 0 (fun pc c => mAt (mRun D) 49 pc c Q) Q bk_Ne_load_65 c := mAt_blk rfl
theorem a_Ne_load_82 (D : Nat) (c : mC) (Q : mQ) : mAt (mRun D) 49 82 c Q = mWp (mRun D) 49 83 (fun pc c => mAt (mRun D) 49 pc c Q) Q bk_Ne_load_82 c := mAt_blk rfl
theorem a_Ne_load_83 (D : Nat) (c : mC) (Q : mQ) : mAt (mRun D) 49 83 c Q = mWp (mRun D) 49 0 (fun pc c => mAt (mRun D) 49 pc c Q) Q bk_Ne_load_83 c := mAt_blk rfl
theorem a_Ne_load_96 (D : Nat) (c : mC) (Q : mQ) : mAt (mRun D) 49 96 c Q = mWp (mRun D) 49 97 (fun pc c => mAt (mRun D) 49 pc c Q) Q bk_Ne_load_96 c := mAt_blk rfl
theorem a_Ne_load_97 (D : Nat) (c : mC) (Q : mQ) : mAt (mRun D) 49 97 c Q = mWp (mRun D) 49 0 (fun pc c => mAt (mRun D) 49 pc c Q) Q bk_Ne_load_97 c := mAt_blk rfl
theorem a_Ne_load_130 (D : Nat) (c : mC) (Q : mQ) : mAt (mRun D) 49 130 c Q = mWp (mRun D) 49 132 (fun pc c => mAt (mRun D) 49 pc c Q) Q bk_Ne_load_130 c := mAt_blk rfl
theorem a_Ne_load_132 (D : Nat) (c : mC) (Q : mQ) : mAt (mRun D) 49 132 c Q = mWp (mRun D) 49 0 (fun pc c => mAt (mRun D) 49 pc c Q) Q bk_Ne_load_132 c := mAt_blk rfl
theorem a_Ne_load_156 (D : Nat) (c : mC) (Q : mQ) : mAt (mRun D) 49 156 c Q = mWp (mRun D) 49 157 (fun pc c => mAt (mRun D) 49 pc c Q) Q bk_Ne_load_156 c := mAt_blk rfl
theorem a_Ne_load_157 (D : Nat) (c : mC) (Q : mQ) : mAt (mRun D) 49 157 c Q = mWp (mRun D) 49 0 (fun pc c => mAt (mRun D) 49 pc c Q) Q bk_Ne_load_157 c := mAt_blk rfl
theorem a_Ne_load_205 (D : Nat) (c : mC) (Q : mQ) : mAt (mRun D) 49 205 c Q = mWp (mRun D) 49 207 (fun pc c => mAt (mRun D) 49 pc c Q) Q bk_Ne_load_205 c := mAt_blk rfl
theorem a_Ne_load_207 (D : Nat) (c : mC) (Q : mQ) : mAt (mRun D) 49 207 c Q = mWp (mRun D) 49 0 (fun pc c => mAt (mRun D) 49 pc c Q) Q bk_Ne_load_207 c := mAt_blk rfl
theorem a_Ne_load_250 (D : Nat) (c : mC) (Q : mQ) : mAt (mRun D) 49 250 c Q = mWp (mRun D) 49 252 (fun pc c => mAt (mRun D) 49 pc c Q) Q bk_Ne_load_250 c := mAt_blk rfl
theorem a_Ne_load_252 (D : Nat) (c : mC) (Q : mQ) : mAt (mRun D) 49 252 c Q = mWp (mRun D) 49 0 (fun pc c => mAt (mRun D) 49 pc c Q) Q bk_Ne_load_252 c := mAt_blk rfl
theorem a_Ne_load_277 (D : Nat) (c : mC) (Q : mQ) : mAt (mRun D) 49 277 c Q = mWp (mRun D) 49 0 (fun pc c => mAt (mRun D) 49 pc c Q) Q bk_Ne_load_277 c := mAt_blk rfl
theorem e_Ne_setChannel (D : Nat) (x0 x1 x2 x3 x4 : mV) (I : mN) (S : mH) (Q : mQ) (h : mCs [x0, x1, x2, x3, x4] ≤ 5) : mRun (D + 1) 50 [x0, x1, x2, x3, x4] I S Q = mAt (mRun D) 50 0 ([some x0, some x1, some x2, some x3, some x4], [], I, S) Q := propext ⟨fun z => z.2, fun z => ⟨⟨h, Nat.le_of_ble_eq_true rfl⟩, z⟩⟩
theorem a_Ne_setChannel_0 (D : Nat) (c : mC) (Q : mQ) : mAt (mRun D) 50 0 c Q = mWp (mRun D) 50 0 (fun pc c => mAt (mRun D) 50 pc c Q) Q bk_Ne_setChannel_0 c := mAt_blk rfl
theorem e_Ne_supplyAt (D : Nat) (x0 x1 x2 x3 : mV) (I : mN) (S : mH) (Q : mQ) (h : mCs [x0, x1, x2, x3] ≤ 4) : mRun (D + 1) 51 [x0, x1, x2, x3] I S Q = mAt (mRun D) 51 0 ([some x0, some x1, some x2, some x3, none, none, none, none], [], I, S) Q := propext ⟨fun z => z.2, fun z => ⟨⟨h, Nat.le_of_ble_eq_true rfl⟩, z⟩⟩
theorem a_Ne_supplyAt_0 (D : Nat) (c : mC) (Q : mQ) : mAt (mRun D) 51 0 c Q = mWp (mRun D) 51 16 (fun pc c => mAt (mRun D) 51 pc c Q) Q bk_Ne_supplyAt_0 c := mAt_blk rfl
theorem a_Ne_supplyAt_16 (D : Nat) (c : mC) (Q : mQ) : mAt (mRun D) 51 16 c Q = mWp (mRun D) 51 0 (fun pc c => mAt (mRun D) 51 pc c Q) Q bk_Ne_supplyAt_16 c := mAt_blk rfl
theorem a_Ne_supplyAt_18 (D : Nat) (c : mC) (Q : mQ) : mAt (mRun D) 51 18 c Q = mWp (mRun D) 51 60 (fun pc c => mAt (mRun D) 51 pc c Q) Q bk_Ne_supplyAt_18 c := mAt_blk rfl
theorem a_Ne_supplyAt_60 (D : Nat) (c : mC) (Q : mQ) : mAt (mRun D) 51 60 c Q = mWp (mRun D) 51 63 (fun pc c => mAt (mRun D) 51 pc c Q) Q bk_Ne_supplyAt_60 c := mAt_blk rfl
theorem a_Ne_supplyAt_63 (D : Nat) (c : mC) (Q : mQ) : mAt (mRun D) 51 63 c Q = mWp (mRun D) 51 126 (fun pc c => mAt (mRun D) 51 pc c Q) Q bk_Ne_supplyAt_63 c := mAt_blk rfl
theorem a_Ne_supplyAt_126 (D : Nat) (c : mC) (Q : mQ) : mAt (mRun D) 51 126 c Q = mWp (mRun D) 51 0 (fun pc c => mAt (mRun D) 51 pc c Q) Q bk_Ne_supplyAt_126 c := mAt_blk rfl
theorem a_Ne_supplyAt_132 (D : Nat) (c : mC) (Q : mQ) : mAt (mRun D) 51 132 c Q = mWp (mRun D) 51 0 (fun pc c => mAt (mRun D) 51 pc c Q) Q bk_Ne_supplyAt_132 c := mAt_blk rfl
theorem e_Ne_bring (D : Nat) (x0 x1 x2 : mV) (I : mN) (S : mH) (Q : mQ) (h : mCs [x0, x1, x2] ≤ 3) : mRun (D + 1) 52 [x0, x1, x2] I S Q = mAt (mRun D) 52 0 ([some x0, some x1, some x2, none, none, none], [], I, S) Q := propext ⟨fun z => z.2, fun z => ⟨⟨h, Nat.le_of_ble_eq_true rfl⟩, z⟩⟩
theorem a_Ne_bring_0 (D : Nat) (c : mC) (Q : mQ) : mAt (mRun D) 52 0 c Q = mWp (mRun D) 52 5 (fun pc c => mAt (mRun D) 52 pc c Q) Q bk_Ne_bring_0 c := mAt_blk rfl
theorem a_Ne_bring_5 (D : Nat) (c : mC) (Q : mQ) : mAt (mRun D) 52 5 c Q = mWp (mRun D) 52 0 (fun pc c => mAt (mRun D) 52 pc c Q) Q bk_Ne_bring_5 c := mAt_blk rfl
theorem a_Ne_bring_29 (D : Nat) (c : mC) (Q : mQ) : mAt (mRun D) 52 29 c Q = mWp (mRun D) 52 34 (fun pc c => mAt (mRun D) 52 pc c Q) Q bk_Ne_bring_29 c := mAt_blk rfl
theorem a_Ne_bring_34 (D : Nat) (c : mC) (Q : mQ) : mAt (mRun D) 52 34 c Q = mWp (mRun D) 52 0 (fun pc c => mAt (mRun D) 52 pc c Q) Q bk_Ne_bring_34 c := mAt_blk rfl
theorem a_Ne_bring_45 (D : Nat) (c : mC) (Q : mQ) : mAt (mRun D) 52 45 c Q = mWp (mRun D) 52 0 (fun pc c => mAt (mRun D) 52 pc c Q) Q bk_Ne_bring_45 c := mAt_blk rfl
theorem a_Ne_bring_64 (D : Nat) (c : mC) (Q : mQ) : mAt (mRun D) 52 64 c Q = mWp (mRun D) 52 0 (fun pc c => mAt (mRun D) 52 pc c Q) Q bk_Ne_bring_64 c := mAt_blk rfl
theorem e_Ne_findSpare (D : Nat) (x0 x1 : mV) (I : mN) (S : mH) (Q : mQ) (h : mCs [x0, x1] ≤ 2) : mRun (D + 1) 53 [x0, x1] I S Q = mAt (mRun D) 53 0 ([some x0, some x1, none, none], [], I, S) Q := propext ⟨fun z => z.2, fun z => ⟨⟨h, Nat.le_of_ble_eq_true rfl⟩, z⟩⟩
theorem a_Ne_findSpare_0 (D : Nat) (c : mC) (Q : mQ) : mAt (mRun D) 53 0 c Q = mWp (mRun D) 53 2 (fun pc c => mAt (mRun D) 53 pc c Q) Q bk_Ne_findSpare_0 c := mAt_blk rfl
theorem a_Ne_findSpare_2 (D : Nat) (c : mC) (Q : mQ) : mAt (mRun D) 53 2 c Q = mWp (mRun D) 53 0 (fun pc c => mAt (mRun D) 53 pc c Q) Q bk_Ne_findSpare_2 c := mAt_blk rfl
theorem a_Ne_findSpare_34 (D : Nat) (c : mC) (Q : mQ) : mAt (mRun D) 53 34 c Q = mWp (mRun D) 53 55 (fun pc c => mAt (mRun D) 53 pc c Q) Q bk_Ne_findSpare_34 c := mAt_blk rfl
theorem a_Ne_findSpare_55 (D : Nat) (c : mC) (Q : mQ) : mAt (mRun D) 53 55 c Q = mWp (mRun D) 53 0 (fun pc c => mAt (mRun D) 53 pc c Q) Q bk_Ne_findSpare_55 c := mAt_blk rfl
theorem a_Ne_findSpare_87 (D : Nat) (c : mC) (Q : mQ) : mAt (mRun D) 53 87 c Q = mWp (mRun D) 53 0 (fun pc c => mAt (mRun D) 53 pc c Q) Q bk_Ne_findSpare_87 c := mAt_blk rfl
theorem a_Ne_findSpare_98 (D : Nat) (c : mC) (Q : mQ) : mAt (mRun D) 53 98 c Q = mWp (mRun D) 53 0 (fun pc c => mAt (mRun D) 53 pc c Q) Q bk_Ne_findSpare_98 c := mAt_blk rfl
theorem e_Ne_lookBack (D : Nat) (x0 x1 : mV) (I : mN) (S : mH) (Q : mQ) (h : mCs [x0, x1] ≤ 2) : mRun (D + 1) 54 [x0, x1] I S Q = mAt (mRun D) 54 0 ([some x0, some x1, none, none, none, none, none, none], [], I, S) Q := propext ⟨fun z => z.2, fun z => ⟨⟨h, Nat.le_of_ble_eq_true rfl⟩, z⟩⟩
theorem a_Ne_lookBack_0 (D : Nat) (c : mC) (Q : mQ) : mAt (mRun D) 54 0 c Q = mWp (mRun D) 54 13 (fun pc c => mAt (mRun D) 54 pc c Q) Q bk_Ne_lookBack_0 c := mAt_blk rfl
theorem a_Ne_lookBack_13 (D : Nat) (c : mC) (Q : mQ) : mAt (mRun D) 54 13 c Q = mWp (mRun D) 54 108 (fun pc c => mAt (mRun D) 54 pc c Q) Q bk_Ne_lookBack_13 c := mAt_blk rfl
theorem a_Ne_lookBack_108 (D : Nat) (c : mC) (Q : mQ) : mAt (mRun D) 54 108 c Q = mWp (mRun D) 54 186 (fun pc c => mAt (mRun D) 54 pc c Q) Q bk_Ne_lookBack_108 c := mAt_blk rfl
theorem a_Ne_lookBack_186 (D : Nat) (c : mC) (Q : mQ) : mAt (mRun D) 54 186 c Q = mWp (mRun D) 54 0 (fun pc c => mAt (mRun D) 54 pc c Q) Q bk_Ne_lookBack_186 c := mAt_blk rfl
theorem a_Ne_lookBack_192 (D : Nat) (c : mC) (Q : mQ) : mAt (mRun D) 54 192 c Q = mWp (mRun D) 54 0 (fun pc c => mAt (mRun D) 54 pc c Q) Q bk_Ne_lookBack_192 c := mAt_blk rfl
theorem e_Ne_reach (D : Nat) (x0 x1 x2 x3 : mV) (I : mN) (S : mH) (Q : mQ) (h : mCs [x0, x1, x2, x3] ≤ 4) : mRun (D + 1) 55 [x0, x1, x2, x3] I S Q = mAt (mRun D) 55 0 ([some x0, some x1, some x2, some x3], [], I, S) Q := propext ⟨fun z => z.2, fun z => ⟨⟨h, Nat.le_of_ble_eq_true rfl⟩, z⟩⟩
theorem a_Ne_reach_0 (D : Nat) (c : mC) (Q : mQ) : mAt (mRun D) 55 0 c Q = mWp (mRun D) 55 68 (fun pc c => mAt (mRun D) 55 pc c Q) Q bk_Ne_reach_0 c := mAt_blk rfl
theorem a_Ne_reach_68 (D : Nat) (c : mC) (Q : mQ) : mAt (mRun D) 55 68 c Q = mWp (mRun D) 55 0 (fun pc c => mAt (mRun D) 55 pc c Q) Q bk_Ne_reach_68 c := mAt_blk rfl
theorem e_Ne_push (D : Nat) (x0 x1 x2 x3 : mV) (I : mN) (S : mH) (Q : mQ) (h : mCs [x0, x1, x2, x3] ≤ 4) : mRun (D + 1) 56 [x0, x1, x2, x3] I S Q = mAt (mRun D) 56 0 ([some x0, some x1, some x2, some x3, none, none, none, none, none], [], I, S) Q := propext ⟨fun z => z.2, fun z => ⟨⟨h, Nat.le_of_ble_eq_true rfl⟩, z⟩⟩
theorem a_Ne_push_0 (D : Nat) (c : mC) (Q : mQ) : mAt (mRun D) 56 0 c Q = mWp (mRun D) 56 0 (fun pc c => mAt (mRun D) 56 pc c Q) Q bk_Ne_push_0 c := mAt_blk rfl
theorem a_Ne_push_19 (D : Nat) (c : mC) (Q : mQ) : mAt (mRun D) 56 19 c Q = mWp (mRun D) 56 20 (fun pc c => mAt (mRun D) 56 pc c Q) Q bk_Ne_push_19 c := mAt_blk rfl
theorem a_Ne_push_20 (D : Nat) (c : mC) (Q : mQ) : mAt (mRun D) 56 20 c Q = mWp (mRun D) 56 28 (fun pc c => mAt (mRun D) 56 pc c Q) Q bk_Ne_push_20 c := mAt_blk rfl
theorem a_Ne_push_28 (D : Nat) (c : mC) (Q : mQ) : mAt (mRun D) 56 28 c Q = mWp (mRun D) 56 0 (fun pc c => mAt (mRun D) 56 pc c Q) Q bk_Ne_push_28 c := mAt_blk rfl
theorem a_Ne_push_79 (D : Nat) (c : mC) (Q : mQ) : mAt (mRun D) 56 79 c Q = mWp (mRun D) 56 86 (fun pc c => mAt (mRun D) 56 pc c Q) Q bk_Ne_push_79 c := mAt_blk rfl
theorem a_Ne_push_86 (D : Nat) (c : mC) (Q : mQ) : mAt (mRun D) 56 86 c Q = mWp (mRun D) 56 0 (fun pc c => mAt (mRun D) 56 pc c Q) Q bk_Ne_push_86 c := mAt_blk rfl
theorem a_Ne_push_100 (D : Nat) (c : mC) (Q : mQ) : mAt (mRun D) 56 100 c Q = mWp (mRun D) 56 102 (fun pc c => mAt (mRun D) 56 pc c Q) Q bk_Ne_push_100 c := mAt_blk rfl
theorem a_Ne_push_102 (D : Nat) (c : mC) (Q : mQ) : mAt (mRun D) 56 102 c Q = mWp (mRun D) 56 0 (fun pc c => mAt (mRun D) 56 pc c Q) Q bk_Ne_push_102 c := mAt_blk rfl
theorem a_Ne_push_119 (D : Nat) (c : mC) (Q : mQ) : mAt (mRun D) 56 119 c Q = mWp (mRun D) 56 125 (fun pc c => mAt (mRun D) 56 pc c Q) Q bk_Ne_push_119 c := mAt_blk rfl
theorem a_Ne_push_125 (D : Nat) (c : mC) (Q : mQ) : mAt (mRun D) 56 125 c Q = mWp (mRun D) 56 0 (fun pc c => mAt (mRun D) 56 pc c Q) Q bk_Ne_push_125 c := mAt_blk rfl
theorem a_Ne_push_171 (D : Nat) (c : mC) (Q : mQ) : mAt (mRun D) 56 171 c Q = mWp (mRun D) 56 174 (fun pc c => mAt (mRun D) 56 pc c Q) Q bk_Ne_push_171 c := mAt_blk rfl
theorem a_Ne_push_174 (D : Nat) (c : mC) (Q : mQ) : mAt (mRun D) 56 174 c Q = mWp (mRun D) 56 0 (fun pc c => mAt (mRun D) 56 pc c Q) Q bk_Ne_push_174 c := mAt_blk rfl
theorem a_Ne_push_191 (D : Nat) (c : mC) (Q : mQ) : mAt (mRun D) 56 191 c Q = mWp (mRun D) 56 0 (fun pc c => mAt (mRun D) 56 pc c Q) Q bk_Ne_push_191 c := mAt_blk rfl
theorem e_Ne_leadsFrom (D : Nat) (x0 x1 x2 : mV) (I : mN) (S : mH) (Q : mQ) (h : mCs [x0, x1, x2] ≤ 3) : mRun (D + 1) 57 [x0, x1, x2] I S Q = mAt (mRun D) 57 0 ([some x0, some x1, some x2], [], I, S) Q := propext ⟨fun z => z.2, fun z => ⟨⟨h, Nat.le_of_ble_eq_true rfl⟩, z⟩⟩
theorem a_Ne_leadsFrom_0 (D : Nat) (c : mC) (Q : mQ) : mAt (mRun D) 57 0 c Q = mWp (mRun D) 57 0 (fun pc c => mAt (mRun D) 57 pc c Q) Q bk_Ne_leadsFrom_0 c := mAt_blk rfl
theorem a_Ne_leadsFrom_25 (D : Nat) (c : mC) (Q : mQ) : mAt (mRun D) 57 25 c Q = mWp (mRun D) 57 26 (fun pc c => mAt (mRun D) 57 pc c Q) Q bk_Ne_leadsFrom_25 c := mAt_blk rfl
theorem a_Ne_leadsFrom_26 (D : Nat) (c : mC) (Q : mQ) : mAt (mRun D) 57 26 c Q = mWp (mRun D) 57 0 (fun pc c => mAt (mRun D) 57 pc c Q) Q bk_Ne_leadsFrom_26 c := mAt_blk rfl
theorem e_Pl_init (D : Nat) (x0 : mV) (I : mN) (S : mH) (Q : mQ) (h : mCs [x0] ≤ 1) : mRun (D + 1) 58 [x0] I S Q = mAt (mRun D) 58 0 ([some x0], [], I, S) Q := propext ⟨fun z => z.2, fun z => ⟨⟨h, Nat.le_of_ble_eq_true rfl⟩, z⟩⟩
theorem a_Pl_init_0 (D : Nat) (c : mC) (Q : mQ) : mAt (mRun D) 58 0 c Q = mWp (mRun D) 58 0 (fun pc c => mAt (mRun D) 58 pc c Q) Q bk_Pl_init_0 c := mAt_blk rfl
theorem e_Pl_reset (D : Nat) (x0 : mV) (I : mN) (S : mH) (Q : mQ) (h : mCs [x0] ≤ 1) : mRun (D + 1) 59 [x0] I S Q = mAt (mRun D) 59 0 ([some x0], [], I, S) Q := propext ⟨fun z => z.2, fun z => ⟨⟨h, Nat.le_of_ble_eq_true rfl⟩, z⟩⟩
theorem a_Pl_reset_0 (D : Nat) (c : mC) (Q : mQ) : mAt (mRun D) 59 0 c Q = mWp (mRun D) 59 0 (fun pc c => mAt (mRun D) 59 pc c Q) Q bk_Pl_reset_0 c := mAt_blk rfl
theorem e_Pl_copyFrom (D : Nat) (x0 x1 : mV) (I : mN) (S : mH) (Q : mQ) (h : mCs [x0, x1] ≤ 2) : mRun (D + 1) 60 [x0, x1] I S Q = mAt (mRun D) 60 0 ([some x0, some x1], [], I, S) Q := propext ⟨fun z => z.2, fun z => ⟨⟨h, Nat.le_of_ble_eq_true rfl⟩, z⟩⟩
theorem a_Pl_copyFrom_0 (D : Nat) (c : mC) (Q : mQ) : mAt (mRun D) 60 0 c Q = mWp (mRun D) 60 0 (fun pc c => mAt (mRun D) 60 pc c Q) Q bk_Pl_copyFrom_0 c := mAt_blk rfl
theorem e_Re_init (D : Nat) (x0 : mV) (I : mN) (S : mH) (Q : mQ) (h : mCs [x0] ≤ 1) : mRun (D + 1) 61 [x0] I S Q = mAt (mRun D) 61 0 ([some x0], [], I, S) Q := propext ⟨fun z => z.2, fun z => ⟨⟨h, Nat.le_of_ble_eq_true rfl⟩, z⟩⟩
theorem a_Re_init_0 (D : Nat) (c : mC) (Q : mQ) : mAt (mRun D) 61 0 c Q = mWp (mRun D) 61 0 (fun pc c => mAt (mRun D) 61 pc c Q) Q bk_Re_init_0 c := mAt_blk rfl
theorem e_Re_reset (D : Nat) (x0 : mV) (I : mN) (S : mH) (Q : mQ) (h : mCs [x0] ≤ 1) : mRun (D + 1) 62 [x0] I S Q = mAt (mRun D) 62 0 ([some x0], [], I, S) Q := propext ⟨fun z => z.2, fun z => ⟨⟨h, Nat.le_of_ble_eq_true rfl⟩, z⟩⟩
theorem a_Re_reset_0 (D : Nat) (c : mC) (Q : mQ) : mAt (mRun D) 62 0 c Q = mWp (mRun D) 62 0 (fun pc c => mAt (mRun D) 62 pc c Q) Q bk_Re_reset_0 c := mAt_blk rfl
theorem e_Re_copyFrom (D : Nat) (x0 x1 : mV) (I : mN) (S : mH) (Q : mQ) (h : mCs [x0, x1] ≤ 2) : mRun (D + 1) 63 [x0, x1] I S Q = mAt (mRun D) 63 0 ([some x0, some x1], [], I, S) Q := propext ⟨fun z => z.2, fun z => ⟨⟨h, Nat.le_of_ble_eq_true rfl⟩, z⟩⟩
theorem a_Re_copyFrom_0 (D : Nat) (c : mC) (Q : mQ) : mAt (mRun D) 63 0 c Q = mWp (mRun D) 63 0 (fun pc c => mAt (mRun D) 63 pc c Q) Q bk_Re_copyFrom_0 c := mAt_blk rfl
theorem e_Rd_init (D : Nat) (x0 x1 : mV) (I : mN) (S : mH) (Q : mQ) (h : mCs [x0, x1] ≤ 2) : mRun (D + 1) 64 [x0, x1] I S Q = mAt (mRun D) 64 0 ([some x0, some x1], [], I, S) Q := propext ⟨fun z => z.2, fun z => ⟨⟨h, Nat.le_of_ble_eq_true rfl⟩, z⟩⟩
theorem a_Rd_init_0 (D : Nat) (c : mC) (Q : mQ) : mAt (mRun D) 64 0 c Q = mWp (mRun D) 64 0 (fun pc c => mAt (mRun D) 64 pc c Q) Q bk_Rd_init_0 c := mAt_blk rfl
theorem e_Rd_addText (D : Nat) (x0 x1 : mV) (I : mN) (S : mH) (Q : mQ) (h : mCs [x0, x1] ≤ 2) : mRun (D + 1) 65 [x0, x1] I S Q = mAt (mRun D) 65 0 ([some x0, some x1, none], [], I, S) Q := propext ⟨fun z => z.2, fun z => ⟨⟨h, Nat.le_of_ble_eq_true rfl⟩, z⟩⟩
theorem a_Rd_addText_0 (D : Nat) (c : mC) (Q : mQ) : mAt (mRun D) 65 0 c Q = mWp (mRun D) 65 2 (fun pc c => mAt (mRun D) 65 pc c Q) Q bk_Rd_addText_0 c := mAt_blk rfl
theorem a_Rd_addText_2 (D : Nat) (c : mC) (Q : mQ) : mAt (mRun D) 65 2 c Q = mWp (mRun D) 65 0 (fun pc c => mAt (mRun D) 65 pc c Q) Q bk_Rd_addText_2 c := mAt_blk rfl
theorem a_Rd_addText_25 (D : Nat) (c : mC) (Q : mQ) : mAt (mRun D) 65 25 c Q = mWp (mRun D) 65 0 (fun pc c => mAt (mRun D) 65 pc c Q) Q bk_Rd_addText_25 c := mAt_blk rfl
theorem e_Rd_addBytes (D : Nat) (x0 x1 : mV) (I : mN) (S : mH) (Q : mQ) (h : mCs [x0, x1] ≤ 2) : mRun (D + 1) 66 [x0, x1] I S Q = mAt (mRun D) 66 0 ([some x0, some x1, none, none], [], I, S) Q := propext ⟨fun z => z.2, fun z => ⟨⟨h, Nat.le_of_ble_eq_true rfl⟩, z⟩⟩
theorem a_Rd_addBytes_0 (D : Nat) (c : mC) (Q : mQ) : mAt (mRun D) 66 0 c Q = mWp (mRun D) 66 3 (fun pc c => mAt (mRun D) 66 pc c Q) Q bk_Rd_addBytes_0 c := mAt_blk rfl
theorem a_Rd_addBytes_3 (D : Nat) (c : mC) (Q : mQ) : mAt (mRun D) 66 3 c Q = mWp (mRun D) 66 25 (fun pc c => mAt (mRun D) 66 pc c Q) Q bk_Rd_addBytes_3 c := mAt_blk rfl
theorem a_Rd_addBytes_25 (D : Nat) (c : mC) (Q : mQ) : mAt (mRun D) 66 25 c Q = mWp (mRun D) 66 0 (fun pc c => mAt (mRun D) 66 pc c Q) Q bk_Rd_addBytes_25 c := mAt_blk rfl
theorem a_Rd_addBytes_31 (D : Nat) (c : mC) (Q : mQ) : mAt (mRun D) 66 31 c Q = mWp (mRun D) 66 0 (fun pc c => mAt (mRun D) 66 pc c Q) Q bk_Rd_addBytes_31 c := mAt_blk rfl
theorem e_Rd_addByte (D : Nat) (x0 x1 : mV) (I : mN) (S : mH) (Q : mQ) (h : mCs [x0, x1] ≤ 2) : mRun (D + 1) 67 [x0, x1] I S Q = mAt (mRun D) 67 0 ([some x0, some x1], [], I, S) Q := propext ⟨fun z => z.2, fun z => ⟨⟨h, Nat.le_of_ble_eq_true rfl⟩, z⟩⟩
theorem a_Rd_addByte_0 (D : Nat) (c : mC) (Q : mQ) : mAt (mRun D) 67 0 c Q = mWp (mRun D) 67 30 (fun pc c => mAt (mRun D) 67 pc c Q) Q bk_Rd_addByte_0 c := mAt_blk rfl
theorem a_Rd_addByte_30 (D : Nat) (c : mC) (Q : mQ) : mAt (mRun D) 67 30 c Q = mWp (mRun D) 67 0 (fun pc c => mAt (mRun D) 67 pc c Q) Q bk_Rd_addByte_30 c := mAt_blk rfl
theorem e_Rd_takeBasin (D : Nat) (x0 x1 : mV) (I : mN) (S : mH) (Q : mQ) (h : mCs [x0, x1] ≤ 2) : mRun (D + 1) 68 [x0, x1] I S Q = mAt (mRun D) 68 0 ([some x0, some x1, none], [], I, S) Q := propext ⟨fun z => z.2, fun z => ⟨⟨h, Nat.le_of_ble_eq_true rfl⟩, z⟩⟩
theorem a_Rd_takeBasin_0 (D : Nat) (c : mC) (Q : mQ) : mAt (mRun D) 68 0 c Q = mWp (mRun D) 68 21 (fun pc c => mAt (mRun D) 68 pc c Q) Q bk_Rd_takeBasin_0 c := mAt_blk rfl
theorem a_Rd_takeBasin_21 (D : Nat) (c : mC) (Q : mQ) : mAt (mRun D) 68 21 c Q = mWp (mRun D) 68 0 (fun pc c => mAt (mRun D) 68 pc c Q) Q bk_Rd_takeBasin_21 c := mAt_blk rfl
theorem a_Rd_takeBasin_58 (D : Nat) (c : mC) (Q : mQ) : mAt (mRun D) 68 58 c Q = mWp (mRun D) 68 0 (fun pc c => mAt (mRun D) 68 pc c Q) Q bk_Rd_takeBasin_58 c := mAt_blk rfl
theorem e_Rd_takeDecree (D : Nat) (x0 : mV) (I : mN) (S : mH) (Q : mQ) (h : mCs [x0] ≤ 1) : mRun (D + 1) 69 [x0] I S Q = mAt (mRun D) 69 0 ([some x0], [], I, S) Q := propext ⟨fun z => z.2, fun z => ⟨⟨h, Nat.le_of_ble_eq_true rfl⟩, z⟩⟩
theorem a_Rd_takeDecree_0 (D : Nat) (c : mC) (Q : mQ) : mAt (mRun D) 69 0 c Q = mWp (mRun D) 69 21 (fun pc c => mAt (mRun D) 69 pc c Q) Q bk_Rd_takeDecree_0 c := mAt_blk rfl
theorem a_Rd_takeDecree_21 (D : Nat) (c : mC) (Q : mQ) : mAt (mRun D) 69 21 c Q = mWp (mRun D) 69 0 (fun pc c => mAt (mRun D) 69 pc c Q) Q bk_Rd_takeDecree_21 c := mAt_blk rfl
theorem e_Rd_finish (D : Nat) (x0 : mV) (I : mN) (S : mH) (Q : mQ) (h : mCs [x0] ≤ 1) : mRun (D + 1) 70 [x0] I S Q = mAt (mRun D) 70 0 ([some x0], [], I, S) Q := propext ⟨fun z => z.2, fun z => ⟨⟨h, Nat.le_of_ble_eq_true rfl⟩, z⟩⟩
theorem a_Rd_finish_0 (D : Nat) (c : mC) (Q : mQ) : mAt (mRun D) 70 0 c Q = mWp (mRun D) 70 0 (fun pc c => mAt (mRun D) 70 pc c Q) Q bk_Rd_finish_0 c := mAt_blk rfl
theorem a_Rd_finish_25 (D : Nat) (c : mC) (Q : mQ) : mAt (mRun D) 70 25 c Q = mWp (mRun D) 70 26 (fun pc c => mAt (mRun D) 70 pc c Q) Q bk_Rd_finish_25 c := mAt_blk rfl
theorem a_Rd_finish_26 (D : Nat) (c : mC) (Q : mQ) : mAt (mRun D) 70 26 c Q = mWp (mRun D) 70 0 (fun pc c => mAt (mRun D) 70 pc c Q) Q bk_Rd_finish_26 c := mAt_blk rfl
theorem a_Rd_finish_45 (D : Nat) (c : mC) (Q : mQ) : mAt (mRun D) 70 45 c Q = mWp (mRun D) 70 46 (fun pc c => mAt (mRun D) 70 pc c Q) Q bk_Rd_finish_45 c := mAt_blk rfl
theorem a_Rd_finish_46 (D : Nat) (c : mC) (Q : mQ) : mAt (mRun D) 70 46 c Q = mWp (mRun D) 70 0 (fun pc c => mAt (mRun D) 70 pc c Q) Q bk_Rd_finish_46 c := mAt_blk rfl
theorem e_Rd_split (D : Nat) (x0 : mV) (I : mN) (S : mH) (Q : mQ) (h : mCs [x0] ≤ 1) : mRun (D + 1) 71 [x0] I S Q = mAt (mRun D) 71 0 ([some x0, none], [], I, S) Q := propext ⟨fun z => z.2, fun z => ⟨⟨h, Nat.le_of_ble_eq_true rfl⟩, z⟩⟩
theorem a_Rd_split_0 (D : Nat) (c : mC) (Q : mQ) : mAt (mRun D) 71 0 c Q = mWp (mRun D) 71 17 (fun pc c => mAt (mRun D) 71 pc c Q) Q bk_Rd_split_0 c := mAt_blk rfl
theorem a_Rd_split_17 (D : Nat) (c : mC) (Q : mQ) : mAt (mRun D) 71 17 c Q = mWp (mRun D) 71 38 (fun pc c => mAt (mRun D) 71 pc c Q) Q bk_Rd_split_17 c := mAt_blk rfl
theorem a_Rd_split_38 (D : Nat) (c : mC) (Q : mQ) : mAt (mRun D) 71 38 c Q = mWp (mRun D) 71 0 (fun pc c => mAt (mRun D) 71 pc c Q) Q bk_Rd_split_38 c := mAt_blk rfl
theorem a_Rd_split_44 (D : Nat) (c : mC) (Q : mQ) : mAt (mRun D) 71 44 c Q = mWp (mRun D) 71 0 (fun pc c => mAt (mRun D) 71 pc c Q) Q bk_Rd_split_44 c := mAt_blk rfl
theorem e_Rd_startsToken (D : Nat) (x0 x1 : mV) (I : mN) (S : mH) (Q : mQ) (h : mCs [x0, x1] ≤ 2) : mRun (D + 1) 72 [x0, x1] I S Q = mAt (mRun D) 72 0 ([some x0, some x1, none, none, none], [], I, S) Q := propext ⟨fun z => z.2, fun z => ⟨⟨h, Nat.le_of_ble_eq_true rfl⟩, z⟩⟩
theorem a_Rd_startsToken_0 (D : Nat) (c : mC) (Q : mQ) : mAt (mRun D) 72 0 c Q = mWp (mRun D) 72 0 (fun pc c => mAt (mRun D) 72 pc c Q) Q bk_Rd_startsToken_0 c := mAt_blk rfl
theorem a_Rd_startsToken_22 (D : Nat) (c : mC) (Q : mQ) : mAt (mRun D) 72 22 c Q = mWp (mRun D) 72 24 (fun pc c => mAt (mRun D) 72 pc c Q) Q bk_Rd_startsToken_22 c := mAt_blk rfl
theorem a_Rd_startsToken_24 (D : Nat) (c : mC) (Q : mQ) : mAt (mRun D) 72 24 c Q = mWp (mRun D) 72 39 (fun pc c => mAt (mRun D) 72 pc c Q) Q bk_Rd_startsToken_24 c := mAt_blk rfl
theorem a_Rd_startsToken_39 (D : Nat) (c : mC) (Q : mQ) : mAt (mRun D) 72 39 c Q = mWp (mRun D) 72 53 (fun pc c => mAt (mRun D) 72 pc c Q) Q bk_Rd_startsToken_39 c := mAt_blk rfl
theorem a_Rd_startsToken_53 (D : Nat) (c : mC) (Q : mQ) : mAt (mRun D) 72 53 c Q = mWp (mRun D) 72 0 (fun pc c => mAt (mRun D) 72 pc c Q) Q bk_Rd_startsToken_53 c := mAt_blk rfl
theorem a_Rd_startsToken_57 (D : Nat) (c : mC) (Q : mQ) : mAt (mRun D) 72 57 c Q = mWp (mRun D) 72 58 (fun pc c => mAt (mRun D) 72 pc c Q) Q bk_Rd_startsToken_57 c := mAt_blk rfl
theorem a_Rd_startsToken_58 (D : Nat) (c : mC) (Q : mQ) : mAt (mRun D) 72 58 c Q = mWp (mRun D) 72 0 (fun pc c => mAt (mRun D) 72 pc c Q) Q bk_Rd_startsToken_58 c := mAt_blk rfl
theorem a_Rd_startsToken_75 (D : Nat) (c : mC) (Q : mQ) : mAt (mRun D) 72 75 c Q = mWp (mRun D) 72 76 (fun pc c => mAt (mRun D) 72 pc c Q) Q bk_Rd_startsToken_75 c := mAt_blk rfl
theorem a_Rd_startsToken_76 (D : Nat) (c : mC) (Q : mQ) : mAt (mRun D) 72 76 c Q = mWp (mRun D) 72 0 (fun pc c => mAt (mRun D) 72 pc c Q) Q bk_Rd_startsToken_76 c := mAt_blk rfl
theorem e_Rd_addToken (D : Nat) (x0 x1 : mV) (I : mN) (S : mH) (Q : mQ) (h : mCs [x0, x1] ≤ 2) : mRun (D + 1) 73 [x0, x1] I S Q = mAt (mRun D) 73 0 ([some x0, some x1, none, none], [], I, S) Q := propext ⟨fun z => z.2, fun z => ⟨⟨h, Nat.le_of_ble_eq_true rfl⟩, z⟩⟩
theorem a_Rd_addToken_0 (D : Nat) (c : mC) (Q : mQ) : mAt (mRun D) 73 0 c Q = mWp (mRun D) 73 4 (fun pc c => mAt (mRun D) 73 pc c Q) Q bk_Rd_addToken_0 c := mAt_blk rfl
theorem a_Rd_addToken_4 (D : Nat) (c : mC) (Q : mQ) : mAt (mRun D) 73 4 c Q = mWp (mRun D) 73 0 (fun pc c => mAt (mRun D) 73 pc c Q) Q bk_Rd_addToken_4 c := mAt_blk rfl
theorem a_Rd_addToken_37 (D : Nat) (c : mC) (Q : mQ) : mAt (mRun D) 73 37 c Q = mWp (mRun D) 73 0 (fun pc c => mAt (mRun D) 73 pc c Q) Q bk_Rd_addToken_37 c := mAt_blk rfl
theorem a_Rd_addToken_97 (D : Nat) (c : mC) (Q : mQ) : mAt (mRun D) 73 97 c Q = mWp (mRun D) 73 116 (fun pc c => mAt (mRun D) 73 pc c Q) Q bk_Rd_addToken_97 c := mAt_blk rfl
theorem a_Rd_addToken_116 (D : Nat) (c : mC) (Q : mQ) : mAt (mRun D) 73 116 c Q = mWp (mRun D) 73 0 (fun pc c => mAt (mRun D) 73 pc c Q) Q bk_Rd_addToken_116 c := mAt_blk rfl
theorem a_Rd_addToken_158 (D : Nat) (c : mC) (Q : mQ) : mAt (mRun D) 73 158 c Q = mWp (mRun D) 73 0 (fun pc c => mAt (mRun D) 73 pc c Q) Q bk_Rd_addToken_158 c := mAt_blk rfl
theorem e_Rd_signAt (D : Nat) (x0 x1 x2 : mV) (I : mN) (S : mH) (Q : mQ) (h : mCs [x0, x1, x2] ≤ 3) : mRun (D + 1) 74 [x0, x1, x2] I S Q = mAt (mRun D) 74 0 ([some x0, some x1, some x2, none], [], I, S) Q := propext ⟨fun z => z.2, fun z => ⟨⟨h, Nat.le_of_ble_eq_true rfl⟩, z⟩⟩
theorem a_Rd_signAt_0 (D : Nat) (c : mC) (Q : mQ) : mAt (mRun D) 74 0 c Q = mWp (mRun D) 74 2 (fun pc c => mAt (mRun D) 74 pc c Q) Q bk_Rd_signAt_0 c := mAt_blk rfl
theorem a_Rd_signAt_2 (D : Nat) (c : mC) (Q : mQ) : mAt (mRun D) 74 2 c Q = mWp (mRun D) 74 0 (fun pc c => mAt (mRun D) 74 pc c Q) Q bk_Rd_signAt_2 c := mAt_blk rfl
theorem a_Rd_signAt_20 (D : Nat) (c : mC) (Q : mQ) : mAt (mRun D) 74 20 c Q = mWp (mRun D) 74 0 (fun pc c => mAt (mRun D) 74 pc c Q) Q bk_Rd_signAt_20 c := mAt_blk rfl
theorem a_Rd_signAt_26 (D : Nat) (c : mC) (Q : mQ) : mAt (mRun D) 74 26 c Q = mWp (mRun D) 74 0 (fun pc c => mAt (mRun D) 74 pc c Q) Q bk_Rd_signAt_26 c := mAt_blk rfl
theorem e_Rd_isText (D : Nat) (x0 x1 x2 x3 : mV) (I : mN) (S : mH) (Q : mQ) (h : mCs [x0, x1, x2, x3] ≤ 4) : mRun (D + 1) 75 [x0, x1, x2, x3] I S Q = mAt (mRun D) 75 0 ([some x0, some x1, some x2, some x3, none], [], I, S) Q := propext ⟨fun z => z.2, fun z => ⟨⟨h, Nat.le_of_ble_eq_true rfl⟩, z⟩⟩
theorem a_Rd_isText_0 (D : Nat) (c : mC) (Q : mQ) : mAt (mRun D) 75 0 c Q = mWp (mRun D) 75 0 (fun pc c => mAt (mRun D) 75 pc c Q) Q bk_Rd_isText_0 c := mAt_blk rfl
theorem a_Rd_isText_16 (D : Nat) (c : mC) (Q : mQ) : mAt (mRun D) 75 16 c Q = mWp (mRun D) 75 19 (fun pc c => mAt (mRun D) 75 pc c Q) Q bk_Rd_isText_16 c := mAt_blk rfl
theorem a_Rd_isText_19 (D : Nat) (c : mC) (Q : mQ) : mAt (mRun D) 75 19 c Q = mWp (mRun D) 75 0 (fun pc c => mAt (mRun D) 75 pc c Q) Q bk_Rd_isText_19 c := mAt_blk rfl
theorem a_Rd_isText_49 (D : Nat) (c : mC) (Q : mQ) : mAt (mRun D) 75 49 c Q = mWp (mRun D) 75 0 (fun pc c => mAt (mRun D) 75 pc c Q) Q bk_Rd_isText_49 c := mAt_blk rfl
theorem a_Rd_isText_55 (D : Nat) (c : mC) (Q : mQ) : mAt (mRun D) 75 55 c Q = mWp (mRun D) 75 0 (fun pc c => mAt (mRun D) 75 pc c Q) Q bk_Rd_isText_55 c := mAt_blk rfl
theorem e_Rd_isLetter (D : Nat) (x0 : mV) (I : mN) (S : mH) (Q : mQ) (h : mCs [x0] ≤ 1) : mRun (D + 1) 76 [x0] I S Q = mAt (mRun D) 76 0 ([some x0], [], I, S) Q := propext ⟨fun z => z.2, fun z => ⟨⟨h, Nat.le_of_ble_eq_true rfl⟩, z⟩⟩
theorem a_Rd_isLetter_0 (D : Nat) (c : mC) (Q : mQ) : mAt (mRun D) 76 0 c Q = mWp (mRun D) 76 0 (fun pc c => mAt (mRun D) 76 pc c Q) Q bk_Rd_isLetter_0 c := mAt_blk rfl
theorem a_Rd_isLetter_16 (D : Nat) (c : mC) (Q : mQ) : mAt (mRun D) 76 16 c Q = mWp (mRun D) 76 17 (fun pc c => mAt (mRun D) 76 pc c Q) Q bk_Rd_isLetter_16 c := mAt_blk rfl
theorem a_Rd_isLetter_17 (D : Nat) (c : mC) (Q : mQ) : mAt (mRun D) 76 17 c Q = mWp (mRun D) 76 0 (fun pc c => mAt (mRun D) 76 pc c Q) Q bk_Rd_isLetter_17 c := mAt_blk rfl
theorem e_Rd_isDigit (D : Nat) (x0 : mV) (I : mN) (S : mH) (Q : mQ) (h : mCs [x0] ≤ 1) : mRun (D + 1) 77 [x0] I S Q = mAt (mRun D) 77 0 ([some x0], [], I, S) Q := propext ⟨fun z => z.2, fun z => ⟨⟨h, Nat.le_of_ble_eq_true rfl⟩, z⟩⟩
theorem a_Rd_isDigit_0 (D : Nat) (c : mC) (Q : mQ) : mAt (mRun D) 77 0 c Q = mWp (mRun D) 77 0 (fun pc c => mAt (mRun D) 77 pc c Q) Q bk_Rd_isDigit_0 c := mAt_blk rfl
theorem a_Rd_isDigit_16 (D : Nat) (c : mC) (Q : mQ) : mAt (mRun D) 77 16 c Q = mWp (mRun D) 77 17 (fun pc c => mAt (mRun D) 77 pc c Q) Q bk_Rd_isDigit_16 c := mAt_blk rfl
theorem a_Rd_isDigit_17 (D : Nat) (c : mC) (Q : mQ) : mAt (mRun D) 77 17 c Q = mWp (mRun D) 77 0 (fun pc c => mAt (mRun D) 77 pc c Q) Q bk_Rd_isDigit_17 c := mAt_blk rfl
theorem e_Rd_kind (D : Nat) (x0 : mV) (I : mN) (S : mH) (Q : mQ) (h : mCs [x0] ≤ 1) : mRun (D + 1) 78 [x0] I S Q = mAt (mRun D) 78 0 ([some x0], [], I, S) Q := propext ⟨fun z => z.2, fun z => ⟨⟨h, Nat.le_of_ble_eq_true rfl⟩, z⟩⟩
theorem a_Rd_kind_0 (D : Nat) (c : mC) (Q : mQ) : mAt (mRun D) 78 0 c Q = mWp (mRun D) 78 0 (fun pc c => mAt (mRun D) 78 pc c Q) Q bk_Rd_kind_0 c := mAt_blk rfl
theorem a_Rd_kind_11 (D : Nat) (c : mC) (Q : mQ) : mAt (mRun D) 78 11 c Q = mWp (mRun D) 78 20 (fun pc c => mAt (mRun D) 78 pc c Q) Q bk_Rd_kind_11 c := mAt_blk rfl
theorem a_Rd_kind_20 (D : Nat) (c : mC) (Q : mQ) : mAt (mRun D) 78 20 c Q = mWp (mRun D) 78 0 (fun pc c => mAt (mRun D) 78 pc c Q) Q bk_Rd_kind_20 c := mAt_blk rfl
theorem e_Rd_step (D : Nat) (x0 : mV) (I : mN) (S : mH) (Q : mQ) (h : mCs [x0] ≤ 1) : mRun (D + 1) 79 [x0] I S Q = mAt (mRun D) 79 0 ([some x0], [], I, S) Q := propext ⟨fun z => z.2, fun z => ⟨⟨h, Nat.le_of_ble_eq_true rfl⟩, z⟩⟩
theorem a_Rd_step_0 (D : Nat) (c : mC) (Q : mQ) : mAt (mRun D) 79 0 c Q = mWp (mRun D) 79 21 (fun pc c => mAt (mRun D) 79 pc c Q) Q bk_Rd_step_0 c := mAt_blk rfl
theorem a_Rd_step_21 (D : Nat) (c : mC) (Q : mQ) : mAt (mRun D) 79 21 c Q = mWp (mRun D) 79 0 (fun pc c => mAt (mRun D) 79 pc c Q) Q bk_Rd_step_21 c := mAt_blk rfl
theorem e_Rd_take (D : Nat) (x0 x1 : mV) (I : mN) (S : mH) (Q : mQ) (h : mCs [x0, x1] ≤ 2) : mRun (D + 1) 80 [x0, x1] I S Q = mAt (mRun D) 80 0 ([some x0, some x1], [], I, S) Q := propext ⟨fun z => z.2, fun z => ⟨⟨h, Nat.le_of_ble_eq_true rfl⟩, z⟩⟩
theorem a_Rd_take_0 (D : Nat) (c : mC) (Q : mQ) : mAt (mRun D) 80 0 c Q = mWp (mRun D) 80 0 (fun pc c => mAt (mRun D) 80 pc c Q) Q bk_Rd_take_0 c := mAt_blk rfl
theorem a_Rd_take_15 (D : Nat) (c : mC) (Q : mQ) : mAt (mRun D) 80 15 c Q = mWp (mRun D) 80 20 (fun pc c => mAt (mRun D) 80 pc c Q) Q bk_Rd_take_15 c := mAt_blk rfl
theorem a_Rd_take_20 (D : Nat) (c : mC) (Q : mQ) : mAt (mRun D) 80 20 c Q = mWp (mRun D) 80 0 (fun pc c => mAt (mRun D) 80 pc c Q) Q bk_Rd_take_20 c := mAt_blk rfl
theorem e_Rd_number (D : Nat) (x0 x1 x2 : mV) (I : mN) (S : mH) (Q : mQ) (h : mCs [x0, x1, x2] ≤ 3) : mRun (D + 1) 81 [x0, x1, x2] I S Q = mAt (mRun D) 81 0 ([some x0, some x1, some x2, none], [], I, S) Q := propext ⟨fun z => z.2, fun z => ⟨⟨h, Nat.le_of_ble_eq_true rfl⟩, z⟩⟩
theorem a_Rd_number_0 (D : Nat) (c : mC) (Q : mQ) : mAt (mRun D) 81 0 c Q = mWp (mRun D) 81 34 (fun pc c => mAt (mRun D) 81 pc c Q) Q bk_Rd_number_0 c := mAt_blk rfl
theorem a_Rd_number_34 (D : Nat) (c : mC) (Q : mQ) : mAt (mRun D) 81 34 c Q = mWp (mRun D) 81 0 (fun pc c => mAt (mRun D) 81 pc c Q) Q bk_Rd_number_34 c := mAt_blk rfl
theorem a_Rd_number_41 (D : Nat) (c : mC) (Q : mQ) : mAt (mRun D) 81 41 c Q = mWp (mRun D) 81 0 (fun pc c => mAt (mRun D) 81 pc c Q) Q bk_Rd_number_41 c := mAt_blk rfl
theorem e_Rd_statement (D : Nat) (x0 x1 : mV) (I : mN) (S : mH) (Q : mQ) (h : mCs [x0, x1] ≤ 2) : mRun (D + 1) 82 [x0, x1] I S Q = mAt (mRun D) 82 0 ([some x0, some x1, none, none], [], I, S) Q := propext ⟨fun z => z.2, fun z => ⟨⟨h, Nat.le_of_ble_eq_true rfl⟩, z⟩⟩
theorem a_Rd_statement_0 (D : Nat) (c : mC) (Q : mQ) : mAt (mRun D) 82 0 c Q = mWp (mRun D) 82 20 (fun pc c => mAt (mRun D) 82 pc c Q) Q bk_Rd_statement_0 c := mAt_blk rfl
theorem a_Rd_statement_20 (D : Nat) (c : mC) (Q : mQ) : mAt (mRun D) 82 20 c Q = mWp (mRun D) 82 35 (fun pc c => mAt (mRun D) 82 pc c Q) Q bk_Rd_statement_20 c := mAt_blk rfl
theorem a_Rd_statement_35 (D : Nat) (c : mC) (Q : mQ) : mAt (mRun D) 82 35 c Q = mWp (mRun D) 82 50 (fun pc c => mAt (mRun D) 82 pc c Q) Q bk_Rd_statement_35 c := mAt_blk rfl
theorem a_Rd_statement_50 (D : Nat) (c : mC) (Q : mQ) : mAt (mRun D) 82 50 c Q = mWp (mRun D) 82 56 (fun pc c => mAt (mRun D) 82 pc c Q) Q bk_Rd_statement_50 c := mAt_blk rfl
theorem a_Rd_statement_56 (D : Nat) (c : mC) (Q : mQ) : mAt (mRun D) 82 56 c Q = mWp (mRun D) 82 0 (fun pc c => mAt (mRun D) 82 pc c Q) Q bk_Rd_statement_56 c := mAt_blk rfl
theorem a_Rd_statement_60 (D : Nat) (c : mC) (Q : mQ) : mAt (mRun D) 82 60 c Q = mWp (mRun D) 82 61 (fun pc c => mAt (mRun D) 82 pc c Q) Q bk_Rd_statement_60 c := mAt_blk rfl
theorem a_Rd_statement_61 (D : Nat) (c : mC) (Q : mQ) : mAt (mRun D) 82 61 c Q = mWp (mRun D) 82 0 (fun pc c => mAt (mRun D) 82 pc c Q) Q bk_Rd_statement_61 c := mAt_blk rfl
theorem a_Rd_statement_72 (D : Nat) (c : mC) (Q : mQ) : mAt (mRun D) 82 72 c Q = mWp (mRun D) 82 0 (fun pc c => mAt (mRun D) 82 pc c Q) Q bk_Rd_statement_72 c := mAt_blk rfl
theorem a_Rd_statement_90 (D : Nat) (c : mC) (Q : mQ) : mAt (mRun D) 82 90 c Q = mWp (mRun D) 82 0 (fun pc c => mAt (mRun D) 82 pc c Q) Q bk_Rd_statement_90 c := mAt_blk rfl
theorem a_Rd_statement_104 (D : Nat) (c : mC) (Q : mQ) : mAt (mRun D) 82 104 c Q = mWp (mRun D) 82 0 (fun pc c => mAt (mRun D) 82 pc c Q) Q bk_Rd_statement_104 c := mAt_blk rfl
theorem a_Rd_statement_118 (D : Nat) (c : mC) (Q : mQ) : mAt (mRun D) 82 118 c Q = mWp (mRun D) 82 123 (fun pc c => mAt (mRun D) 82 pc c Q) Q bk_Rd_statement_118 c := mAt_blk rfl
theorem a_Rd_statement_123 (D : Nat) (c : mC) (Q : mQ) : mAt (mRun D) 82 123 c Q = mWp (mRun D) 82 0 (fun pc c => mAt (mRun D) 82 pc c Q) Q bk_Rd_statement_123 c := mAt_blk rfl
theorem e_Rd_placeStatement (D : Nat) (x0 x1 : mV) (I : mN) (S : mH) (Q : mQ) (h : mCs [x0, x1] ≤ 2) : mRun (D + 1) 83 [x0, x1] I S Q = mAt (mRun D) 83 0 ([some x0, some x1, none, none], [], I, S) Q := propext ⟨fun z => z.2, fun z => ⟨⟨h, Nat.le_of_ble_eq_true rfl⟩, z⟩⟩
theorem a_Rd_placeStatement_0 (D : Nat) (c : mC) (Q : mQ) : mAt (mRun D) 83 0 c Q = mWp (mRun D) 83 28 (fun pc c => mAt (mRun D) 83 pc c Q) Q bk_Rd_placeStatement_0 c := mAt_blk rfl
theorem a_Rd_placeStatement_28 (D : Nat) (c : mC) (Q : mQ) : mAt (mRun D) 83 28 c Q = mWp (mRun D) 83 0 (fun pc c => mAt (mRun D) 83 pc c Q) Q bk_Rd_placeStatement_28 c := mAt_blk rfl
theorem e_Rd_reachStatement (D : Nat) (x0 x1 : mV) (I : mN) (S : mH) (Q : mQ) (h : mCs [x0, x1] ≤ 2) : mRun (D + 1) 84 [x0, x1] I S Q = mAt (mRun D) 84 0 ([some x0, some x1, none, none, none, none, none, none, none, none], [], I, S) Q := propext ⟨fun z => z.2, fun z => ⟨⟨h, Nat.le_of_ble_eq_true rfl⟩, z⟩⟩
theorem a_Rd_reachStatement_0 (D : Nat) (c : mC) (Q : mQ) : mAt (mRun D) 84 0 c Q = mWp (mRun D) 84 38 (fun pc c => mAt (mRun D) 84 pc c Q) Q bk_Rd_reachStatement_0 c := mAt_blk rfl
theorem a_Rd_reachStatement_38 (D : Nat) (c : mC) (Q : mQ) : mAt (mRun D) 84 38 c Q = mWp (mRun D) 84 0 (fun pc c => mAt (mRun D) 84 pc c Q) Q bk_Rd_reachStatement_38 c := mAt_blk rfl
theorem a_Rd_reachStatement_75 (D : Nat) (c : mC) (Q : mQ) : mAt (mRun D) 84 75 c Q = mWp (mRun D) 84 99 (fun pc c => mAt (mRun D) 84 pc c Q) Q bk_Rd_reachStatement_75 c := mAt_blk rfl
theorem a_Rd_reachStatement_99 (D : Nat) (c : mC) (Q : mQ) : mAt (mRun D) 84 99 c Q = mWp (mRun D) 84 155 (fun pc c => mAt (mRun D) 84 pc c Q) Q bk_Rd_reachStatement_99 c := mAt_blk rfl
theorem a_Rd_reachStatement_155 (D : Nat) (c : mC) (Q : mQ) : mAt (mRun D) 84 155 c Q = mWp (mRun D) 84 0 (fun pc c => mAt (mRun D) 84 pc c Q) Q bk_Rd_reachStatement_155 c := mAt_blk rfl
theorem a_Rd_reachStatement_161 (D : Nat) (c : mC) (Q : mQ) : mAt (mRun D) 84 161 c Q = mWp (mRun D) 84 0 (fun pc c => mAt (mRun D) 84 pc c Q) Q bk_Rd_reachStatement_161 c := mAt_blk rfl
theorem e_Rd_rightStatement (D : Nat) (x0 x1 : mV) (I : mN) (S : mH) (Q : mQ) (h : mCs [x0, x1] ≤ 2) : mRun (D + 1) 85 [x0, x1] I S Q = mAt (mRun D) 85 0 ([some x0, some x1, none, none, none, none, none, none], [], I, S) Q := propext ⟨fun z => z.2, fun z => ⟨⟨h, Nat.le_of_ble_eq_true rfl⟩, z⟩⟩
theorem a_Rd_rightStatement_0 (D : Nat) (c : mC) (Q : mQ) : mAt (mRun D) 85 0 c Q = mWp (mRun D) 85 0 (fun pc c => mAt (mRun D) 85 pc c Q) Q bk_Rd_rightStatement_0 c := mAt_blk rfl
theorem a_Rd_rightStatement_40 (D : Nat) (c : mC) (Q : mQ) : mAt (mRun D) 85 40 c Q = mWp (mRun D) 85 62 (fun pc c => mAt (mRun D) 85 pc c Q) Q bk_Rd_rightStatement_40 c := mAt_blk rfl
theorem a_Rd_rightStatement_62 (D : Nat) (c : mC) (Q : mQ) : mAt (mRun D) 85 62 c Q = mWp (mRun D) 85 0 (fun pc c => mAt (mRun D) 85 pc c Q) Q bk_Rd_rightStatement_62 c := mAt_blk rfl
theorem a_Rd_rightStatement_100 (D : Nat) (c : mC) (Q : mQ) : mAt (mRun D) 85 100 c Q = mWp (mRun D) 85 0 (fun pc c => mAt (mRun D) 85 pc c Q) Q bk_Rd_rightStatement_100 c := mAt_blk rfl
theorem a_Rd_rightStatement_127 (D : Nat) (c : mC) (Q : mQ) : mAt (mRun D) 85 127 c Q = mWp (mRun D) 85 0 (fun pc c => mAt (mRun D) 85 pc c Q) Q bk_Rd_rightStatement_127 c := mAt_blk rfl
theorem a_Rd_rightStatement_143 (D : Nat) (c : mC) (Q : mQ) : mAt (mRun D) 85 143 c Q = mWp (mRun D) 85 166 (fun pc c => mAt (mRun D) 85 pc c Q) Q bk_Rd_rightStatement_143 c := mAt_blk rfl
theorem a_Rd_rightStatement_166 (D : Nat) (c : mC) (Q : mQ) : mAt (mRun D) 85 166 c Q = mWp (mRun D) 85 0 (fun pc c => mAt (mRun D) 85 pc c Q) Q bk_Rd_rightStatement_166 c := mAt_blk rfl
theorem a_Rd_rightStatement_172 (D : Nat) (c : mC) (Q : mQ) : mAt (mRun D) 85 172 c Q = mWp (mRun D) 85 0 (fun pc c => mAt (mRun D) 85 pc c Q) Q bk_Rd_rightStatement_172 c := mAt_blk rfl
theorem e_Rd_askPart (D : Nat) (x0 x1 : mV) (I : mN) (S : mH) (Q : mQ) (h : mCs [x0, x1] ≤ 2) : mRun (D + 1) 86 [x0, x1] I S Q = mAt (mRun D) 86 0 ([some x0, some x1, none, none, none], [], I, S) Q := propext ⟨fun z => z.2, fun z => ⟨⟨h, Nat.le_of_ble_eq_true rfl⟩, z⟩⟩
theorem a_Rd_askPart_0 (D : Nat) (c : mC) (Q : mQ) : mAt (mRun D) 86 0 c Q = mWp (mRun D) 86 41 (fun pc c => mAt (mRun D) 86 pc c Q) Q bk_Rd_askPart_0 c := mAt_blk rfl
theorem a_Rd_askPart_41 (D : Nat) (c : mC) (Q : mQ) : mAt (mRun D) 86 41 c Q = mWp (mRun D) 86 0 (fun pc c => mAt (mRun D) 86 pc c Q) Q bk_Rd_askPart_41 c := mAt_blk rfl
theorem e_Rd_inflowStatement (D : Nat) (x0 x1 : mV) (I : mN) (S : mH) (Q : mQ) (h : mCs [x0, x1] ≤ 2) : mRun (D + 1) 87 [x0, x1] I S Q = mAt (mRun D) 87 0 ([some x0, some x1, none, none, none, none], [], I, S) Q := propext ⟨fun z => z.2, fun z => ⟨⟨h, Nat.le_of_ble_eq_true rfl⟩, z⟩⟩
theorem a_Rd_inflowStatement_0 (D : Nat) (c : mC) (Q : mQ) : mAt (mRun D) 87 0 c Q = mWp (mRun D) 87 22 (fun pc c => mAt (mRun D) 87 pc c Q) Q bk_Rd_inflowStatement_0 c := mAt_blk rfl
theorem a_Rd_inflowStatement_22 (D : Nat) (c : mC) (Q : mQ) : mAt (mRun D) 87 22 c Q = mWp (mRun D) 87 42 (fun pc c => mAt (mRun D) 87 pc c Q) Q bk_Rd_inflowStatement_22 c := mAt_blk rfl
theorem a_Rd_inflowStatement_42 (D : Nat) (c : mC) (Q : mQ) : mAt (mRun D) 87 42 c Q = mWp (mRun D) 87 77 (fun pc c => mAt (mRun D) 87 pc c Q) Q bk_Rd_inflowStatement_42 c := mAt_blk rfl
theorem a_Rd_inflowStatement_77 (D : Nat) (c : mC) (Q : mQ) : mAt (mRun D) 87 77 c Q = mWp (mRun D) 87 0 (fun pc c => mAt (mRun D) 87 pc c Q) Q bk_Rd_inflowStatement_77 c := mAt_blk rfl
theorem a_Rd_inflowStatement_83 (D : Nat) (c : mC) (Q : mQ) : mAt (mRun D) 87 83 c Q = mWp (mRun D) 87 0 (fun pc c => mAt (mRun D) 87 pc c Q) Q bk_Rd_inflowStatement_83 c := mAt_blk rfl
theorem e_Rd_keep (D : Nat) (x0 x1 : mV) (I : mN) (S : mH) (Q : mQ) (h : mCs [x0, x1] ≤ 2) : mRun (D + 1) 88 [x0, x1] I S Q = mAt (mRun D) 88 0 ([some x0, some x1], [], I, S) Q := propext ⟨fun z => z.2, fun z => ⟨⟨h, Nat.le_of_ble_eq_true rfl⟩, z⟩⟩
theorem a_Rd_keep_0 (D : Nat) (c : mC) (Q : mQ) : mAt (mRun D) 88 0 c Q = mWp (mRun D) 88 17 (fun pc c => mAt (mRun D) 88 pc c Q) Q bk_Rd_keep_0 c := mAt_blk rfl
theorem a_Rd_keep_17 (D : Nat) (c : mC) (Q : mQ) : mAt (mRun D) 88 17 c Q = mWp (mRun D) 88 0 (fun pc c => mAt (mRun D) 88 pc c Q) Q bk_Rd_keep_17 c := mAt_blk rfl
theorem a_Rd_keep_23 (D : Nat) (c : mC) (Q : mQ) : mAt (mRun D) 88 23 c Q = mWp (mRun D) 88 0 (fun pc c => mAt (mRun D) 88 pc c Q) Q bk_Rd_keep_23 c := mAt_blk rfl
theorem a_Rd_keep_48 (D : Nat) (c : mC) (Q : mQ) : mAt (mRun D) 88 48 c Q = mWp (mRun D) 88 50 (fun pc c => mAt (mRun D) 88 pc c Q) Q bk_Rd_keep_48 c := mAt_blk rfl
theorem a_Rd_keep_50 (D : Nat) (c : mC) (Q : mQ) : mAt (mRun D) 88 50 c Q = mWp (mRun D) 88 0 (fun pc c => mAt (mRun D) 88 pc c Q) Q bk_Rd_keep_50 c := mAt_blk rfl
theorem e_Rd_keepOpening (D : Nat) (x0 x1 x2 : mV) (I : mN) (S : mH) (Q : mQ) (h : mCs [x0, x1, x2] ≤ 3) : mRun (D + 1) 89 [x0, x1, x2] I S Q = mAt (mRun D) 89 0 ([some x0, some x1, some x2], [], I, S) Q := propext ⟨fun z => z.2, fun z => ⟨⟨h, Nat.le_of_ble_eq_true rfl⟩, z⟩⟩
theorem a_Rd_keepOpening_0 (D : Nat) (c : mC) (Q : mQ) : mAt (mRun D) 89 0 c Q = mWp (mRun D) 89 11 (fun pc c => mAt (mRun D) 89 pc c Q) Q bk_Rd_keepOpening_0 c := mAt_blk rfl
theorem a_Rd_keepOpening_11 (D : Nat) (c : mC) (Q : mQ) : mAt (mRun D) 89 11 c Q = mWp (mRun D) 89 0 (fun pc c => mAt (mRun D) 89 pc c Q) Q bk_Rd_keepOpening_11 c := mAt_blk rfl
theorem e_Rd_expression (D : Nat) (x0 x1 : mV) (I : mN) (S : mH) (Q : mQ) (h : mCs [x0, x1] ≤ 2) : mRun (D + 1) 90 [x0, x1] I S Q = mAt (mRun D) 90 0 ([some x0, some x1, none, none], [], I, S) Q := propext ⟨fun z => z.2, fun z => ⟨⟨h, Nat.le_of_ble_eq_true rfl⟩, z⟩⟩
theorem a_Rd_expression_0 (D : Nat) (c : mC) (Q : mQ) : mAt (mRun D) 90 0 c Q = mWp (mRun D) 90 0 (fun pc c => mAt (mRun D) 90 pc c Q) Q bk_Rd_expression_0 c := mAt_blk rfl
theorem a_Rd_expression_12 (D : Nat) (c : mC) (Q : mQ) : mAt (mRun D) 90 12 c Q = mWp (mRun D) 90 0 (fun pc c => mAt (mRun D) 90 pc c Q) Q bk_Rd_expression_12 c := mAt_blk rfl
theorem a_Rd_expression_27 (D : Nat) (c : mC) (Q : mQ) : mAt (mRun D) 90 27 c Q = mWp (mRun D) 90 58 (fun pc c => mAt (mRun D) 90 pc c Q) Q bk_Rd_expression_27 c := mAt_blk rfl
theorem a_Rd_expression_58 (D : Nat) (c : mC) (Q : mQ) : mAt (mRun D) 90 58 c Q = mWp (mRun D) 90 0 (fun pc c => mAt (mRun D) 90 pc c Q) Q bk_Rd_expression_58 c := mAt_blk rfl
theorem a_Rd_expression_62 (D : Nat) (c : mC) (Q : mQ) : mAt (mRun D) 90 62 c Q = mWp (mRun D) 90 63 (fun pc c => mAt (mRun D) 90 pc c Q) Q bk_Rd_expression_62 c := mAt_blk rfl
theorem a_Rd_expression_63 (D : Nat) (c : mC) (Q : mQ) : mAt (mRun D) 90 63 c Q = mWp (mRun D) 90 0 (fun pc c => mAt (mRun D) 90 pc c Q) Q bk_Rd_expression_63 c := mAt_blk rfl
theorem a_Rd_expression_73 (D : Nat) (c : mC) (Q : mQ) : mAt (mRun D) 90 73 c Q = mWp (mRun D) 90 75 (fun pc c => mAt (mRun D) 90 pc c Q) Q bk_Rd_expression_73 c := mAt_blk rfl
theorem a_Rd_expression_75 (D : Nat) (c : mC) (Q : mQ) : mAt (mRun D) 90 75 c Q = mWp (mRun D) 90 0 (fun pc c => mAt (mRun D) 90 pc c Q) Q bk_Rd_expression_75 c := mAt_blk rfl
theorem e_Rd_sum (D : Nat) (x0 x1 : mV) (I : mN) (S : mH) (Q : mQ) (h : mCs [x0, x1] ≤ 2) : mRun (D + 1) 91 [x0, x1] I S Q = mAt (mRun D) 91 0 ([some x0, some x1, none], [], I, S) Q := propext ⟨fun z => z.2, fun z => ⟨⟨h, Nat.le_of_ble_eq_true rfl⟩, z⟩⟩
theorem a_Rd_sum_0 (D : Nat) (c : mC) (Q : mQ) : mAt (mRun D) 91 0 c Q = mWp (mRun D) 91 7 (fun pc c => mAt (mRun D) 91 pc c Q) Q bk_Rd_sum_0 c := mAt_blk rfl
theorem a_Rd_sum_7 (D : Nat) (c : mC) (Q : mQ) : mAt (mRun D) 91 7 c Q = mWp (mRun D) 91 31 (fun pc c => mAt (mRun D) 91 pc c Q) Q bk_Rd_sum_7 c := mAt_blk rfl
theorem a_Rd_sum_31 (D : Nat) (c : mC) (Q : mQ) : mAt (mRun D) 91 31 c Q = mWp (mRun D) 91 0 (fun pc c => mAt (mRun D) 91 pc c Q) Q bk_Rd_sum_31 c := mAt_blk rfl
theorem a_Rd_sum_50 (D : Nat) (c : mC) (Q : mQ) : mAt (mRun D) 91 50 c Q = mWp (mRun D) 91 0 (fun pc c => mAt (mRun D) 91 pc c Q) Q bk_Rd_sum_50 c := mAt_blk rfl
theorem e_Rd_product (D : Nat) (x0 x1 : mV) (I : mN) (S : mH) (Q : mQ) (h : mCs [x0, x1] ≤ 2) : mRun (D + 1) 92 [x0, x1] I S Q = mAt (mRun D) 92 0 ([some x0, some x1, none], [], I, S) Q := propext ⟨fun z => z.2, fun z => ⟨⟨h, Nat.le_of_ble_eq_true rfl⟩, z⟩⟩
theorem a_Rd_product_0 (D : Nat) (c : mC) (Q : mQ) : mAt (mRun D) 92 0 c Q = mWp (mRun D) 92 7 (fun pc c => mAt (mRun D) 92 pc c Q) Q bk_Rd_product_0 c := mAt_blk rfl
theorem a_Rd_product_7 (D : Nat) (c : mC) (Q : mQ) : mAt (mRun D) 92 7 c Q = mWp (mRun D) 92 31 (fun pc c => mAt (mRun D) 92 pc c Q) Q bk_Rd_product_7 c := mAt_blk rfl
theorem a_Rd_product_31 (D : Nat) (c : mC) (Q : mQ) : mAt (mRun D) 92 31 c Q = mWp (mRun D) 92 0 (fun pc c => mAt (mRun D) 92 pc c Q) Q bk_Rd_product_31 c := mAt_blk rfl
theorem a_Rd_product_50 (D : Nat) (c : mC) (Q : mQ) : mAt (mRun D) 92 50 c Q = mWp (mRun D) 92 0 (fun pc c => mAt (mRun D) 92 pc c Q) Q bk_Rd_product_50 c := mAt_blk rfl
theorem e_Rd_factor (D : Nat) (x0 x1 : mV) (I : mN) (S : mH) (Q : mQ) (h : mCs [x0, x1] ≤ 2) : mRun (D + 1) 93 [x0, x1] I S Q = mAt (mRun D) 93 0 ([some x0, some x1, none, none], [], I, S) Q := propext ⟨fun z => z.2, fun z => ⟨⟨h, Nat.le_of_ble_eq_true rfl⟩, z⟩⟩
theorem a_Rd_factor_0 (D : Nat) (c : mC) (Q : mQ) : mAt (mRun D) 93 0 c Q = mWp (mRun D) 93 16 (fun pc c => mAt (mRun D) 93 pc c Q) Q bk_Rd_factor_0 c := mAt_blk rfl
theorem a_Rd_factor_16 (D : Nat) (c : mC) (Q : mQ) : mAt (mRun D) 93 16 c Q = mWp (mRun D) 93 0 (fun pc c => mAt (mRun D) 93 pc c Q) Q bk_Rd_factor_16 c := mAt_blk rfl
theorem a_Rd_factor_22 (D : Nat) (c : mC) (Q : mQ) : mAt (mRun D) 93 22 c Q = mWp (mRun D) 93 34 (fun pc c => mAt (mRun D) 93 pc c Q) Q bk_Rd_factor_22 c := mAt_blk rfl
theorem a_Rd_factor_34 (D : Nat) (c : mC) (Q : mQ) : mAt (mRun D) 93 34 c Q = mWp (mRun D) 93 0 (fun pc c => mAt (mRun D) 93 pc c Q) Q bk_Rd_factor_34 c := mAt_blk rfl
theorem a_Rd_factor_38 (D : Nat) (c : mC) (Q : mQ) : mAt (mRun D) 93 38 c Q = mWp (mRun D) 93 39 (fun pc c => mAt (mRun D) 93 pc c Q) Q bk_Rd_factor_38 c := mAt_blk rfl
theorem a_Rd_factor_39 (D : Nat) (c : mC) (Q : mQ) : mAt (mRun D) 93 39 c Q = mWp (mRun D) 93 56 (fun pc c => mAt (mRun D) 93 pc c Q) Q bk_Rd_factor_39 c := mAt_blk rfl
theorem a_Rd_factor_56 (D : Nat) (c : mC) (Q : mQ) : mAt (mRun D) 93 56 c Q = mWp (mRun D) 93 61 (fun pc c => mAt (mRun D) 93 pc c Q) Q bk_Rd_factor_56 c := mAt_blk rfl
theorem a_Rd_factor_61 (D : Nat) (c : mC) (Q : mQ) : mAt (mRun D) 93 61 c Q = mWp (mRun D) 93 0 (fun pc c => mAt (mRun D) 93 pc c Q) Q bk_Rd_factor_61 c := mAt_blk rfl
theorem a_Rd_factor_75 (D : Nat) (c : mC) (Q : mQ) : mAt (mRun D) 93 75 c Q = mWp (mRun D) 93 99 (fun pc c => mAt (mRun D) 93 pc c Q) Q bk_Rd_factor_75 c := mAt_blk rfl
theorem a_Rd_factor_99 (D : Nat) (c : mC) (Q : mQ) : mAt (mRun D) 93 99 c Q = mWp (mRun D) 93 0 (fun pc c => mAt (mRun D) 93 pc c Q) Q bk_Rd_factor_99 c := mAt_blk rfl
theorem e_Ri_init (D : Nat) (x0 : mV) (I : mN) (S : mH) (Q : mQ) (h : mCs [x0] ≤ 1) : mRun (D + 1) 94 [x0] I S Q = mAt (mRun D) 94 0 ([some x0], [], I, S) Q := propext ⟨fun z => z.2, fun z => ⟨⟨h, Nat.le_of_ble_eq_true rfl⟩, z⟩⟩
theorem a_Ri_init_0 (D : Nat) (c : mC) (Q : mQ) : mAt (mRun D) 94 0 c Q = mWp (mRun D) 94 0 (fun pc c => mAt (mRun D) 94 pc c Q) Q bk_Ri_init_0 c := mAt_blk rfl
theorem e_Ri_reset (D : Nat) (x0 : mV) (I : mN) (S : mH) (Q : mQ) (h : mCs [x0] ≤ 1) : mRun (D + 1) 95 [x0] I S Q = mAt (mRun D) 95 0 ([some x0], [], I, S) Q := propext ⟨fun z => z.2, fun z => ⟨⟨h, Nat.le_of_ble_eq_true rfl⟩, z⟩⟩
theorem a_Ri_reset_0 (D : Nat) (c : mC) (Q : mQ) : mAt (mRun D) 95 0 c Q = mWp (mRun D) 95 0 (fun pc c => mAt (mRun D) 95 pc c Q) Q bk_Ri_reset_0 c := mAt_blk rfl
theorem e_Ri_copyFrom (D : Nat) (x0 x1 : mV) (I : mN) (S : mH) (Q : mQ) (h : mCs [x0, x1] ≤ 2) : mRun (D + 1) 96 [x0, x1] I S Q = mAt (mRun D) 96 0 ([some x0, some x1], [], I, S) Q := propext ⟨fun z => z.2, fun z => ⟨⟨h, Nat.le_of_ble_eq_true rfl⟩, z⟩⟩
theorem a_Ri_copyFrom_0 (D : Nat) (c : mC) (Q : mQ) : mAt (mRun D) 96 0 c Q = mWp (mRun D) 96 0 (fun pc c => mAt (mRun D) 96 pc c Q) Q bk_Ri_copyFrom_0 c := mAt_blk rfl
theorem e_Ri_decide (D : Nat) (x0 x1 x2 : mV) (I : mN) (S : mH) (Q : mQ) (h : mCs [x0, x1, x2] ≤ 3) : mRun (D + 1) 97 [x0, x1, x2] I S Q = mAt (mRun D) 97 0 ([some x0, some x1, some x2], [], I, S) Q := propext ⟨fun z => z.2, fun z => ⟨⟨h, Nat.le_of_ble_eq_true rfl⟩, z⟩⟩
theorem a_Ri_decide_0 (D : Nat) (c : mC) (Q : mQ) : mAt (mRun D) 97 0 c Q = mWp (mRun D) 97 32 (fun pc c => mAt (mRun D) 97 pc c Q) Q bk_Ri_decide_0 c := mAt_blk rfl
theorem a_Ri_decide_32 (D : Nat) (c : mC) (Q : mQ) : mAt (mRun D) 97 32 c Q = mWp (mRun D) 97 0 (fun pc c => mAt (mRun D) 97 pc c Q) Q bk_Ri_decide_32 c := mAt_blk rfl
theorem e_Ri_askFor (D : Nat) (x0 x1 x2 x3 : mV) (I : mN) (S : mH) (Q : mQ) (h : mCs [x0, x1, x2, x3] ≤ 4) : mRun (D + 1) 98 [x0, x1, x2, x3] I S Q = mAt (mRun D) 98 0 ([some x0, some x1, some x2, some x3, none, none], [], I, S) Q := propext ⟨fun z => z.2, fun z => ⟨⟨h, Nat.le_of_ble_eq_true rfl⟩, z⟩⟩
theorem a_Ri_askFor_0 (D : Nat) (c : mC) (Q : mQ) : mAt (mRun D) 98 0 c Q = mWp (mRun D) 98 6 (fun pc c => mAt (mRun D) 98 pc c Q) Q bk_Ri_askFor_0 c := mAt_blk rfl
theorem a_Ri_askFor_6 (D : Nat) (c : mC) (Q : mQ) : mAt (mRun D) 98 6 c Q = mWp (mRun D) 98 33 (fun pc c => mAt (mRun D) 98 pc c Q) Q bk_Ri_askFor_6 c := mAt_blk rfl
theorem a_Ri_askFor_33 (D : Nat) (c : mC) (Q : mQ) : mAt (mRun D) 98 33 c Q = mWp (mRun D) 98 0 (fun pc c => mAt (mRun D) 98 pc c Q) Q bk_Ri_askFor_33 c := mAt_blk rfl
theorem a_Ri_askFor_47 (D : Nat) (c : mC) (Q : mQ) : mAt (mRun D) 98 47 c Q = mWp (mRun D) 98 0 (fun pc c => mAt (mRun D) 98 pc c Q) Q bk_Ri_askFor_47 c := mAt_blk rfl
theorem e_Ri_settle (D : Nat) (x0 x1 x2 : mV) (I : mN) (S : mH) (Q : mQ) (h : mCs [x0, x1, x2] ≤ 3) : mRun (D + 1) 99 [x0, x1, x2] I S Q = mAt (mRun D) 99 0 ([some x0, some x1, some x2, none], [], I, S) Q := propext ⟨fun z => z.2, fun z => ⟨⟨h, Nat.le_of_ble_eq_true rfl⟩, z⟩⟩
theorem a_Ri_settle_0 (D : Nat) (c : mC) (Q : mQ) : mAt (mRun D) 99 0 c Q = mWp (mRun D) 99 29 (fun pc c => mAt (mRun D) 99 pc c Q) Q bk_Ri_settle_0 c := mAt_blk rfl
theorem a_Ri_settle_29 (D : Nat) (c : mC) (Q : mQ) : mAt (mRun D) 99 29 c Q = mWp (mRun D) 99 0 (fun pc c => mAt (mRun D) 99 pc c Q) Q bk_Ri_settle_29 c := mAt_blk rfl
theorem a_Ri_settle_57 (D : Nat) (c : mC) (Q : mQ) : mAt (mRun D) 99 57 c Q = mWp (mRun D) 99 0 (fun pc c => mAt (mRun D) 99 pc c Q) Q bk_Ri_settle_57 c := mAt_blk rfl
theorem e_Si_init (D : Nat) (x0 : mV) (I : mN) (S : mH) (Q : mQ) (h : mCs [x0] ≤ 1) : mRun (D + 1) 100 [x0] I S Q = mAt (mRun D) 100 0 ([some x0, none, none, none, none], [], I, S) Q := propext ⟨fun z => z.2, fun z => ⟨⟨h, Nat.le_of_ble_eq_true rfl⟩, z⟩⟩
theorem a_Si_init_0 (D : Nat) (c : mC) (Q : mQ) : mAt (mRun D) 100 0 c Q = mWp (mRun D) 100 24 (fun pc c => mAt (mRun D) 100 pc c Q) Q bk_Si_init_0 c := mAt_blk rfl
theorem a_Si_init_24 (D : Nat) (c : mC) (Q : mQ) : mAt (mRun D) 100 24 c Q = mWp (mRun D) 100 45 (fun pc c => mAt (mRun D) 100 pc c Q) Q bk_Si_init_24 c := mAt_blk rfl
theorem a_Si_init_45 (D : Nat) (c : mC) (Q : mQ) : mAt (mRun D) 100 45 c Q = mWp (mRun D) 100 0 (fun pc c => mAt (mRun D) 100 pc c Q) Q bk_Si_init_45 c := mAt_blk rfl
theorem a_Si_init_81 (D : Nat) (c : mC) (Q : mQ) : mAt (mRun D) 100 81 c Q = mWp (mRun D) 100 0 (fun pc c => mAt (mRun D) 100 pc c Q) Q bk_Si_init_81 c := mAt_blk rfl
theorem a_Si_init_87 (D : Nat) (c : mC) (Q : mQ) : mAt (mRun D) 100 87 c Q = mWp (mRun D) 100 0 (fun pc c => mAt (mRun D) 100 pc c Q) Q bk_Si_init_87 c := mAt_blk rfl
theorem e_Si_length (D : Nat) (x0 x1 : mV) (I : mN) (S : mH) (Q : mQ) (h : mCs [x0, x1] ≤ 2) : mRun (D + 1) 101 [x0, x1] I S Q = mAt (mRun D) 101 0 ([some x0, some x1], [], I, S) Q := propext ⟨fun z => z.2, fun z => ⟨⟨h, Nat.le_of_ble_eq_true rfl⟩, z⟩⟩
theorem a_Si_length_0 (D : Nat) (c : mC) (Q : mQ) : mAt (mRun D) 101 0 c Q = mWp (mRun D) 101 0 (fun pc c => mAt (mRun D) 101 pc c Q) Q bk_Si_length_0 c := mAt_blk rfl
theorem a_Si_length_28 (D : Nat) (c : mC) (Q : mQ) : mAt (mRun D) 101 28 c Q = mWp (mRun D) 101 29 (fun pc c => mAt (mRun D) 101 pc c Q) Q bk_Si_length_28 c := mAt_blk rfl
theorem a_Si_length_29 (D : Nat) (c : mC) (Q : mQ) : mAt (mRun D) 101 29 c Q = mWp (mRun D) 101 0 (fun pc c => mAt (mRun D) 101 pc c Q) Q bk_Si_length_29 c := mAt_blk rfl
theorem e_Si_letter (D : Nat) (x0 x1 x2 : mV) (I : mN) (S : mH) (Q : mQ) (h : mCs [x0, x1, x2] ≤ 3) : mRun (D + 1) 102 [x0, x1, x2] I S Q = mAt (mRun D) 102 0 ([some x0, some x1, some x2], [], I, S) Q := propext ⟨fun z => z.2, fun z => ⟨⟨h, Nat.le_of_ble_eq_true rfl⟩, z⟩⟩
theorem a_Si_letter_0 (D : Nat) (c : mC) (Q : mQ) : mAt (mRun D) 102 0 c Q = mWp (mRun D) 102 0 (fun pc c => mAt (mRun D) 102 pc c Q) Q bk_Si_letter_0 c := mAt_blk rfl
theorem e_Si_word (D : Nat) (x0 : mV) (I : mN) (S : mH) (Q : mQ) (h : mCs [x0] ≤ 1) : mRun (D + 1) 103 [x0] I S Q = mAt (mRun D) 103 0 ([some x0], [], I, S) Q := propext ⟨fun z => z.2, fun z => ⟨⟨h, Nat.le_of_ble_eq_true rfl⟩, z⟩⟩
theorem a_Si_word_0 (D : Nat) (c : mC) (Q : mQ) : mAt (mRun D) 103 0 c Q = mWp (mRun D) 103 0 (fun pc c => mAt (mRun D) 103 pc c Q) Q bk_Si_word_0 c := mAt_blk rfl
theorem a_Si_word_124 (D : Nat) (c : mC) (Q : mQ) : mAt (mRun D) 103 124 c Q = mWp (mRun D) 103 0 (fun pc c => mAt (mRun D) 103 pc c Q) Q bk_Si_word_124 c := mAt_blk rfl
theorem a_Si_word_127 (D : Nat) (c : mC) (Q : mQ) : mAt (mRun D) 103 127 c Q = mWp (mRun D) 103 0 (fun pc c => mAt (mRun D) 103 pc c Q) Q bk_Si_word_127 c := mAt_blk rfl
theorem a_Si_word_130 (D : Nat) (c : mC) (Q : mQ) : mAt (mRun D) 103 130 c Q = mWp (mRun D) 103 0 (fun pc c => mAt (mRun D) 103 pc c Q) Q bk_Si_word_130 c := mAt_blk rfl
theorem a_Si_word_133 (D : Nat) (c : mC) (Q : mQ) : mAt (mRun D) 103 133 c Q = mWp (mRun D) 103 0 (fun pc c => mAt (mRun D) 103 pc c Q) Q bk_Si_word_133 c := mAt_blk rfl
theorem a_Si_word_136 (D : Nat) (c : mC) (Q : mQ) : mAt (mRun D) 103 136 c Q = mWp (mRun D) 103 0 (fun pc c => mAt (mRun D) 103 pc c Q) Q bk_Si_word_136 c := mAt_blk rfl
theorem a_Si_word_139 (D : Nat) (c : mC) (Q : mQ) : mAt (mRun D) 103 139 c Q = mWp (mRun D) 103 0 (fun pc c => mAt (mRun D) 103 pc c Q) Q bk_Si_word_139 c := mAt_blk rfl
theorem a_Si_word_142 (D : Nat) (c : mC) (Q : mQ) : mAt (mRun D) 103 142 c Q = mWp (mRun D) 103 0 (fun pc c => mAt (mRun D) 103 pc c Q) Q bk_Si_word_142 c := mAt_blk rfl
theorem a_Si_word_145 (D : Nat) (c : mC) (Q : mQ) : mAt (mRun D) 103 145 c Q = mWp (mRun D) 103 0 (fun pc c => mAt (mRun D) 103 pc c Q) Q bk_Si_word_145 c := mAt_blk rfl
theorem a_Si_word_148 (D : Nat) (c : mC) (Q : mQ) : mAt (mRun D) 103 148 c Q = mWp (mRun D) 103 0 (fun pc c => mAt (mRun D) 103 pc c Q) Q bk_Si_word_148 c := mAt_blk rfl
theorem a_Si_word_151 (D : Nat) (c : mC) (Q : mQ) : mAt (mRun D) 103 151 c Q = mWp (mRun D) 103 0 (fun pc c => mAt (mRun D) 103 pc c Q) Q bk_Si_word_151 c := mAt_blk rfl
theorem a_Si_word_154 (D : Nat) (c : mC) (Q : mQ) : mAt (mRun D) 103 154 c Q = mWp (mRun D) 103 0 (fun pc c => mAt (mRun D) 103 pc c Q) Q bk_Si_word_154 c := mAt_blk rfl
theorem a_Si_word_157 (D : Nat) (c : mC) (Q : mQ) : mAt (mRun D) 103 157 c Q = mWp (mRun D) 103 0 (fun pc c => mAt (mRun D) 103 pc c Q) Q bk_Si_word_157 c := mAt_blk rfl
theorem a_Si_word_160 (D : Nat) (c : mC) (Q : mQ) : mAt (mRun D) 103 160 c Q = mWp (mRun D) 103 0 (fun pc c => mAt (mRun D) 103 pc c Q) Q bk_Si_word_160 c := mAt_blk rfl
theorem a_Si_word_163 (D : Nat) (c : mC) (Q : mQ) : mAt (mRun D) 103 163 c Q = mWp (mRun D) 103 0 (fun pc c => mAt (mRun D) 103 pc c Q) Q bk_Si_word_163 c := mAt_blk rfl
theorem a_Si_word_166 (D : Nat) (c : mC) (Q : mQ) : mAt (mRun D) 103 166 c Q = mWp (mRun D) 103 0 (fun pc c => mAt (mRun D) 103 pc c Q) Q bk_Si_word_166 c := mAt_blk rfl
theorem a_Si_word_169 (D : Nat) (c : mC) (Q : mQ) : mAt (mRun D) 103 169 c Q = mWp (mRun D) 103 0 (fun pc c => mAt (mRun D) 103 pc c Q) Q bk_Si_word_169 c := mAt_blk rfl
theorem a_Si_word_172 (D : Nat) (c : mC) (Q : mQ) : mAt (mRun D) 103 172 c Q = mWp (mRun D) 103 0 (fun pc c => mAt (mRun D) 103 pc c Q) Q bk_Si_word_172 c := mAt_blk rfl
theorem a_Si_word_175 (D : Nat) (c : mC) (Q : mQ) : mAt (mRun D) 103 175 c Q = mWp (mRun D) 103 0 (fun pc c => mAt (mRun D) 103 pc c Q) Q bk_Si_word_175 c := mAt_blk rfl
theorem a_Si_word_178 (D : Nat) (c : mC) (Q : mQ) : mAt (mRun D) 103 178 c Q = mWp (mRun D) 103 0 (fun pc c => mAt (mRun D) 103 pc c Q) Q bk_Si_word_178 c := mAt_blk rfl
theorem a_Si_word_181 (D : Nat) (c : mC) (Q : mQ) : mAt (mRun D) 103 181 c Q = mWp (mRun D) 103 0 (fun pc c => mAt (mRun D) 103 pc c Q) Q bk_Si_word_181 c := mAt_blk rfl
theorem a_Si_word_184 (D : Nat) (c : mC) (Q : mQ) : mAt (mRun D) 103 184 c Q = mWp (mRun D) 103 0 (fun pc c => mAt (mRun D) 103 pc c Q) Q bk_Si_word_184 c := mAt_blk rfl
theorem a_Si_word_187 (D : Nat) (c : mC) (Q : mQ) : mAt (mRun D) 103 187 c Q = mWp (mRun D) 103 0 (fun pc c => mAt (mRun D) 103 pc c Q) Q bk_Si_word_187 c := mAt_blk rfl
theorem a_Si_word_190 (D : Nat) (c : mC) (Q : mQ) : mAt (mRun D) 103 190 c Q = mWp (mRun D) 103 0 (fun pc c => mAt (mRun D) 103 pc c Q) Q bk_Si_word_190 c := mAt_blk rfl
theorem a_Si_word_193 (D : Nat) (c : mC) (Q : mQ) : mAt (mRun D) 103 193 c Q = mWp (mRun D) 103 0 (fun pc c => mAt (mRun D) 103 pc c Q) Q bk_Si_word_193 c := mAt_blk rfl
theorem a_Si_word_196 (D : Nat) (c : mC) (Q : mQ) : mAt (mRun D) 103 196 c Q = mWp (mRun D) 103 0 (fun pc c => mAt (mRun D) 103 pc c Q) Q bk_Si_word_196 c := mAt_blk rfl
theorem a_Si_word_199 (D : Nat) (c : mC) (Q : mQ) : mAt (mRun D) 103 199 c Q = mWp (mRun D) 103 0 (fun pc c => mAt (mRun D) 103 pc c Q) Q bk_Si_word_199 c := mAt_blk rfl
theorem a_Si_word_202 (D : Nat) (c : mC) (Q : mQ) : mAt (mRun D) 103 202 c Q = mWp (mRun D) 103 0 (fun pc c => mAt (mRun D) 103 pc c Q) Q bk_Si_word_202 c := mAt_blk rfl
theorem a_Si_word_205 (D : Nat) (c : mC) (Q : mQ) : mAt (mRun D) 103 205 c Q = mWp (mRun D) 103 0 (fun pc c => mAt (mRun D) 103 pc c Q) Q bk_Si_word_205 c := mAt_blk rfl
theorem e_Wr_init (D : Nat) (x0 x1 : mV) (I : mN) (S : mH) (Q : mQ) (h : mCs [x0, x1] ≤ 2) : mRun (D + 1) 104 [x0, x1] I S Q = mAt (mRun D) 104 0 ([some x0, some x1], [], I, S) Q := propext ⟨fun z => z.2, fun z => ⟨⟨h, Nat.le_of_ble_eq_true rfl⟩, z⟩⟩
theorem a_Wr_init_0 (D : Nat) (c : mC) (Q : mQ) : mAt (mRun D) 104 0 c Q = mWp (mRun D) 104 0 (fun pc c => mAt (mRun D) 104 pc c Q) Q bk_Wr_init_0 c := mAt_blk rfl
theorem e_Wr_write (D : Nat) (x0 x1 : mV) (I : mN) (S : mH) (Q : mQ) (h : mCs [x0, x1] ≤ 2) : mRun (D + 1) 105 [x0, x1] I S Q = mAt (mRun D) 105 0 ([some x0, some x1, none, none], [], I, S) Q := propext ⟨fun z => z.2, fun z => ⟨⟨h, Nat.le_of_ble_eq_true rfl⟩, z⟩⟩
theorem a_Wr_write_0 (D : Nat) (c : mC) (Q : mQ) : mAt (mRun D) 105 0 c Q = mWp (mRun D) 105 19 (fun pc c => mAt (mRun D) 105 pc c Q) Q bk_Wr_write_0 c := mAt_blk rfl
theorem a_Wr_write_19 (D : Nat) (c : mC) (Q : mQ) : mAt (mRun D) 105 19 c Q = mWp (mRun D) 105 0 (fun pc c => mAt (mRun D) 105 pc c Q) Q bk_Wr_write_19 c := mAt_blk rfl
theorem a_Wr_write_76 (D : Nat) (c : mC) (Q : mQ) : mAt (mRun D) 105 76 c Q = mWp (mRun D) 105 78 (fun pc c => mAt (mRun D) 105 pc c Q) Q bk_Wr_write_76 c := mAt_blk rfl
theorem a_Wr_write_78 (D : Nat) (c : mC) (Q : mQ) : mAt (mRun D) 105 78 c Q = mWp (mRun D) 105 0 (fun pc c => mAt (mRun D) 105 pc c Q) Q bk_Wr_write_78 c := mAt_blk rfl
theorem a_Wr_write_102 (D : Nat) (c : mC) (Q : mQ) : mAt (mRun D) 105 102 c Q = mWp (mRun D) 105 104 (fun pc c => mAt (mRun D) 105 pc c Q) Q bk_Wr_write_102 c := mAt_blk rfl
theorem a_Wr_write_104 (D : Nat) (c : mC) (Q : mQ) : mAt (mRun D) 105 104 c Q = mWp (mRun D) 105 0 (fun pc c => mAt (mRun D) 105 pc c Q) Q bk_Wr_write_104 c := mAt_blk rfl
theorem a_Wr_write_128 (D : Nat) (c : mC) (Q : mQ) : mAt (mRun D) 105 128 c Q = mWp (mRun D) 105 130 (fun pc c => mAt (mRun D) 105 pc c Q) Q bk_Wr_write_128 c := mAt_blk rfl
theorem a_Wr_write_130 (D : Nat) (c : mC) (Q : mQ) : mAt (mRun D) 105 130 c Q = mWp (mRun D) 105 137 (fun pc c => mAt (mRun D) 105 pc c Q) Q bk_Wr_write_130 c := mAt_blk rfl
theorem a_Wr_write_137 (D : Nat) (c : mC) (Q : mQ) : mAt (mRun D) 105 137 c Q = mWp (mRun D) 105 0 (fun pc c => mAt (mRun D) 105 pc c Q) Q bk_Wr_write_137 c := mAt_blk rfl
theorem a_Wr_write_163 (D : Nat) (c : mC) (Q : mQ) : mAt (mRun D) 105 163 c Q = mWp (mRun D) 105 0 (fun pc c => mAt (mRun D) 105 pc c Q) Q bk_Wr_write_163 c := mAt_blk rfl
theorem a_Wr_write_169 (D : Nat) (c : mC) (Q : mQ) : mAt (mRun D) 105 169 c Q = mWp (mRun D) 105 0 (fun pc c => mAt (mRun D) 105 pc c Q) Q bk_Wr_write_169 c := mAt_blk rfl
theorem e_Wr_writeReach (D : Nat) (x0 x1 : mV) (I : mN) (S : mH) (Q : mQ) (h : mCs [x0, x1] ≤ 2) : mRun (D + 1) 106 [x0, x1] I S Q = mAt (mRun D) 106 0 ([some x0, some x1, none], [], I, S) Q := propext ⟨fun z => z.2, fun z => ⟨⟨h, Nat.le_of_ble_eq_true rfl⟩, z⟩⟩
theorem a_Wr_writeReach_0 (D : Nat) (c : mC) (Q : mQ) : mAt (mRun D) 106 0 c Q = mWp (mRun D) 106 42 (fun pc c => mAt (mRun D) 106 pc c Q) Q bk_Wr_writeReach_0 c := mAt_blk rfl
theorem a_Wr_writeReach_42 (D : Nat) (c : mC) (Q : mQ) : mAt (mRun D) 106 42 c Q = mWp (mRun D) 106 84 (fun pc c => mAt (mRun D) 106 pc c Q) Q bk_Wr_writeReach_42 c := mAt_blk rfl
theorem a_Wr_writeReach_84 (D : Nat) (c : mC) (Q : mQ) : mAt (mRun D) 106 84 c Q = mWp (mRun D) 106 0 (fun pc c => mAt (mRun D) 106 pc c Q) Q bk_Wr_writeReach_84 c := mAt_blk rfl
theorem a_Wr_writeReach_90 (D : Nat) (c : mC) (Q : mQ) : mAt (mRun D) 106 90 c Q = mWp (mRun D) 106 0 (fun pc c => mAt (mRun D) 106 pc c Q) Q bk_Wr_writeReach_90 c := mAt_blk rfl
theorem e_Wr_writeRight (D : Nat) (x0 x1 : mV) (I : mN) (S : mH) (Q : mQ) (h : mCs [x0, x1] ≤ 2) : mRun (D + 1) 107 [x0, x1] I S Q = mAt (mRun D) 107 0 ([some x0, some x1, none], [], I, S) Q := propext ⟨fun z => z.2, fun z => ⟨⟨h, Nat.le_of_ble_eq_true rfl⟩, z⟩⟩
theorem a_Wr_writeRight_0 (D : Nat) (c : mC) (Q : mQ) : mAt (mRun D) 107 0 c Q = mWp (mRun D) 107 0 (fun pc c => mAt (mRun D) 107 pc c Q) Q bk_Wr_writeRight_0 c := mAt_blk rfl
theorem a_Wr_writeRight_61 (D : Nat) (c : mC) (Q : mQ) : mAt (mRun D) 107 61 c Q = mWp (mRun D) 107 64 (fun pc c => mAt (mRun D) 107 pc c Q) Q bk_Wr_writeRight_61 c := mAt_blk rfl
theorem a_Wr_writeRight_64 (D : Nat) (c : mC) (Q : mQ) : mAt (mRun D) 107 64 c Q = mWp (mRun D) 107 67 (fun pc c => mAt (mRun D) 107 pc c Q) Q bk_Wr_writeRight_64 c := mAt_blk rfl
theorem a_Wr_writeRight_67 (D : Nat) (c : mC) (Q : mQ) : mAt (mRun D) 107 67 c Q = mWp (mRun D) 107 85 (fun pc c => mAt (mRun D) 107 pc c Q) Q bk_Wr_writeRight_67 c := mAt_blk rfl
theorem a_Wr_writeRight_85 (D : Nat) (c : mC) (Q : mQ) : mAt (mRun D) 107 85 c Q = mWp (mRun D) 107 87 (fun pc c => mAt (mRun D) 107 pc c Q) Q bk_Wr_writeRight_85 c := mAt_blk rfl
theorem a_Wr_writeRight_87 (D : Nat) (c : mC) (Q : mQ) : mAt (mRun D) 107 87 c Q = mWp (mRun D) 107 0 (fun pc c => mAt (mRun D) 107 pc c Q) Q bk_Wr_writeRight_87 c := mAt_blk rfl
theorem a_Wr_writeRight_124 (D : Nat) (c : mC) (Q : mQ) : mAt (mRun D) 107 124 c Q = mWp (mRun D) 107 134 (fun pc c => mAt (mRun D) 107 pc c Q) Q bk_Wr_writeRight_124 c := mAt_blk rfl
theorem a_Wr_writeRight_134 (D : Nat) (c : mC) (Q : mQ) : mAt (mRun D) 107 134 c Q = mWp (mRun D) 107 0 (fun pc c => mAt (mRun D) 107 pc c Q) Q bk_Wr_writeRight_134 c := mAt_blk rfl
theorem a_Wr_writeRight_140 (D : Nat) (c : mC) (Q : mQ) : mAt (mRun D) 107 140 c Q = mWp (mRun D) 107 0 (fun pc c => mAt (mRun D) 107 pc c Q) Q bk_Wr_writeRight_140 c := mAt_blk rfl
theorem e_Wr_writeAsks (D : Nat) (x0 x1 : mV) (I : mN) (S : mH) (Q : mQ) (h : mCs [x0, x1] ≤ 2) : mRun (D + 1) 108 [x0, x1] I S Q = mAt (mRun D) 108 0 ([some x0, some x1, none, none, none], [], I, S) Q := propext ⟨fun z => z.2, fun z => ⟨⟨h, Nat.le_of_ble_eq_true rfl⟩, z⟩⟩
theorem a_Wr_writeAsks_0 (D : Nat) (c : mC) (Q : mQ) : mAt (mRun D) 108 0 c Q = mWp (mRun D) 108 4 (fun pc c => mAt (mRun D) 108 pc c Q) Q bk_Wr_writeAsks_0 c := mAt_blk rfl
theorem a_Wr_writeAsks_4 (D : Nat) (c : mC) (Q : mQ) : mAt (mRun D) 108 4 c Q = mWp (mRun D) 108 33 (fun pc c => mAt (mRun D) 108 pc c Q) Q bk_Wr_writeAsks_4 c := mAt_blk rfl
theorem a_Wr_writeAsks_33 (D : Nat) (c : mC) (Q : mQ) : mAt (mRun D) 108 33 c Q = mWp (mRun D) 108 0 (fun pc c => mAt (mRun D) 108 pc c Q) Q bk_Wr_writeAsks_33 c := mAt_blk rfl
theorem a_Wr_writeAsks_37 (D : Nat) (c : mC) (Q : mQ) : mAt (mRun D) 108 37 c Q = mWp (mRun D) 108 38 (fun pc c => mAt (mRun D) 108 pc c Q) Q bk_Wr_writeAsks_37 c := mAt_blk rfl
theorem a_Wr_writeAsks_38 (D : Nat) (c : mC) (Q : mQ) : mAt (mRun D) 108 38 c Q = mWp (mRun D) 108 80 (fun pc c => mAt (mRun D) 108 pc c Q) Q bk_Wr_writeAsks_38 c := mAt_blk rfl
theorem a_Wr_writeAsks_80 (D : Nat) (c : mC) (Q : mQ) : mAt (mRun D) 108 80 c Q = mWp (mRun D) 108 89 (fun pc c => mAt (mRun D) 108 pc c Q) Q bk_Wr_writeAsks_80 c := mAt_blk rfl
theorem a_Wr_writeAsks_89 (D : Nat) (c : mC) (Q : mQ) : mAt (mRun D) 108 89 c Q = mWp (mRun D) 108 0 (fun pc c => mAt (mRun D) 108 pc c Q) Q bk_Wr_writeAsks_89 c := mAt_blk rfl
theorem a_Wr_writeAsks_95 (D : Nat) (c : mC) (Q : mQ) : mAt (mRun D) 108 95 c Q = mWp (mRun D) 108 0 (fun pc c => mAt (mRun D) 108 pc c Q) Q bk_Wr_writeAsks_95 c := mAt_blk rfl
theorem e_Wr_writeInflow (D : Nat) (x0 x1 x2 x3 : mV) (I : mN) (S : mH) (Q : mQ) (h : mCs [x0, x1, x2, x3] ≤ 4) : mRun (D + 1) 109 [x0, x1, x2, x3] I S Q = mAt (mRun D) 109 0 ([some x0, some x1, some x2, some x3, none, none], [], I, S) Q := propext ⟨fun z => z.2, fun z => ⟨⟨h, Nat.le_of_ble_eq_true rfl⟩, z⟩⟩
theorem a_Wr_writeInflow_0 (D : Nat) (c : mC) (Q : mQ) : mAt (mRun D) 109 0 c Q = mWp (mRun D) 109 6 (fun pc c => mAt (mRun D) 109 pc c Q) Q bk_Wr_writeInflow_0 c := mAt_blk rfl
theorem a_Wr_writeInflow_6 (D : Nat) (c : mC) (Q : mQ) : mAt (mRun D) 109 6 c Q = mWp (mRun D) 109 0 (fun pc c => mAt (mRun D) 109 pc c Q) Q bk_Wr_writeInflow_6 c := mAt_blk rfl
theorem a_Wr_writeInflow_36 (D : Nat) (c : mC) (Q : mQ) : mAt (mRun D) 109 36 c Q = mWp (mRun D) 109 0 (fun pc c => mAt (mRun D) 109 pc c Q) Q bk_Wr_writeInflow_36 c := mAt_blk rfl
theorem a_Wr_writeInflow_42 (D : Nat) (c : mC) (Q : mQ) : mAt (mRun D) 109 42 c Q = mWp (mRun D) 109 61 (fun pc c => mAt (mRun D) 109 pc c Q) Q bk_Wr_writeInflow_42 c := mAt_blk rfl
theorem a_Wr_writeInflow_61 (D : Nat) (c : mC) (Q : mQ) : mAt (mRun D) 109 61 c Q = mWp (mRun D) 109 0 (fun pc c => mAt (mRun D) 109 pc c Q) Q bk_Wr_writeInflow_61 c := mAt_blk rfl
theorem a_Wr_writeInflow_90 (D : Nat) (c : mC) (Q : mQ) : mAt (mRun D) 109 90 c Q = mWp (mRun D) 109 0 (fun pc c => mAt (mRun D) 109 pc c Q) Q bk_Wr_writeInflow_90 c := mAt_blk rfl
theorem e_Wr_putSign (D : Nat) (x0 x1 : mV) (I : mN) (S : mH) (Q : mQ) (h : mCs [x0, x1] ≤ 2) : mRun (D + 1) 110 [x0, x1] I S Q = mAt (mRun D) 110 0 ([some x0, some x1], [], I, S) Q := propext ⟨fun z => z.2, fun z => ⟨⟨h, Nat.le_of_ble_eq_true rfl⟩, z⟩⟩
theorem a_Wr_putSign_0 (D : Nat) (c : mC) (Q : mQ) : mAt (mRun D) 110 0 c Q = mWp (mRun D) 110 0 (fun pc c => mAt (mRun D) 110 pc c Q) Q bk_Wr_putSign_0 c := mAt_blk rfl
theorem e_Wr_putNumber (D : Nat) (x0 x1 : mV) (I : mN) (S : mH) (Q : mQ) (h : mCs [x0, x1] ≤ 2) : mRun (D + 1) 111 [x0, x1] I S Q = mAt (mRun D) 111 0 ([some x0, some x1, none, none, none], [], I, S) Q := propext ⟨fun z => z.2, fun z => ⟨⟨h, Nat.le_of_ble_eq_true rfl⟩, z⟩⟩
theorem a_Wr_putNumber_0 (D : Nat) (c : mC) (Q : mQ) : mAt (mRun D) 111 0 c Q = mWp (mRun D) 111 12 (fun pc c => mAt (mRun D) 111 pc c Q) Q bk_Wr_putNumber_0 c := mAt_blk rfl
theorem a_Wr_putNumber_12 (D : Nat) (c : mC) (Q : mQ) : mAt (mRun D) 111 12 c Q = mWp (mRun D) 111 38 (fun pc c => mAt (mRun D) 111 pc c Q) Q bk_Wr_putNumber_12 c := mAt_blk rfl
theorem a_Wr_putNumber_38 (D : Nat) (c : mC) (Q : mQ) : mAt (mRun D) 111 38 c Q = mWp (mRun D) 111 0 (fun pc c => mAt (mRun D) 111 pc c Q) Q bk_Wr_putNumber_38 c := mAt_blk rfl
theorem a_Wr_putNumber_42 (D : Nat) (c : mC) (Q : mQ) : mAt (mRun D) 111 42 c Q = mWp (mRun D) 111 43 (fun pc c => mAt (mRun D) 111 pc c Q) Q bk_Wr_putNumber_42 c := mAt_blk rfl
theorem a_Wr_putNumber_43 (D : Nat) (c : mC) (Q : mQ) : mAt (mRun D) 111 43 c Q = mWp (mRun D) 111 58 (fun pc c => mAt (mRun D) 111 pc c Q) Q bk_Wr_putNumber_43 c := mAt_blk rfl
theorem a_Wr_putNumber_58 (D : Nat) (c : mC) (Q : mQ) : mAt (mRun D) 111 58 c Q = mWp (mRun D) 111 0 (fun pc c => mAt (mRun D) 111 pc c Q) Q bk_Wr_putNumber_58 c := mAt_blk rfl
theorem a_Wr_putNumber_66 (D : Nat) (c : mC) (Q : mQ) : mAt (mRun D) 111 66 c Q = mWp (mRun D) 111 0 (fun pc c => mAt (mRun D) 111 pc c Q) Q bk_Wr_putNumber_66 c := mAt_blk rfl
theorem e_Wr_putWord (D : Nat) (x0 x1 : mV) (I : mN) (S : mH) (Q : mQ) (h : mCs [x0, x1] ≤ 2) : mRun (D + 1) 112 [x0, x1] I S Q = mAt (mRun D) 112 0 ([some x0, some x1, none], [], I, S) Q := propext ⟨fun z => z.2, fun z => ⟨⟨h, Nat.le_of_ble_eq_true rfl⟩, z⟩⟩
theorem a_Wr_putWord_0 (D : Nat) (c : mC) (Q : mQ) : mAt (mRun D) 112 0 c Q = mWp (mRun D) 112 2 (fun pc c => mAt (mRun D) 112 pc c Q) Q bk_Wr_putWord_0 c := mAt_blk rfl
theorem a_Wr_putWord_2 (D : Nat) (c : mC) (Q : mQ) : mAt (mRun D) 112 2 c Q = mWp (mRun D) 112 0 (fun pc c => mAt (mRun D) 112 pc c Q) Q bk_Wr_putWord_2 c := mAt_blk rfl
theorem a_Wr_putWord_33 (D : Nat) (c : mC) (Q : mQ) : mAt (mRun D) 112 33 c Q = mWp (mRun D) 112 0 (fun pc c => mAt (mRun D) 112 pc c Q) Q bk_Wr_putWord_33 c := mAt_blk rfl
theorem e_Wr_putChar (D : Nat) (x0 x1 : mV) (I : mN) (S : mH) (Q : mQ) (h : mCs [x0, x1] ≤ 2) : mRun (D + 1) 113 [x0, x1] I S Q = mAt (mRun D) 113 0 ([some x0, some x1], [], I, S) Q := propext ⟨fun z => z.2, fun z => ⟨⟨h, Nat.le_of_ble_eq_true rfl⟩, z⟩⟩
theorem a_Wr_putChar_0 (D : Nat) (c : mC) (Q : mQ) : mAt (mRun D) 113 0 c Q = mWp (mRun D) 113 30 (fun pc c => mAt (mRun D) 113 pc c Q) Q bk_Wr_putChar_0 c := mAt_blk rfl
theorem a_Wr_putChar_30 (D : Nat) (c : mC) (Q : mQ) : mAt (mRun D) 113 30 c Q = mWp (mRun D) 113 0 (fun pc c => mAt (mRun D) 113 pc c Q) Q bk_Wr_putChar_30 c := mAt_blk rfl
theorem e_RS_init (D : Nat) (x0 : mV) (I : mN) (S : mH) (Q : mQ) (h : mCs [x0] ≤ 1) : mRun (D + 1) 114 [x0] I S Q = mAt (mRun D) 114 0 ([some x0, none], [], I, S) Q := propext ⟨fun z => z.2, fun z => ⟨⟨h, Nat.le_of_ble_eq_true rfl⟩, z⟩⟩
theorem a_RS_init_0 (D : Nat) (c : mC) (Q : mQ) : mAt (mRun D) 114 0 c Q = mWp (mRun D) 114 14 (fun pc c => mAt (mRun D) 114 pc c Q) Q bk_RS_init_0 c := mAt_blk rfl
theorem a_RS_init_14 (D : Nat) (c : mC) (Q : mQ) : mAt (mRun D) 114 14 c Q = mWp (mRun D) 114 0 (fun pc c => mAt (mRun D) 114 pc c Q) Q bk_RS_init_14 c := mAt_blk rfl
theorem a_RS_init_38 (D : Nat) (c : mC) (Q : mQ) : mAt (mRun D) 114 38 c Q = mWp (mRun D) 114 0 (fun pc c => mAt (mRun D) 114 pc c Q) Q bk_RS_init_38 c := mAt_blk rfl
theorem e_RS_append (D : Nat) (x0 x1 x2 x3 x4 x5 : mV) (I : mN) (S : mH) (Q : mQ) (h : mCs [x0, x1, x2, x3, x4, x5] ≤ 6) : mRun (D + 1) 115 [x0, x1, x2, x3, x4, x5] I S Q = mAt (mRun D) 115 0 ([some x0, some x1, some x2, some x3, some x4, some x5, none], [], I, S) Q := propext ⟨fun z => z.2, fun z => ⟨⟨h, Nat.le_of_ble_eq_true rfl⟩, z⟩⟩
theorem a_RS_append_0 (D : Nat) (c : mC) (Q : mQ) : mAt (mRun D) 115 0 c Q = mWp (mRun D) 115 0 (fun pc c => mAt (mRun D) 115 pc c Q) Q bk_RS_append_0 c := mAt_blk rfl
theorem a_RS_append_54 (D : Nat) (c : mC) (Q : mQ) : mAt (mRun D) 115 54 c Q = mWp (mRun D) 115 0 (fun pc c => mAt (mRun D) 115 pc c Q) Q bk_RS_append_54 c := mAt_blk rfl
theorem e_RS_bytesIn (D : Nat) (x0 : mV) (I : mN) (S : mH) (Q : mQ) (h : mCs [x0] ≤ 1) : mRun (D + 1) 116 [x0] I S Q = mAt (mRun D) 116 0 ([some x0, none, none], [], I, S) Q := propext ⟨fun z => z.2, fun z => ⟨⟨h, Nat.le_of_ble_eq_true rfl⟩, z⟩⟩
theorem a_RS_bytesIn_0 (D : Nat) (c : mC) (Q : mQ) : mAt (mRun D) 116 0 c Q = mWp (mRun D) 116 5 (fun pc c => mAt (mRun D) 116 pc c Q) Q bk_RS_bytesIn_0 c := mAt_blk rfl
theorem a_RS_bytesIn_5 (D : Nat) (c : mC) (Q : mQ) : mAt (mRun D) 116 5 c Q = mWp (mRun D) 116 22 (fun pc c => mAt (mRun D) 116 pc c Q) Q bk_RS_bytesIn_5 c := mAt_blk rfl
theorem a_RS_bytesIn_22 (D : Nat) (c : mC) (Q : mQ) : mAt (mRun D) 116 22 c Q = mWp (mRun D) 116 0 (fun pc c => mAt (mRun D) 116 pc c Q) Q bk_RS_bytesIn_22 c := mAt_blk rfl
theorem a_RS_bytesIn_28 (D : Nat) (c : mC) (Q : mQ) : mAt (mRun D) 116 28 c Q = mWp (mRun D) 116 0 (fun pc c => mAt (mRun D) 116 pc c Q) Q bk_RS_bytesIn_28 c := mAt_blk rfl
theorem e_RS_clearText (D : Nat) (x0 : mV) (I : mN) (S : mH) (Q : mQ) (h : mCs [x0] ≤ 1) : mRun (D + 1) 117 [x0] I S Q = mAt (mRun D) 117 0 ([some x0, none], [], I, S) Q := propext ⟨fun z => z.2, fun z => ⟨⟨h, Nat.le_of_ble_eq_true rfl⟩, z⟩⟩
theorem a_RS_clearText_0 (D : Nat) (c : mC) (Q : mQ) : mAt (mRun D) 117 0 c Q = mWp (mRun D) 117 0 (fun pc c => mAt (mRun D) 117 pc c Q) Q bk_RS_clearText_0 c := mAt_blk rfl
theorem e_RS_readBasin (D : Nat) (x0 : mV) (I : mN) (S : mH) (Q : mQ) (h : mCs [x0] ≤ 1) : mRun (D + 1) 118 [x0] I S Q = mAt (mRun D) 118 0 ([some x0], [], I, S) Q := propext ⟨fun z => z.2, fun z => ⟨⟨h, Nat.le_of_ble_eq_true rfl⟩, z⟩⟩
theorem a_RS_readBasin_0 (D : Nat) (c : mC) (Q : mQ) : mAt (mRun D) 118 0 c Q = mWp (mRun D) 118 0 (fun pc c => mAt (mRun D) 118 pc c Q) Q bk_RS_readBasin_0 c := mAt_blk rfl
theorem a_RS_readBasin_24 (D : Nat) (c : mC) (Q : mQ) : mAt (mRun D) 118 24 c Q = mWp (mRun D) 118 0 (fun pc c => mAt (mRun D) 118 pc c Q) Q bk_RS_readBasin_24 c := mAt_blk rfl
theorem e_RS_errorPosition (D : Nat) (x0 : mV) (I : mN) (S : mH) (Q : mQ) (h : mCs [x0] ≤ 1) : mRun (D + 1) 119 [x0] I S Q = mAt (mRun D) 119 0 ([some x0], [], I, S) Q := propext ⟨fun z => z.2, fun z => ⟨⟨h, Nat.le_of_ble_eq_true rfl⟩, z⟩⟩
theorem a_RS_errorPosition_0 (D : Nat) (c : mC) (Q : mQ) : mAt (mRun D) 119 0 c Q = mWp (mRun D) 119 0 (fun pc c => mAt (mRun D) 119 pc c Q) Q bk_RS_errorPosition_0 c := mAt_blk rfl
theorem e_RS_writeBasin (D : Nat) (x0 : mV) (I : mN) (S : mH) (Q : mQ) (h : mCs [x0] ≤ 1) : mRun (D + 1) 120 [x0] I S Q = mAt (mRun D) 120 0 ([some x0], [], I, S) Q := propext ⟨fun z => z.2, fun z => ⟨⟨h, Nat.le_of_ble_eq_true rfl⟩, z⟩⟩
theorem a_RS_writeBasin_0 (D : Nat) (c : mC) (Q : mQ) : mAt (mRun D) 120 0 c Q = mWp (mRun D) 120 0 (fun pc c => mAt (mRun D) 120 pc c Q) Q bk_RS_writeBasin_0 c := mAt_blk rfl
theorem e_RS_writtenAt (D : Nat) (x0 x1 : mV) (I : mN) (S : mH) (Q : mQ) (h : mCs [x0, x1] ≤ 2) : mRun (D + 1) 121 [x0, x1] I S Q = mAt (mRun D) 121 0 ([some x0, some x1], [], I, S) Q := propext ⟨fun z => z.2, fun z => ⟨⟨h, Nat.le_of_ble_eq_true rfl⟩, z⟩⟩
theorem a_RS_writtenAt_0 (D : Nat) (c : mC) (Q : mQ) : mAt (mRun D) 121 0 c Q = mWp (mRun D) 121 15 (fun pc c => mAt (mRun D) 121 pc c Q) Q bk_RS_writtenAt_0 c := mAt_blk rfl
theorem a_RS_writtenAt_15 (D : Nat) (c : mC) (Q : mQ) : mAt (mRun D) 121 15 c Q = mWp (mRun D) 121 0 (fun pc c => mAt (mRun D) 121 pc c Q) Q bk_RS_writtenAt_15 c := mAt_blk rfl
theorem a_RS_writtenAt_25 (D : Nat) (c : mC) (Q : mQ) : mAt (mRun D) 121 25 c Q = mWp (mRun D) 121 0 (fun pc c => mAt (mRun D) 121 pc c Q) Q bk_RS_writtenAt_25 c := mAt_blk rfl
theorem e_RS_addPlace (D : Nat) (x0 x1 x2 : mV) (I : mN) (S : mH) (Q : mQ) (h : mCs [x0, x1, x2] ≤ 3) : mRun (D + 1) 122 [x0, x1, x2] I S Q = mAt (mRun D) 122 0 ([some x0, some x1, some x2], [], I, S) Q := propext ⟨fun z => z.2, fun z => ⟨⟨h, Nat.le_of_ble_eq_true rfl⟩, z⟩⟩
theorem a_RS_addPlace_0 (D : Nat) (c : mC) (Q : mQ) : mAt (mRun D) 122 0 c Q = mWp (mRun D) 122 19 (fun pc c => mAt (mRun D) 122 pc c Q) Q bk_RS_addPlace_0 c := mAt_blk rfl
theorem a_RS_addPlace_19 (D : Nat) (c : mC) (Q : mQ) : mAt (mRun D) 122 19 c Q = mWp (mRun D) 122 0 (fun pc c => mAt (mRun D) 122 pc c Q) Q bk_RS_addPlace_19 c := mAt_blk rfl
theorem a_RS_addPlace_29 (D : Nat) (c : mC) (Q : mQ) : mAt (mRun D) 122 29 c Q = mWp (mRun D) 122 0 (fun pc c => mAt (mRun D) 122 pc c Q) Q bk_RS_addPlace_29 c := mAt_blk rfl
theorem a_RS_addPlace_51 (D : Nat) (c : mC) (Q : mQ) : mAt (mRun D) 122 51 c Q = mWp (mRun D) 122 0 (fun pc c => mAt (mRun D) 122 pc c Q) Q bk_RS_addPlace_51 c := mAt_blk rfl
theorem e_RS_addReach (D : Nat) (x0 x1 x2 x3 x4 : mV) (I : mN) (S : mH) (Q : mQ) (h : mCs [x0, x1, x2, x3, x4] ≤ 5) : mRun (D + 1) 123 [x0, x1, x2, x3, x4] I S Q = mAt (mRun D) 123 0 ([some x0, some x1, some x2, some x3, some x4], [], I, S) Q := propext ⟨fun z => z.2, fun z => ⟨⟨h, Nat.le_of_ble_eq_true rfl⟩, z⟩⟩
theorem a_RS_addReach_0 (D : Nat) (c : mC) (Q : mQ) : mAt (mRun D) 123 0 c Q = mWp (mRun D) 123 35 (fun pc c => mAt (mRun D) 123 pc c Q) Q bk_RS_addReach_0 c := mAt_blk rfl
theorem a_RS_addReach_35 (D : Nat) (c : mC) (Q : mQ) : mAt (mRun D) 123 35 c Q = mWp (mRun D) 123 0 (fun pc c => mAt (mRun D) 123 pc c Q) Q bk_RS_addReach_35 c := mAt_blk rfl
theorem a_RS_addReach_45 (D : Nat) (c : mC) (Q : mQ) : mAt (mRun D) 123 45 c Q = mWp (mRun D) 123 0 (fun pc c => mAt (mRun D) 123 pc c Q) Q bk_RS_addReach_45 c := mAt_blk rfl
theorem a_RS_addReach_67 (D : Nat) (c : mC) (Q : mQ) : mAt (mRun D) 123 67 c Q = mWp (mRun D) 123 0 (fun pc c => mAt (mRun D) 123 pc c Q) Q bk_RS_addReach_67 c := mAt_blk rfl
theorem e_RS_setCapacity (D : Nat) (x0 x1 x2 x3 : mV) (I : mN) (S : mH) (Q : mQ) (h : mCs [x0, x1, x2, x3] ≤ 4) : mRun (D + 1) 124 [x0, x1, x2, x3] I S Q = mAt (mRun D) 124 0 ([some x0, some x1, some x2, some x3, none], [], I, S) Q := propext ⟨fun z => z.2, fun z => ⟨⟨h, Nat.le_of_ble_eq_true rfl⟩, z⟩⟩
theorem a_RS_setCapacity_0 (D : Nat) (c : mC) (Q : mQ) : mAt (mRun D) 124 0 c Q = mWp (mRun D) 124 22 (fun pc c => mAt (mRun D) 124 pc c Q) Q bk_RS_setCapacity_0 c := mAt_blk rfl
theorem a_RS_setCapacity_22 (D : Nat) (c : mC) (Q : mQ) : mAt (mRun D) 124 22 c Q = mWp (mRun D) 124 0 (fun pc c => mAt (mRun D) 124 pc c Q) Q bk_RS_setCapacity_22 c := mAt_blk rfl
theorem a_RS_setCapacity_32 (D : Nat) (c : mC) (Q : mQ) : mAt (mRun D) 124 32 c Q = mWp (mRun D) 124 0 (fun pc c => mAt (mRun D) 124 pc c Q) Q bk_RS_setCapacity_32 c := mAt_blk rfl
theorem e_RS_addRight (D : Nat) (x0 x1 x2 x3 : mV) (I : mN) (S : mH) (Q : mQ) (h : mCs [x0, x1, x2, x3] ≤ 4) : mRun (D + 1) 125 [x0, x1, x2, x3] I S Q = mAt (mRun D) 125 0 ([some x0, some x1, some x2, some x3], [], I, S) Q := propext ⟨fun z => z.2, fun z => ⟨⟨h, Nat.le_of_ble_eq_true rfl⟩, z⟩⟩
theorem a_RS_addRight_0 (D : Nat) (c : mC) (Q : mQ) : mAt (mRun D) 125 0 c Q = mWp (mRun D) 125 28 (fun pc c => mAt (mRun D) 125 pc c Q) Q bk_RS_addRight_0 c := mAt_blk rfl
theorem a_RS_addRight_28 (D : Nat) (c : mC) (Q : mQ) : mAt (mRun D) 125 28 c Q = mWp (mRun D) 125 0 (fun pc c => mAt (mRun D) 125 pc c Q) Q bk_RS_addRight_28 c := mAt_blk rfl
theorem a_RS_addRight_38 (D : Nat) (c : mC) (Q : mQ) : mAt (mRun D) 125 38 c Q = mWp (mRun D) 125 0 (fun pc c => mAt (mRun D) 125 pc c Q) Q bk_RS_addRight_38 c := mAt_blk rfl
theorem a_RS_addRight_60 (D : Nat) (c : mC) (Q : mQ) : mAt (mRun D) 125 60 c Q = mWp (mRun D) 125 0 (fun pc c => mAt (mRun D) 125 pc c Q) Q bk_RS_addRight_60 c := mAt_blk rfl
theorem e_RS_setAsk (D : Nat) (x0 x1 x2 x3 x4 : mV) (I : mN) (S : mH) (Q : mQ) (h : mCs [x0, x1, x2, x3, x4] ≤ 5) : mRun (D + 1) 126 [x0, x1, x2, x3, x4] I S Q = mAt (mRun D) 126 0 ([some x0, some x1, some x2, some x3, some x4, none], [], I, S) Q := propext ⟨fun z => z.2, fun z => ⟨⟨h, Nat.le_of_ble_eq_true rfl⟩, z⟩⟩
theorem a_RS_setAsk_0 (D : Nat) (c : mC) (Q : mQ) : mAt (mRun D) 126 0 c Q = mWp (mRun D) 126 24 (fun pc c => mAt (mRun D) 126 pc c Q) Q bk_RS_setAsk_0 c := mAt_blk rfl
theorem a_RS_setAsk_24 (D : Nat) (c : mC) (Q : mQ) : mAt (mRun D) 126 24 c Q = mWp (mRun D) 126 0 (fun pc c => mAt (mRun D) 126 pc c Q) Q bk_RS_setAsk_24 c := mAt_blk rfl
theorem a_RS_setAsk_34 (D : Nat) (c : mC) (Q : mQ) : mAt (mRun D) 126 34 c Q = mWp (mRun D) 126 60 (fun pc c => mAt (mRun D) 126 pc c Q) Q bk_RS_setAsk_34 c := mAt_blk rfl
theorem a_RS_setAsk_60 (D : Nat) (c : mC) (Q : mQ) : mAt (mRun D) 126 60 c Q = mWp (mRun D) 126 0 (fun pc c => mAt (mRun D) 126 pc c Q) Q bk_RS_setAsk_60 c := mAt_blk rfl
theorem a_RS_setAsk_70 (D : Nat) (c : mC) (Q : mQ) : mAt (mRun D) 126 70 c Q = mWp (mRun D) 126 0 (fun pc c => mAt (mRun D) 126 pc c Q) Q bk_RS_setAsk_70 c := mAt_blk rfl
theorem e_RS_setDecree (D : Nat) (x0 x1 : mV) (I : mN) (S : mH) (Q : mQ) (h : mCs [x0, x1] ≤ 2) : mRun (D + 1) 127 [x0, x1] I S Q = mAt (mRun D) 127 0 ([some x0, some x1], [], I, S) Q := propext ⟨fun z => z.2, fun z => ⟨⟨h, Nat.le_of_ble_eq_true rfl⟩, z⟩⟩
theorem a_RS_setDecree_0 (D : Nat) (c : mC) (Q : mQ) : mAt (mRun D) 127 0 c Q = mWp (mRun D) 127 0 (fun pc c => mAt (mRun D) 127 pc c Q) Q bk_RS_setDecree_0 c := mAt_blk rfl
theorem a_RS_setDecree_30 (D : Nat) (c : mC) (Q : mQ) : mAt (mRun D) 127 30 c Q = mWp (mRun D) 127 0 (fun pc c => mAt (mRun D) 127 pc c Q) Q bk_RS_setDecree_30 c := mAt_blk rfl
theorem a_RS_setDecree_50 (D : Nat) (c : mC) (Q : mQ) : mAt (mRun D) 127 50 c Q = mWp (mRun D) 127 0 (fun pc c => mAt (mRun D) 127 pc c Q) Q bk_RS_setDecree_50 c := mAt_blk rfl
theorem e_RS_abandon (D : Nat) (x0 x1 : mV) (I : mN) (S : mH) (Q : mQ) (h : mCs [x0, x1] ≤ 2) : mRun (D + 1) 128 [x0, x1] I S Q = mAt (mRun D) 128 0 ([some x0, some x1, none], [], I, S) Q := propext ⟨fun z => z.2, fun z => ⟨⟨h, Nat.le_of_ble_eq_true rfl⟩, z⟩⟩
theorem a_RS_abandon_0 (D : Nat) (c : mC) (Q : mQ) : mAt (mRun D) 128 0 c Q = mWp (mRun D) 128 0 (fun pc c => mAt (mRun D) 128 pc c Q) Q bk_RS_abandon_0 c := mAt_blk rfl
theorem a_RS_abandon_30 (D : Nat) (c : mC) (Q : mQ) : mAt (mRun D) 128 30 c Q = mWp (mRun D) 128 0 (fun pc c => mAt (mRun D) 128 pc c Q) Q bk_RS_abandon_30 c := mAt_blk rfl
theorem e_RS_fund (D : Nat) (x0 x1 x2 : mV) (I : mN) (S : mH) (Q : mQ) (h : mCs [x0, x1, x2] ≤ 3) : mRun (D + 1) 129 [x0, x1, x2] I S Q = mAt (mRun D) 129 0 ([some x0, some x1, some x2, none], [], I, S) Q := propext ⟨fun z => z.2, fun z => ⟨⟨h, Nat.le_of_ble_eq_true rfl⟩, z⟩⟩
theorem a_RS_fund_0 (D : Nat) (c : mC) (Q : mQ) : mAt (mRun D) 129 0 c Q = mWp (mRun D) 129 0 (fun pc c => mAt (mRun D) 129 pc c Q) Q bk_RS_fund_0 c := mAt_blk rfl
theorem a_RS_fund_27 (D : Nat) (c : mC) (Q : mQ) : mAt (mRun D) 129 27 c Q = mWp (mRun D) 129 0 (fun pc c => mAt (mRun D) 129 pc c Q) Q bk_RS_fund_27 c := mAt_blk rfl
theorem a_RS_fund_60 (D : Nat) (c : mC) (Q : mQ) : mAt (mRun D) 129 60 c Q = mWp (mRun D) 129 0 (fun pc c => mAt (mRun D) 129 pc c Q) Q bk_RS_fund_60 c := mAt_blk rfl
theorem e_RS_lease (D : Nat) (x0 x1 x2 x3 x4 x5 : mV) (I : mN) (S : mH) (Q : mQ) (h : mCs [x0, x1, x2, x3, x4, x5] ≤ 6) : mRun (D + 1) 130 [x0, x1, x2, x3, x4, x5] I S Q = mAt (mRun D) 130 0 ([some x0, some x1, some x2, some x3, some x4, some x5], [], I, S) Q := propext ⟨fun z => z.2, fun z => ⟨⟨h, Nat.le_of_ble_eq_true rfl⟩, z⟩⟩
theorem a_RS_lease_0 (D : Nat) (c : mC) (Q : mQ) : mAt (mRun D) 130 0 c Q = mWp (mRun D) 130 0 (fun pc c => mAt (mRun D) 130 pc c Q) Q bk_RS_lease_0 c := mAt_blk rfl
theorem a_RS_lease_37 (D : Nat) (c : mC) (Q : mQ) : mAt (mRun D) 130 37 c Q = mWp (mRun D) 130 0 (fun pc c => mAt (mRun D) 130 pc c Q) Q bk_RS_lease_37 c := mAt_blk rfl
theorem e_RS_setInflow (D : Nat) (x0 x1 x2 x3 x4 : mV) (I : mN) (S : mH) (Q : mQ) (h : mCs [x0, x1, x2, x3, x4] ≤ 5) : mRun (D + 1) 131 [x0, x1, x2, x3, x4] I S Q = mAt (mRun D) 131 0 ([some x0, some x1, some x2, some x3, some x4, none], [], I, S) Q := propext ⟨fun z => z.2, fun z => ⟨⟨h, Nat.le_of_ble_eq_true rfl⟩, z⟩⟩
theorem a_RS_setInflow_0 (D : Nat) (c : mC) (Q : mQ) : mAt (mRun D) 131 0 c Q = mWp (mRun D) 131 28 (fun pc c => mAt (mRun D) 131 pc c Q) Q bk_RS_setInflow_0 c := mAt_blk rfl
theorem a_RS_setInflow_28 (D : Nat) (c : mC) (Q : mQ) : mAt (mRun D) 131 28 c Q = mWp (mRun D) 131 0 (fun pc c => mAt (mRun D) 131 pc c Q) Q bk_RS_setInflow_28 c := mAt_blk rfl
theorem a_RS_setInflow_39 (D : Nat) (c : mC) (Q : mQ) : mAt (mRun D) 131 39 c Q = mWp (mRun D) 131 0 (fun pc c => mAt (mRun D) 131 pc c Q) Q bk_RS_setInflow_39 c := mAt_blk rfl
theorem e_RS_gauge (D : Nat) (x0 x1 x2 : mV) (I : mN) (S : mH) (Q : mQ) (h : mCs [x0, x1, x2] ≤ 3) : mRun (D + 1) 132 [x0, x1, x2] I S Q = mAt (mRun D) 132 0 ([some x0, some x1, some x2, none, none, none, none], [], I, S) Q := propext ⟨fun z => z.2, fun z => ⟨⟨h, Nat.le_of_ble_eq_true rfl⟩, z⟩⟩
theorem a_RS_gauge_0 (D : Nat) (c : mC) (Q : mQ) : mAt (mRun D) 132 0 c Q = mWp (mRun D) 132 0 (fun pc c => mAt (mRun D) 132 pc c Q) Q bk_RS_gauge_0 c := mAt_blk rfl
theorem a_RS_gauge_26 (D : Nat) (c : mC) (Q : mQ) : mAt (mRun D) 132 26 c Q = mWp (mRun D) 132 70 (fun pc c => mAt (mRun D) 132 pc c Q) Q bk_RS_gauge_26 c := mAt_blk rfl
theorem a_RS_gauge_70 (D : Nat) (c : mC) (Q : mQ) : mAt (mRun D) 132 70 c Q = mWp (mRun D) 132 0 (fun pc c => mAt (mRun D) 132 pc c Q) Q bk_RS_gauge_70 c := mAt_blk rfl
theorem a_RS_gauge_96 (D : Nat) (c : mC) (Q : mQ) : mAt (mRun D) 132 96 c Q = mWp (mRun D) 132 0 (fun pc c => mAt (mRun D) 132 pc c Q) Q bk_RS_gauge_96 c := mAt_blk rfl
theorem e_RS_measure (D : Nat) (x0 x1 x2 : mV) (I : mN) (S : mH) (Q : mQ) (h : mCs [x0, x1, x2] ≤ 3) : mRun (D + 1) 133 [x0, x1, x2] I S Q = mAt (mRun D) 133 0 ([some x0, some x1, some x2, none, none], [], I, S) Q := propext ⟨fun z => z.2, fun z => ⟨⟨h, Nat.le_of_ble_eq_true rfl⟩, z⟩⟩
theorem a_RS_measure_0 (D : Nat) (c : mC) (Q : mQ) : mAt (mRun D) 133 0 c Q = mWp (mRun D) 133 0 (fun pc c => mAt (mRun D) 133 pc c Q) Q bk_RS_measure_0 c := mAt_blk rfl
theorem a_RS_measure_36 (D : Nat) (c : mC) (Q : mQ) : mAt (mRun D) 133 36 c Q = mWp (mRun D) 133 0 (fun pc c => mAt (mRun D) 133 pc c Q) Q bk_RS_measure_36 c := mAt_blk rfl
theorem e_RS_passWeek (D : Nat) (x0 : mV) (I : mN) (S : mH) (Q : mQ) (h : mCs [x0] ≤ 1) : mRun (D + 1) 134 [x0] I S Q = mAt (mRun D) 134 0 ([some x0, none, none, none], [], I, S) Q := propext ⟨fun z => z.2, fun z => ⟨⟨h, Nat.le_of_ble_eq_true rfl⟩, z⟩⟩
theorem a_RS_passWeek_0 (D : Nat) (c : mC) (Q : mQ) : mAt (mRun D) 134 0 c Q = mWp (mRun D) 134 29 (fun pc c => mAt (mRun D) 134 pc c Q) Q bk_RS_passWeek_0 c := mAt_blk rfl
theorem a_RS_passWeek_29 (D : Nat) (c : mC) (Q : mQ) : mAt (mRun D) 134 29 c Q = mWp (mRun D) 134 0 (fun pc c => mAt (mRun D) 134 pc c Q) Q bk_RS_passWeek_29 c := mAt_blk rfl
theorem a_RS_passWeek_64 (D : Nat) (c : mC) (Q : mQ) : mAt (mRun D) 134 64 c Q = mWp (mRun D) 134 0 (fun pc c => mAt (mRun D) 134 pc c Q) Q bk_RS_passWeek_64 c := mAt_blk rfl
theorem e_RS_undo (D : Nat) (x0 : mV) (I : mN) (S : mH) (Q : mQ) (h : mCs [x0] ≤ 1) : mRun (D + 1) 135 [x0] I S Q = mAt (mRun D) 135 0 ([some x0, none, none], [], I, S) Q := propext ⟨fun z => z.2, fun z => ⟨⟨h, Nat.le_of_ble_eq_true rfl⟩, z⟩⟩
theorem a_RS_undo_0 (D : Nat) (c : mC) (Q : mQ) : mAt (mRun D) 135 0 c Q = mWp (mRun D) 135 0 (fun pc c => mAt (mRun D) 135 pc c Q) Q bk_RS_undo_0 c := mAt_blk rfl
theorem a_RS_undo_19 (D : Nat) (c : mC) (Q : mQ) : mAt (mRun D) 135 19 c Q = mWp (mRun D) 135 0 (fun pc c => mAt (mRun D) 135 pc c Q) Q bk_RS_undo_19 c := mAt_blk rfl
theorem e_RS_redo (D : Nat) (x0 : mV) (I : mN) (S : mH) (Q : mQ) (h : mCs [x0] ≤ 1) : mRun (D + 1) 136 [x0] I S Q = mAt (mRun D) 136 0 ([some x0, none, none], [], I, S) Q := propext ⟨fun z => z.2, fun z => ⟨⟨h, Nat.le_of_ble_eq_true rfl⟩, z⟩⟩
theorem a_RS_redo_0 (D : Nat) (c : mC) (Q : mQ) : mAt (mRun D) 136 0 c Q = mWp (mRun D) 136 0 (fun pc c => mAt (mRun D) 136 pc c Q) Q bk_RS_redo_0 c := mAt_blk rfl
theorem a_RS_redo_19 (D : Nat) (c : mC) (Q : mQ) : mAt (mRun D) 136 19 c Q = mWp (mRun D) 136 0 (fun pc c => mAt (mRun D) 136 pc c Q) Q bk_RS_redo_19 c := mAt_blk rfl
theorem e_RS_createBranch (D : Nat) (x0 : mV) (I : mN) (S : mH) (Q : mQ) (h : mCs [x0] ≤ 1) : mRun (D + 1) 137 [x0] I S Q = mAt (mRun D) 137 0 ([some x0], [], I, S) Q := propext ⟨fun z => z.2, fun z => ⟨⟨h, Nat.le_of_ble_eq_true rfl⟩, z⟩⟩
theorem a_RS_createBranch_0 (D : Nat) (c : mC) (Q : mQ) : mAt (mRun D) 137 0 c Q = mWp (mRun D) 137 0 (fun pc c => mAt (mRun D) 137 pc c Q) Q bk_RS_createBranch_0 c := mAt_blk rfl
theorem a_RS_createBranch_19 (D : Nat) (c : mC) (Q : mQ) : mAt (mRun D) 137 19 c Q = mWp (mRun D) 137 0 (fun pc c => mAt (mRun D) 137 pc c Q) Q bk_RS_createBranch_19 c := mAt_blk rfl
theorem e_RS_switchBranch (D : Nat) (x0 x1 : mV) (I : mN) (S : mH) (Q : mQ) (h : mCs [x0, x1] ≤ 2) : mRun (D + 1) 138 [x0, x1] I S Q = mAt (mRun D) 138 0 ([some x0, some x1, none], [], I, S) Q := propext ⟨fun z => z.2, fun z => ⟨⟨h, Nat.le_of_ble_eq_true rfl⟩, z⟩⟩
theorem a_RS_switchBranch_0 (D : Nat) (c : mC) (Q : mQ) : mAt (mRun D) 138 0 c Q = mWp (mRun D) 138 0 (fun pc c => mAt (mRun D) 138 pc c Q) Q bk_RS_switchBranch_0 c := mAt_blk rfl
theorem e_RS_difference (D : Nat) (x0 x1 : mV) (I : mN) (S : mH) (Q : mQ) (h : mCs [x0, x1] ≤ 2) : mRun (D + 1) 139 [x0, x1] I S Q = mAt (mRun D) 139 0 ([some x0, some x1, none, none, none, none, none], [], I, S) Q := propext ⟨fun z => z.2, fun z => ⟨⟨h, Nat.le_of_ble_eq_true rfl⟩, z⟩⟩
theorem a_RS_difference_0 (D : Nat) (c : mC) (Q : mQ) : mAt (mRun D) 139 0 c Q = mWp (mRun D) 139 44 (fun pc c => mAt (mRun D) 139 pc c Q) Q bk_RS_difference_0 c := mAt_blk rfl
theorem a_RS_difference_44 (D : Nat) (c : mC) (Q : mQ) : mAt (mRun D) 139 44 c Q = mWp (mRun D) 139 54 (fun pc c => mAt (mRun D) 139 pc c Q) Q bk_RS_difference_44 c := mAt_blk rfl
theorem a_RS_difference_54 (D : Nat) (c : mC) (Q : mQ) : mAt (mRun D) 139 54 c Q = mWp (mRun D) 139 85 (fun pc c => mAt (mRun D) 139 pc c Q) Q bk_RS_difference_54 c := mAt_blk rfl
theorem a_RS_difference_85 (D : Nat) (c : mC) (Q : mQ) : mAt (mRun D) 139 85 c Q = mWp (mRun D) 139 0 (fun pc c => mAt (mRun D) 139 pc c Q) Q bk_RS_difference_85 c := mAt_blk rfl
theorem a_RS_difference_91 (D : Nat) (c : mC) (Q : mQ) : mAt (mRun D) 139 91 c Q = mWp (mRun D) 139 0 (fun pc c => mAt (mRun D) 139 pc c Q) Q bk_RS_difference_91 c := mAt_blk rfl
theorem a_RS_difference_97 (D : Nat) (c : mC) (Q : mQ) : mAt (mRun D) 139 97 c Q = mWp (mRun D) 139 0 (fun pc c => mAt (mRun D) 139 pc c Q) Q bk_RS_difference_97 c := mAt_blk rfl
theorem e_RS_today (D : Nat) (x0 : mV) (I : mN) (S : mH) (Q : mQ) (h : mCs [x0] ≤ 1) : mRun (D + 1) 140 [x0] I S Q = mAt (mRun D) 140 0 ([some x0], [], I, S) Q := propext ⟨fun z => z.2, fun z => ⟨⟨h, Nat.le_of_ble_eq_true rfl⟩, z⟩⟩
theorem a_RS_today_0 (D : Nat) (c : mC) (Q : mQ) : mAt (mRun D) 140 0 c Q = mWp (mRun D) 140 0 (fun pc c => mAt (mRun D) 140 pc c Q) Q bk_RS_today_0 c := mAt_blk rfl
theorem e_RS_placeCount (D : Nat) (x0 : mV) (I : mN) (S : mH) (Q : mQ) (h : mCs [x0] ≤ 1) : mRun (D + 1) 141 [x0] I S Q = mAt (mRun D) 141 0 ([some x0], [], I, S) Q := propext ⟨fun z => z.2, fun z => ⟨⟨h, Nat.le_of_ble_eq_true rfl⟩, z⟩⟩
theorem a_RS_placeCount_0 (D : Nat) (c : mC) (Q : mQ) : mAt (mRun D) 141 0 c Q = mWp (mRun D) 141 0 (fun pc c => mAt (mRun D) 141 pc c Q) Q bk_RS_placeCount_0 c := mAt_blk rfl
theorem e_RS_reachCount (D : Nat) (x0 : mV) (I : mN) (S : mH) (Q : mQ) (h : mCs [x0] ≤ 1) : mRun (D + 1) 142 [x0] I S Q = mAt (mRun D) 142 0 ([some x0], [], I, S) Q := propext ⟨fun z => z.2, fun z => ⟨⟨h, Nat.le_of_ble_eq_true rfl⟩, z⟩⟩
theorem a_RS_reachCount_0 (D : Nat) (c : mC) (Q : mQ) : mAt (mRun D) 142 0 c Q = mWp (mRun D) 142 0 (fun pc c => mAt (mRun D) 142 pc c Q) Q bk_RS_reachCount_0 c := mAt_blk rfl
theorem e_RS_rightCount (D : Nat) (x0 : mV) (I : mN) (S : mH) (Q : mQ) (h : mCs [x0] ≤ 1) : mRun (D + 1) 143 [x0] I S Q = mAt (mRun D) 143 0 ([some x0], [], I, S) Q := propext ⟨fun z => z.2, fun z => ⟨⟨h, Nat.le_of_ble_eq_true rfl⟩, z⟩⟩
theorem a_RS_rightCount_0 (D : Nat) (c : mC) (Q : mQ) : mAt (mRun D) 143 0 c Q = mWp (mRun D) 143 0 (fun pc c => mAt (mRun D) 143 pc c Q) Q bk_RS_rightCount_0 c := mAt_blk rfl
theorem e_RS_capacityAt (D : Nat) (x0 x1 x2 : mV) (I : mN) (S : mH) (Q : mQ) (h : mCs [x0, x1, x2] ≤ 3) : mRun (D + 1) 144 [x0, x1, x2] I S Q = mAt (mRun D) 144 0 ([some x0, some x1, some x2], [], I, S) Q := propext ⟨fun z => z.2, fun z => ⟨⟨h, Nat.le_of_ble_eq_true rfl⟩, z⟩⟩
theorem a_RS_capacityAt_0 (D : Nat) (c : mC) (Q : mQ) : mAt (mRun D) 144 0 c Q = mWp (mRun D) 144 0 (fun pc c => mAt (mRun D) 144 pc c Q) Q bk_RS_capacityAt_0 c := mAt_blk rfl
theorem e_RS_inflowAt (D : Nat) (x0 x1 x2 x3 : mV) (I : mN) (S : mH) (Q : mQ) (h : mCs [x0, x1, x2, x3] ≤ 4) : mRun (D + 1) 145 [x0, x1, x2, x3] I S Q = mAt (mRun D) 145 0 ([some x0, some x1, some x2, some x3], [], I, S) Q := propext ⟨fun z => z.2, fun z => ⟨⟨h, Nat.le_of_ble_eq_true rfl⟩, z⟩⟩
theorem a_RS_inflowAt_0 (D : Nat) (c : mC) (Q : mQ) : mAt (mRun D) 145 0 c Q = mWp (mRun D) 145 0 (fun pc c => mAt (mRun D) 145 pc c Q) Q bk_RS_inflowAt_0 c := mAt_blk rfl
theorem e_RS_askedAt (D : Nat) (x0 x1 x2 x3 : mV) (I : mN) (S : mH) (Q : mQ) (h : mCs [x0, x1, x2, x3] ≤ 4) : mRun (D + 1) 146 [x0, x1, x2, x3] I S Q = mAt (mRun D) 146 0 ([some x0, some x1, some x2, some x3], [], I, S) Q := propext ⟨fun z => z.2, fun z => ⟨⟨h, Nat.le_of_ble_eq_true rfl⟩, z⟩⟩
theorem a_RS_askedAt_0 (D : Nat) (c : mC) (Q : mQ) : mAt (mRun D) 146 0 c Q = mWp (mRun D) 146 0 (fun pc c => mAt (mRun D) 146 pc c Q) Q bk_RS_askedAt_0 c := mAt_blk rfl
theorem e_RS_decreeValue (D : Nat) (x0 x1 x2 x3 : mV) (I : mN) (S : mH) (Q : mQ) (h : mCs [x0, x1, x2, x3] ≤ 4) : mRun (D + 1) 147 [x0, x1, x2, x3] I S Q = mAt (mRun D) 147 0 ([some x0, some x1, some x2, some x3], [], I, S) Q := propext ⟨fun z => z.2, fun z => ⟨⟨h, Nat.le_of_ble_eq_true rfl⟩, z⟩⟩
theorem a_RS_decreeValue_0 (D : Nat) (c : mC) (Q : mQ) : mAt (mRun D) 147 0 c Q = mWp (mRun D) 147 0 (fun pc c => mAt (mRun D) 147 pc c Q) Q bk_RS_decreeValue_0 c := mAt_blk rfl
theorem a_RS_decreeValue_41 (D : Nat) (c : mC) (Q : mQ) : mAt (mRun D) 147 41 c Q = mWp (mRun D) 147 0 (fun pc c => mAt (mRun D) 147 pc c Q) Q bk_RS_decreeValue_41 c := mAt_blk rfl
theorem e_RS_rankOf (D : Nat) (x0 x1 : mV) (I : mN) (S : mH) (Q : mQ) (h : mCs [x0, x1] ≤ 2) : mRun (D + 1) 148 [x0, x1] I S Q = mAt (mRun D) 148 0 ([some x0, some x1], [], I, S) Q := propext ⟨fun z => z.2, fun z => ⟨⟨h, Nat.le_of_ble_eq_true rfl⟩, z⟩⟩
theorem a_RS_rankOf_0 (D : Nat) (c : mC) (Q : mQ) : mAt (mRun D) 148 0 c Q = mWp (mRun D) 148 0 (fun pc c => mAt (mRun D) 148 pc c Q) Q bk_RS_rankOf_0 c := mAt_blk rfl
theorem e_RS_lessorOf (D : Nat) (x0 x1 : mV) (I : mN) (S : mH) (Q : mQ) (h : mCs [x0, x1] ≤ 2) : mRun (D + 1) 149 [x0, x1] I S Q = mAt (mRun D) 149 0 ([some x0, some x1], [], I, S) Q := propext ⟨fun z => z.2, fun z => ⟨⟨h, Nat.le_of_ble_eq_true rfl⟩, z⟩⟩
theorem a_RS_lessorOf_0 (D : Nat) (c : mC) (Q : mQ) : mAt (mRun D) 149 0 c Q = mWp (mRun D) 149 0 (fun pc c => mAt (mRun D) 149 pc c Q) Q bk_RS_lessorOf_0 c := mAt_blk rfl
theorem e_RS_balance (D : Nat) (x0 x1 : mV) (I : mN) (S : mH) (Q : mQ) (h : mCs [x0, x1] ≤ 2) : mRun (D + 1) 150 [x0, x1] I S Q = mAt (mRun D) 150 0 ([some x0, some x1], [], I, S) Q := propext ⟨fun z => z.2, fun z => ⟨⟨h, Nat.le_of_ble_eq_true rfl⟩, z⟩⟩
theorem a_RS_balance_0 (D : Nat) (c : mC) (Q : mQ) : mAt (mRun D) 150 0 c Q = mWp (mRun D) 150 0 (fun pc c => mAt (mRun D) 150 pc c Q) Q bk_RS_balance_0 c := mAt_blk rfl
theorem e_RS_amountAt (D : Nat) (x0 x1 x2 x3 : mV) (I : mN) (S : mH) (Q : mQ) (h : mCs [x0, x1, x2, x3] ≤ 4) : mRun (D + 1) 151 [x0, x1, x2, x3] I S Q = mAt (mRun D) 151 0 ([some x0, some x1, some x2, some x3], [], I, S) Q := propext ⟨fun z => z.2, fun z => ⟨⟨h, Nat.le_of_ble_eq_true rfl⟩, z⟩⟩
theorem a_RS_amountAt_0 (D : Nat) (c : mC) (Q : mQ) : mAt (mRun D) 151 0 c Q = mWp (mRun D) 151 0 (fun pc c => mAt (mRun D) 151 pc c Q) Q bk_RS_amountAt_0 c := mAt_blk rfl
theorem e_RS_total (D : Nat) (x0 x1 : mV) (I : mN) (S : mH) (Q : mQ) (h : mCs [x0, x1] ≤ 2) : mRun (D + 1) 152 [x0, x1] I S Q = mAt (mRun D) 152 0 ([some x0, some x1], [], I, S) Q := propext ⟨fun z => z.2, fun z => ⟨⟨h, Nat.le_of_ble_eq_true rfl⟩, z⟩⟩
theorem a_RS_total_0 (D : Nat) (c : mC) (Q : mQ) : mAt (mRun D) 152 0 c Q = mWp (mRun D) 152 0 (fun pc c => mAt (mRun D) 152 pc c Q) Q bk_RS_total_0 c := mAt_blk rfl
theorem e_RS_shortage (D : Nat) (x0 x1 x2 : mV) (I : mN) (S : mH) (Q : mQ) (h : mCs [x0, x1, x2] ≤ 3) : mRun (D + 1) 153 [x0, x1, x2] I S Q = mAt (mRun D) 153 0 ([some x0, some x1, some x2], [], I, S) Q := propext ⟨fun z => z.2, fun z => ⟨⟨h, Nat.le_of_ble_eq_true rfl⟩, z⟩⟩
theorem a_RS_shortage_0 (D : Nat) (c : mC) (Q : mQ) : mAt (mRun D) 153 0 c Q = mWp (mRun D) 153 0 (fun pc c => mAt (mRun D) 153 pc c Q) Q bk_RS_shortage_0 c := mAt_blk rfl
theorem e_RS_sent (D : Nat) (x0 x1 x2 : mV) (I : mN) (S : mH) (Q : mQ) (h : mCs [x0, x1, x2] ≤ 3) : mRun (D + 1) 154 [x0, x1, x2] I S Q = mAt (mRun D) 154 0 ([some x0, some x1, some x2], [], I, S) Q := propext ⟨fun z => z.2, fun z => ⟨⟨h, Nat.le_of_ble_eq_true rfl⟩, z⟩⟩
theorem a_RS_sent_0 (D : Nat) (c : mC) (Q : mQ) : mAt (mRun D) 154 0 c Q = mWp (mRun D) 154 0 (fun pc c => mAt (mRun D) 154 pc c Q) Q bk_RS_sent_0 c := mAt_blk rfl
theorem e_RS_storageAt (D : Nat) (x0 x1 x2 : mV) (I : mN) (S : mH) (Q : mQ) (h : mCs [x0, x1, x2] ≤ 3) : mRun (D + 1) 155 [x0, x1, x2] I S Q = mAt (mRun D) 155 0 ([some x0, some x1, some x2], [], I, S) Q := propext ⟨fun z => z.2, fun z => ⟨⟨h, Nat.le_of_ble_eq_true rfl⟩, z⟩⟩
theorem a_RS_storageAt_0 (D : Nat) (c : mC) (Q : mQ) : mAt (mRun D) 155 0 c Q = mWp (mRun D) 155 0 (fun pc c => mAt (mRun D) 155 pc c Q) Q bk_RS_storageAt_0 c := mAt_blk rfl
theorem a_RS_storageAt_26 (D : Nat) (c : mC) (Q : mQ) : mAt (mRun D) 155 26 c Q = mWp (mRun D) 155 0 (fun pc c => mAt (mRun D) 155 pc c Q) Q bk_RS_storageAt_26 c := mAt_blk rfl
theorem e_RS_runOff (D : Nat) (x0 x1 x2 : mV) (I : mN) (S : mH) (Q : mQ) (h : mCs [x0, x1, x2] ≤ 3) : mRun (D + 1) 156 [x0, x1, x2] I S Q = mAt (mRun D) 156 0 ([some x0, some x1, some x2], [], I, S) Q := propext ⟨fun z => z.2, fun z => ⟨⟨h, Nat.le_of_ble_eq_true rfl⟩, z⟩⟩
theorem a_RS_runOff_0 (D : Nat) (c : mC) (Q : mQ) : mAt (mRun D) 156 0 c Q = mWp (mRun D) 156 0 (fun pc c => mAt (mRun D) 156 pc c Q) Q bk_RS_runOff_0 c := mAt_blk rfl
theorem e_RS_changedAmounts (D : Nat) (x0 : mV) (I : mN) (S : mH) (Q : mQ) (h : mCs [x0] ≤ 1) : mRun (D + 1) 157 [x0] I S Q = mAt (mRun D) 157 0 ([some x0], [], I, S) Q := propext ⟨fun z => z.2, fun z => ⟨⟨h, Nat.le_of_ble_eq_true rfl⟩, z⟩⟩
theorem a_RS_changedAmounts_0 (D : Nat) (c : mC) (Q : mQ) : mAt (mRun D) 157 0 c Q = mWp (mRun D) 157 0 (fun pc c => mAt (mRun D) 157 pc c Q) Q bk_RS_changedAmounts_0 c := mAt_blk rfl
theorem e_RS_witnessSize (D : Nat) (x0 x1 x2 : mV) (I : mN) (S : mH) (Q : mQ) (h : mCs [x0, x1, x2] ≤ 3) : mRun (D + 1) 158 [x0, x1, x2] I S Q = mAt (mRun D) 158 0 ([some x0, some x1, some x2, none, none], [], I, S) Q := propext ⟨fun z => z.2, fun z => ⟨⟨h, Nat.le_of_ble_eq_true rfl⟩, z⟩⟩
theorem a_RS_witnessSize_0 (D : Nat) (c : mC) (Q : mQ) : mAt (mRun D) 158 0 c Q = mWp (mRun D) 158 24 (fun pc c => mAt (mRun D) 158 pc c Q) Q bk_RS_witnessSize_0 c := mAt_blk rfl
theorem a_RS_witnessSize_24 (D : Nat) (c : mC) (Q : mQ) : mAt (mRun D) 158 24 c Q = mWp (mRun D) 158 47 (fun pc c => mAt (mRun D) 158 pc c Q) Q bk_RS_witnessSize_24 c := mAt_blk rfl
theorem a_RS_witnessSize_47 (D : Nat) (c : mC) (Q : mQ) : mAt (mRun D) 158 47 c Q = mWp (mRun D) 158 0 (fun pc c => mAt (mRun D) 158 pc c Q) Q bk_RS_witnessSize_47 c := mAt_blk rfl
theorem a_RS_witnessSize_53 (D : Nat) (c : mC) (Q : mQ) : mAt (mRun D) 158 53 c Q = mWp (mRun D) 158 0 (fun pc c => mAt (mRun D) 158 pc c Q) Q bk_RS_witnessSize_53 c := mAt_blk rfl
theorem e_RS_markWitness (D : Nat) (x0 x1 x2 : mV) (I : mN) (S : mH) (Q : mQ) (h : mCs [x0, x1, x2] ≤ 3) : mRun (D + 1) 159 [x0, x1, x2] I S Q = mAt (mRun D) 159 0 ([some x0, some x1, some x2, none], [], I, S) Q := propext ⟨fun z => z.2, fun z => ⟨⟨h, Nat.le_of_ble_eq_true rfl⟩, z⟩⟩
theorem a_RS_markWitness_0 (D : Nat) (c : mC) (Q : mQ) : mAt (mRun D) 159 0 c Q = mWp (mRun D) 159 21 (fun pc c => mAt (mRun D) 159 pc c Q) Q bk_RS_markWitness_0 c := mAt_blk rfl
theorem a_RS_markWitness_21 (D : Nat) (c : mC) (Q : mQ) : mAt (mRun D) 159 21 c Q = mWp (mRun D) 159 0 (fun pc c => mAt (mRun D) 159 pc c Q) Q bk_RS_markWitness_21 c := mAt_blk rfl
theorem a_RS_markWitness_48 (D : Nat) (c : mC) (Q : mQ) : mAt (mRun D) 159 48 c Q = mWp (mRun D) 159 0 (fun pc c => mAt (mRun D) 159 pc c Q) Q bk_RS_markWitness_48 c := mAt_blk rfl
theorem e_RS_mark (D : Nat) (x0 x1 x2 x3 : mV) (I : mN) (S : mH) (Q : mQ) (h : mCs [x0, x1, x2, x3] ≤ 4) : mRun (D + 1) 160 [x0, x1, x2, x3] I S Q = mAt (mRun D) 160 0 ([some x0, some x1, some x2, some x3, none], [], I, S) Q := propext ⟨fun z => z.2, fun z => ⟨⟨h, Nat.le_of_ble_eq_true rfl⟩, z⟩⟩
theorem a_RS_mark_0 (D : Nat) (c : mC) (Q : mQ) : mAt (mRun D) 160 0 c Q = mWp (mRun D) 160 0 (fun pc c => mAt (mRun D) 160 pc c Q) Q bk_RS_mark_0 c := mAt_blk rfl
theorem e_RS_clearMarks (D : Nat) (x0 : mV) (I : mN) (S : mH) (Q : mQ) (h : mCs [x0] ≤ 1) : mRun (D + 1) 161 [x0] I S Q = mAt (mRun D) 161 0 ([some x0, none, none], [], I, S) Q := propext ⟨fun z => z.2, fun z => ⟨⟨h, Nat.le_of_ble_eq_true rfl⟩, z⟩⟩
theorem a_RS_clearMarks_0 (D : Nat) (c : mC) (Q : mQ) : mAt (mRun D) 161 0 c Q = mWp (mRun D) 161 4 (fun pc c => mAt (mRun D) 161 pc c Q) Q bk_RS_clearMarks_0 c := mAt_blk rfl
theorem a_RS_clearMarks_4 (D : Nat) (c : mC) (Q : mQ) : mAt (mRun D) 161 4 c Q = mWp (mRun D) 161 22 (fun pc c => mAt (mRun D) 161 pc c Q) Q bk_RS_clearMarks_4 c := mAt_blk rfl
theorem a_RS_clearMarks_22 (D : Nat) (c : mC) (Q : mQ) : mAt (mRun D) 161 22 c Q = mWp (mRun D) 161 0 (fun pc c => mAt (mRun D) 161 pc c Q) Q bk_RS_clearMarks_22 c := mAt_blk rfl
theorem a_RS_clearMarks_35 (D : Nat) (c : mC) (Q : mQ) : mAt (mRun D) 161 35 c Q = mWp (mRun D) 161 0 (fun pc c => mAt (mRun D) 161 pc c Q) Q bk_RS_clearMarks_35 c := mAt_blk rfl
theorem e_RS_isMarked (D : Nat) (x0 x1 x2 : mV) (I : mN) (S : mH) (Q : mQ) (h : mCs [x0, x1, x2] ≤ 3) : mRun (D + 1) 162 [x0, x1, x2] I S Q = mAt (mRun D) 162 0 ([some x0, some x1, some x2], [], I, S) Q := propext ⟨fun z => z.2, fun z => ⟨⟨h, Nat.le_of_ble_eq_true rfl⟩, z⟩⟩
theorem a_RS_isMarked_0 (D : Nat) (c : mC) (Q : mQ) : mAt (mRun D) 162 0 c Q = mWp (mRun D) 162 0 (fun pc c => mAt (mRun D) 162 pc c Q) Q bk_RS_isMarked_0 c := mAt_blk rfl
theorem e_RS_waterIntoMarks (D : Nat) (x0 : mV) (I : mN) (S : mH) (Q : mQ) (h : mCs [x0] ≤ 1) : mRun (D + 1) 163 [x0] I S Q = mAt (mRun D) 163 0 ([some x0], [], I, S) Q := propext ⟨fun z => z.2, fun z => ⟨⟨h, Nat.le_of_ble_eq_true rfl⟩, z⟩⟩
theorem a_RS_waterIntoMarks_0 (D : Nat) (c : mC) (Q : mQ) : mAt (mRun D) 163 0 c Q = mWp (mRun D) 163 0 (fun pc c => mAt (mRun D) 163 pc c Q) Q bk_RS_waterIntoMarks_0 c := mAt_blk rfl
theorem e_RS_takenInMarks (D : Nat) (x0 x1 x2 : mV) (I : mN) (S : mH) (Q : mQ) (h : mCs [x0, x1, x2] ≤ 3) : mRun (D + 1) 164 [x0, x1, x2] I S Q = mAt (mRun D) 164 0 ([some x0, some x1, some x2], [], I, S) Q := propext ⟨fun z => z.2, fun z => ⟨⟨h, Nat.le_of_ble_eq_true rfl⟩, z⟩⟩
theorem a_RS_takenInMarks_0 (D : Nat) (c : mC) (Q : mQ) : mAt (mRun D) 164 0 c Q = mWp (mRun D) 164 0 (fun pc c => mAt (mRun D) 164 pc c Q) Q bk_RS_takenInMarks_0 c := mAt_blk rfl
theorem e_RS_helpedRight (D : Nat) (x0 x1 x2 : mV) (I : mN) (S : mH) (Q : mQ) (h : mCs [x0, x1, x2] ≤ 3) : mRun (D + 1) 165 [x0, x1, x2] I S Q = mAt (mRun D) 165 0 ([some x0, some x1, some x2, none, none], [], I, S) Q := propext ⟨fun z => z.2, fun z => ⟨⟨h, Nat.le_of_ble_eq_true rfl⟩, z⟩⟩
theorem a_RS_helpedRight_0 (D : Nat) (c : mC) (Q : mQ) : mAt (mRun D) 165 0 c Q = mWp (mRun D) 165 59 (fun pc c => mAt (mRun D) 165 pc c Q) Q bk_RS_helpedRight_0 c := mAt_blk rfl
theorem a_RS_helpedRight_59 (D : Nat) (c : mC) (Q : mQ) : mAt (mRun D) 165 59 c Q = mWp (mRun D) 165 0 (fun pc c => mAt (mRun D) 165 pc c Q) Q bk_RS_helpedRight_59 c := mAt_blk rfl
theorem a_RS_helpedRight_99 (D : Nat) (c : mC) (Q : mQ) : mAt (mRun D) 165 99 c Q = mWp (mRun D) 165 0 (fun pc c => mAt (mRun D) 165 pc c Q) Q bk_RS_helpedRight_99 c := mAt_blk rfl
theorem a_RS_helpedRight_105 (D : Nat) (c : mC) (Q : mQ) : mAt (mRun D) 165 105 c Q = mWp (mRun D) 165 0 (fun pc c => mAt (mRun D) 165 pc c Q) Q bk_RS_helpedRight_105 c := mAt_blk rfl
theorem e_RS_closureCost (D : Nat) (x0 x1 x2 : mV) (I : mN) (S : mH) (Q : mQ) (h : mCs [x0, x1, x2] ≤ 3) : mRun (D + 1) 166 [x0, x1, x2] I S Q = mAt (mRun D) 166 0 ([some x0, some x1, some x2, none, none], [], I, S) Q := propext ⟨fun z => z.2, fun z => ⟨⟨h, Nat.le_of_ble_eq_true rfl⟩, z⟩⟩
theorem a_RS_closureCost_0 (D : Nat) (c : mC) (Q : mQ) : mAt (mRun D) 166 0 c Q = mWp (mRun D) 166 59 (fun pc c => mAt (mRun D) 166 pc c Q) Q bk_RS_closureCost_0 c := mAt_blk rfl
theorem a_RS_closureCost_59 (D : Nat) (c : mC) (Q : mQ) : mAt (mRun D) 166 59 c Q = mWp (mRun D) 166 0 (fun pc c => mAt (mRun D) 166 pc c Q) Q bk_RS_closureCost_59 c := mAt_blk rfl
theorem a_RS_closureCost_113 (D : Nat) (c : mC) (Q : mQ) : mAt (mRun D) 166 113 c Q = mWp (mRun D) 166 0 (fun pc c => mAt (mRun D) 166 pc c Q) Q bk_RS_closureCost_113 c := mAt_blk rfl
theorem e_RS_harm (D : Nat) (x0 x1 x2 : mV) (I : mN) (S : mH) (Q : mQ) (h : mCs [x0, x1, x2] ≤ 3) : mRun (D + 1) 167 [x0, x1, x2] I S Q = mAt (mRun D) 167 0 ([some x0, some x1, some x2], [], I, S) Q := propext ⟨fun z => z.2, fun z => ⟨⟨h, Nat.le_of_ble_eq_true rfl⟩, z⟩⟩
theorem a_RS_harm_0 (D : Nat) (c : mC) (Q : mQ) : mAt (mRun D) 167 0 c Q = mWp (mRun D) 167 0 (fun pc c => mAt (mRun D) 167 pc c Q) Q bk_RS_harm_0 c := mAt_blk rfl
theorem a_RS_harm_26 (D : Nat) (c : mC) (Q : mQ) : mAt (mRun D) 167 26 c Q = mWp (mRun D) 167 0 (fun pc c => mAt (mRun D) 167 pc c Q) Q bk_RS_harm_26 c := mAt_blk rfl
theorem e_RS_injuredRight (D : Nat) (x0 x1 x2 x3 x4 x5 : mV) (I : mN) (S : mH) (Q : mQ) (h : mCs [x0, x1, x2, x3, x4, x5] ≤ 6) : mRun (D + 1) 168 [x0, x1, x2, x3, x4, x5] I S Q = mAt (mRun D) 168 0 ([some x0, some x1, some x2, some x3, some x4, some x5], [], I, S) Q := propext ⟨fun z => z.2, fun z => ⟨⟨h, Nat.le_of_ble_eq_true rfl⟩, z⟩⟩
theorem a_RS_injuredRight_0 (D : Nat) (c : mC) (Q : mQ) : mAt (mRun D) 168 0 c Q = mWp (mRun D) 168 0 (fun pc c => mAt (mRun D) 168 pc c Q) Q bk_RS_injuredRight_0 c := mAt_blk rfl
theorem e_RS_greatestLease (D : Nat) (x0 x1 x2 x3 x4 : mV) (I : mN) (S : mH) (Q : mQ) (h : mCs [x0, x1, x2, x3, x4] ≤ 5) : mRun (D + 1) 169 [x0, x1, x2, x3, x4] I S Q = mAt (mRun D) 169 0 ([some x0, some x1, some x2, some x3, some x4, none], [], I, S) Q := propext ⟨fun z => z.2, fun z => ⟨⟨h, Nat.le_of_ble_eq_true rfl⟩, z⟩⟩
theorem a_RS_greatestLease_0 (D : Nat) (c : mC) (Q : mQ) : mAt (mRun D) 169 0 c Q = mWp (mRun D) 169 0 (fun pc c => mAt (mRun D) 169 pc c Q) Q bk_RS_greatestLease_0 c := mAt_blk rfl
theorem a_RS_greatestLease_30 (D : Nat) (c : mC) (Q : mQ) : mAt (mRun D) 169 30 c Q = mWp (mRun D) 169 39 (fun pc c => mAt (mRun D) 169 pc c Q) Q bk_RS_greatestLease_30 c := mAt_blk rfl
theorem a_RS_greatestLease_39 (D : Nat) (c : mC) (Q : mQ) : mAt (mRun D) 169 39 c Q = mWp (mRun D) 169 0 (fun pc c => mAt (mRun D) 169 pc c Q) Q bk_RS_greatestLease_39 c := mAt_blk rfl
theorem a_RS_greatestLease_78 (D : Nat) (c : mC) (Q : mQ) : mAt (mRun D) 169 78 c Q = mWp (mRun D) 169 0 (fun pc c => mAt (mRun D) 169 pc c Q) Q bk_RS_greatestLease_78 c := mAt_blk rfl
theorem a_RS_greatestLease_84 (D : Nat) (c : mC) (Q : mQ) : mAt (mRun D) 169 84 c Q = mWp (mRun D) 169 0 (fun pc c => mAt (mRun D) 169 pc c Q) Q bk_RS_greatestLease_84 c := mAt_blk rfl
theorem e_RS_meanShortage (D : Nat) (x0 : mV) (I : mN) (S : mH) (Q : mQ) (h : mCs [x0] ≤ 1) : mRun (D + 1) 170 [x0] I S Q = mAt (mRun D) 170 0 ([some x0, none, none, none, none, none], [], I, S) Q := propext ⟨fun z => z.2, fun z => ⟨⟨h, Nat.le_of_ble_eq_true rfl⟩, z⟩⟩
theorem a_RS_meanShortage_0 (D : Nat) (c : mC) (Q : mQ) : mAt (mRun D) 170 0 c Q = mWp (mRun D) 170 0 (fun pc c => mAt (mRun D) 170 pc c Q) Q bk_RS_meanShortage_0 c := mAt_blk rfl
theorem a_RS_meanShortage_24 (D : Nat) (c : mC) (Q : mQ) : mAt (mRun D) 170 24 c Q = mWp (mRun D) 170 29 (fun pc c => mAt (mRun D) 170 pc c Q) Q bk_RS_meanShortage_24 c := mAt_blk rfl
theorem a_RS_meanShortage_29 (D : Nat) (c : mC) (Q : mQ) : mAt (mRun D) 170 29 c Q = mWp (mRun D) 170 44 (fun pc c => mAt (mRun D) 170 pc c Q) Q bk_RS_meanShortage_29 c := mAt_blk rfl
theorem a_RS_meanShortage_44 (D : Nat) (c : mC) (Q : mQ) : mAt (mRun D) 170 44 c Q = mWp (mRun D) 170 0 (fun pc c => mAt (mRun D) 170 pc c Q) Q bk_RS_meanShortage_44 c := mAt_blk rfl
theorem a_RS_meanShortage_68 (D : Nat) (c : mC) (Q : mQ) : mAt (mRun D) 170 68 c Q = mWp (mRun D) 170 0 (fun pc c => mAt (mRun D) 170 pc c Q) Q bk_RS_meanShortage_68 c := mAt_blk rfl
theorem a_RS_meanShortage_74 (D : Nat) (c : mC) (Q : mQ) : mAt (mRun D) 170 74 c Q = mWp (mRun D) 170 0 (fun pc c => mAt (mRun D) 170 pc c Q) Q bk_RS_meanShortage_74 c := mAt_blk rfl
theorem e_RS_servedShare (D : Nat) (x0 : mV) (I : mN) (S : mH) (Q : mQ) (h : mCs [x0] ≤ 1) : mRun (D + 1) 171 [x0] I S Q = mAt (mRun D) 171 0 ([some x0, none, none, none, none, none], [], I, S) Q := propext ⟨fun z => z.2, fun z => ⟨⟨h, Nat.le_of_ble_eq_true rfl⟩, z⟩⟩
theorem a_RS_servedShare_0 (D : Nat) (c : mC) (Q : mQ) : mAt (mRun D) 171 0 c Q = mWp (mRun D) 171 21 (fun pc c => mAt (mRun D) 171 pc c Q) Q bk_RS_servedShare_0 c := mAt_blk rfl
theorem a_RS_servedShare_21 (D : Nat) (c : mC) (Q : mQ) : mAt (mRun D) 171 21 c Q = mWp (mRun D) 171 43 (fun pc c => mAt (mRun D) 171 pc c Q) Q bk_RS_servedShare_21 c := mAt_blk rfl
theorem a_RS_servedShare_43 (D : Nat) (c : mC) (Q : mQ) : mAt (mRun D) 171 43 c Q = mWp (mRun D) 171 0 (fun pc c => mAt (mRun D) 171 pc c Q) Q bk_RS_servedShare_43 c := mAt_blk rfl
theorem a_RS_servedShare_72 (D : Nat) (c : mC) (Q : mQ) : mAt (mRun D) 171 72 c Q = mWp (mRun D) 171 0 (fun pc c => mAt (mRun D) 171 pc c Q) Q bk_RS_servedShare_72 c := mAt_blk rfl
theorem a_RS_servedShare_78 (D : Nat) (c : mC) (Q : mQ) : mAt (mRun D) 171 78 c Q = mWp (mRun D) 171 0 (fun pc c => mAt (mRun D) 171 pc c Q) Q bk_RS_servedShare_78 c := mAt_blk rfl
theorem a_RS_servedShare_84 (D : Nat) (c : mC) (Q : mQ) : mAt (mRun D) 171 84 c Q = mWp (mRun D) 171 0 (fun pc c => mAt (mRun D) 171 pc c Q) Q bk_RS_servedShare_84 c := mAt_blk rfl
theorem e_RS_errors (D : Nat) (x0 : mV) (I : mN) (S : mH) (Q : mQ) (h : mCs [x0] ≤ 1) : mRun (D + 1) 172 [x0] I S Q = mAt (mRun D) 172 0 ([some x0, none], [], I, S) Q := propext ⟨fun z => z.2, fun z => ⟨⟨h, Nat.le_of_ble_eq_true rfl⟩, z⟩⟩
theorem a_RS_errors_0 (D : Nat) (c : mC) (Q : mQ) : mAt (mRun D) 172 0 c Q = mWp (mRun D) 172 0 (fun pc c => mAt (mRun D) 172 pc c Q) Q bk_RS_errors_0 c := mAt_blk rfl
theorem e_RS_now (D : Nat) (x0 : mV) (I : mN) (S : mH) (Q : mQ) (h : mCs [x0] ≤ 1) : mRun (D + 1) 173 [x0] I S Q = mAt (mRun D) 173 0 ([some x0], [], I, S) Q := propext ⟨fun z => z.2, fun z => ⟨⟨h, Nat.le_of_ble_eq_true rfl⟩, z⟩⟩
theorem a_RS_now_0 (D : Nat) (c : mC) (Q : mQ) : mAt (mRun D) 173 0 c Q = mWp (mRun D) 173 0 (fun pc c => mAt (mRun D) 173 pc c Q) Q bk_RS_now_0 c := mAt_blk rfl
theorem e_RS_startChange (D : Nat) (x0 : mV) (I : mN) (S : mH) (Q : mQ) (h : mCs [x0] ≤ 1) : mRun (D + 1) 174 [x0] I S Q = mAt (mRun D) 174 0 ([some x0, none], [], I, S) Q := propext ⟨fun z => z.2, fun z => ⟨⟨h, Nat.le_of_ble_eq_true rfl⟩, z⟩⟩
theorem a_RS_startChange_0 (D : Nat) (c : mC) (Q : mQ) : mAt (mRun D) 174 0 c Q = mWp (mRun D) 174 0 (fun pc c => mAt (mRun D) 174 pc c Q) Q bk_RS_startChange_0 c := mAt_blk rfl
theorem e_RS_before (D : Nat) (x0 : mV) (I : mN) (S : mH) (Q : mQ) (h : mCs [x0] ≤ 1) : mRun (D + 1) 175 [x0] I S Q = mAt (mRun D) 175 0 ([some x0], [], I, S) Q := propext ⟨fun z => z.2, fun z => ⟨⟨h, Nat.le_of_ble_eq_true rfl⟩, z⟩⟩
theorem a_RS_before_0 (D : Nat) (c : mC) (Q : mQ) : mAt (mRun D) 175 0 c Q = mWp (mRun D) 175 0 (fun pc c => mAt (mRun D) 175 pc c Q) Q bk_RS_before_0 c := mAt_blk rfl
theorem e_RS_endChange (D : Nat) (x0 x1 x2 : mV) (I : mN) (S : mH) (Q : mQ) (h : mCs [x0, x1, x2] ≤ 3) : mRun (D + 1) 176 [x0, x1, x2] I S Q = mAt (mRun D) 176 0 ([some x0, some x1, some x2, none, none, none, none], [], I, S) Q := propext ⟨fun z => z.2, fun z => ⟨⟨h, Nat.le_of_ble_eq_true rfl⟩, z⟩⟩
theorem a_RS_endChange_0 (D : Nat) (c : mC) (Q : mQ) : mAt (mRun D) 176 0 c Q = mWp (mRun D) 176 29 (fun pc c => mAt (mRun D) 176 pc c Q) Q bk_RS_endChange_0 c := mAt_blk rfl
theorem a_RS_endChange_29 (D : Nat) (c : mC) (Q : mQ) : mAt (mRun D) 176 29 c Q = mWp (mRun D) 176 44 (fun pc c => mAt (mRun D) 176 pc c Q) Q bk_RS_endChange_29 c := mAt_blk rfl
theorem a_RS_endChange_44 (D : Nat) (c : mC) (Q : mQ) : mAt (mRun D) 176 44 c Q = mWp (mRun D) 176 75 (fun pc c => mAt (mRun D) 176 pc c Q) Q bk_RS_endChange_44 c := mAt_blk rfl
theorem a_RS_endChange_75 (D : Nat) (c : mC) (Q : mQ) : mAt (mRun D) 176 75 c Q = mWp (mRun D) 176 0 (fun pc c => mAt (mRun D) 176 pc c Q) Q bk_RS_endChange_75 c := mAt_blk rfl
theorem a_RS_endChange_81 (D : Nat) (c : mC) (Q : mQ) : mAt (mRun D) 176 81 c Q = mWp (mRun D) 176 0 (fun pc c => mAt (mRun D) 176 pc c Q) Q bk_RS_endChange_81 c := mAt_blk rfl
theorem a_RS_endChange_87 (D : Nat) (c : mC) (Q : mQ) : mAt (mRun D) 176 87 c Q = mWp (mRun D) 176 0 (fun pc c => mAt (mRun D) 176 pc c Q) Q bk_RS_endChange_87 c := mAt_blk rfl
theorem e_RS_startTrial (D : Nat) (x0 : mV) (I : mN) (S : mH) (Q : mQ) (h : mCs [x0] ≤ 1) : mRun (D + 1) 177 [x0] I S Q = mAt (mRun D) 177 0 ([some x0], [], I, S) Q := propext ⟨fun z => z.2, fun z => ⟨⟨h, Nat.le_of_ble_eq_true rfl⟩, z⟩⟩
theorem a_RS_startTrial_0 (D : Nat) (c : mC) (Q : mQ) : mAt (mRun D) 177 0 c Q = mWp (mRun D) 177 0 (fun pc c => mAt (mRun D) 177 pc c Q) Q bk_RS_startTrial_0 c := mAt_blk rfl
theorem e_RS_firstInjured (D : Nat) (x0 x1 x2 x3 x4 x5 : mV) (I : mN) (S : mH) (Q : mQ) (h : mCs [x0, x1, x2, x3, x4, x5] ≤ 6) : mRun (D + 1) 178 [x0, x1, x2, x3, x4, x5] I S Q = mAt (mRun D) 178 0 ([some x0, some x1, some x2, some x3, some x4, some x5, none, none], [], I, S) Q := propext ⟨fun z => z.2, fun z => ⟨⟨h, Nat.le_of_ble_eq_true rfl⟩, z⟩⟩
theorem a_RS_firstInjured_0 (D : Nat) (c : mC) (Q : mQ) : mAt (mRun D) 178 0 c Q = mWp (mRun D) 178 17 (fun pc c => mAt (mRun D) 178 pc c Q) Q bk_RS_firstInjured_0 c := mAt_blk rfl
theorem a_RS_firstInjured_17 (D : Nat) (c : mC) (Q : mQ) : mAt (mRun D) 178 17 c Q = mWp (mRun D) 178 52 (fun pc c => mAt (mRun D) 178 pc c Q) Q bk_RS_firstInjured_17 c := mAt_blk rfl
theorem a_RS_firstInjured_52 (D : Nat) (c : mC) (Q : mQ) : mAt (mRun D) 178 52 c Q = mWp (mRun D) 178 0 (fun pc c => mAt (mRun D) 178 pc c Q) Q bk_RS_firstInjured_52 c := mAt_blk rfl
theorem a_RS_firstInjured_91 (D : Nat) (c : mC) (Q : mQ) : mAt (mRun D) 178 91 c Q = mWp (mRun D) 178 0 (fun pc c => mAt (mRun D) 178 pc c Q) Q bk_RS_firstInjured_91 c := mAt_blk rfl
theorem a_RS_firstInjured_97 (D : Nat) (c : mC) (Q : mQ) : mAt (mRun D) 178 97 c Q = mWp (mRun D) 178 0 (fun pc c => mAt (mRun D) 178 pc c Q) Q bk_RS_firstInjured_97 c := mAt_blk rfl
theorem a_RS_firstInjured_103 (D : Nat) (c : mC) (Q : mQ) : mAt (mRun D) 178 103 c Q = mWp (mRun D) 178 0 (fun pc c => mAt (mRun D) 178 pc c Q) Q bk_RS_firstInjured_103 c := mAt_blk rfl
theorem e_RS_shortageOf (D : Nat) (x0 x1 x2 : mV) (I : mN) (S : mH) (Q : mQ) (h : mCs [x0, x1, x2] ≤ 3) : mRun (D + 1) 179 [x0, x1, x2] I S Q = mAt (mRun D) 179 0 ([some x0, some x1, some x2], [], I, S) Q := propext ⟨fun z => z.2, fun z => ⟨⟨h, Nat.le_of_ble_eq_true rfl⟩, z⟩⟩
theorem a_RS_shortageOf_0 (D : Nat) (c : mC) (Q : mQ) : mAt (mRun D) 179 0 c Q = mWp (mRun D) 179 0 (fun pc c => mAt (mRun D) 179 pc c Q) Q bk_RS_shortageOf_0 c := mAt_blk rfl
theorem e_RS_gatherMarkedNodes (D : Nat) (x0 : mV) (I : mN) (S : mH) (Q : mQ) (h : mCs [x0] ≤ 1) : mRun (D + 1) 180 [x0] I S Q = mAt (mRun D) 180 0 ([some x0, none, none, none], [], I, S) Q := propext ⟨fun z => z.2, fun z => ⟨⟨h, Nat.le_of_ble_eq_true rfl⟩, z⟩⟩
theorem a_RS_gatherMarkedNodes_0 (D : Nat) (c : mC) (Q : mQ) : mAt (mRun D) 180 0 c Q = mWp (mRun D) 180 7 (fun pc c => mAt (mRun D) 180 pc c Q) Q bk_RS_gatherMarkedNodes_0 c := mAt_blk rfl
theorem a_RS_gatherMarkedNodes_7 (D : Nat) (c : mC) (Q : mQ) : mAt (mRun D) 180 7 c Q = mWp (mRun D) 180 0 (fun pc c => mAt (mRun D) 180 pc c Q) Q bk_RS_gatherMarkedNodes_7 c := mAt_blk rfl
theorem a_RS_gatherMarkedNodes_39 (D : Nat) (c : mC) (Q : mQ) : mAt (mRun D) 180 39 c Q = mWp (mRun D) 180 40 (fun pc c => mAt (mRun D) 180 pc c Q) Q bk_RS_gatherMarkedNodes_39 c := mAt_blk rfl
theorem a_RS_gatherMarkedNodes_40 (D : Nat) (c : mC) (Q : mQ) : mAt (mRun D) 180 40 c Q = mWp (mRun D) 180 0 (fun pc c => mAt (mRun D) 180 pc c Q) Q bk_RS_gatherMarkedNodes_40 c := mAt_blk rfl
theorem a_RS_gatherMarkedNodes_63 (D : Nat) (c : mC) (Q : mQ) : mAt (mRun D) 180 63 c Q = mWp (mRun D) 180 64 (fun pc c => mAt (mRun D) 180 pc c Q) Q bk_RS_gatherMarkedNodes_63 c := mAt_blk rfl
theorem a_RS_gatherMarkedNodes_64 (D : Nat) (c : mC) (Q : mQ) : mAt (mRun D) 180 64 c Q = mWp (mRun D) 180 0 (fun pc c => mAt (mRun D) 180 pc c Q) Q bk_RS_gatherMarkedNodes_64 c := mAt_blk rfl
theorem a_RS_gatherMarkedNodes_71 (D : Nat) (c : mC) (Q : mQ) : mAt (mRun D) 180 71 c Q = mWp (mRun D) 180 0 (fun pc c => mAt (mRun D) 180 pc c Q) Q bk_RS_gatherMarkedNodes_71 c := mAt_blk rfl
theorem e_RS_needPlace (D : Nat) (x0 x1 : mV) (I : mN) (S : mH) (Q : mQ) (h : mCs [x0, x1] ≤ 2) : mRun (D + 1) 181 [x0, x1] I S Q = mAt (mRun D) 181 0 ([some x0, some x1], [], I, S) Q := propext ⟨fun z => z.2, fun z => ⟨⟨h, Nat.le_of_ble_eq_true rfl⟩, z⟩⟩
theorem a_RS_needPlace_0 (D : Nat) (c : mC) (Q : mQ) : mAt (mRun D) 181 0 c Q = mWp (mRun D) 181 15 (fun pc c => mAt (mRun D) 181 pc c Q) Q bk_RS_needPlace_0 c := mAt_blk rfl
theorem a_RS_needPlace_15 (D : Nat) (c : mC) (Q : mQ) : mAt (mRun D) 181 15 c Q = mWp (mRun D) 181 0 (fun pc c => mAt (mRun D) 181 pc c Q) Q bk_RS_needPlace_15 c := mAt_blk rfl
theorem a_RS_needPlace_26 (D : Nat) (c : mC) (Q : mQ) : mAt (mRun D) 181 26 c Q = mWp (mRun D) 181 0 (fun pc c => mAt (mRun D) 181 pc c Q) Q bk_RS_needPlace_26 c := mAt_blk rfl
theorem e_RS_needReach (D : Nat) (x0 x1 : mV) (I : mN) (S : mH) (Q : mQ) (h : mCs [x0, x1] ≤ 2) : mRun (D + 1) 182 [x0, x1] I S Q = mAt (mRun D) 182 0 ([some x0, some x1], [], I, S) Q := propext ⟨fun z => z.2, fun z => ⟨⟨h, Nat.le_of_ble_eq_true rfl⟩, z⟩⟩
theorem a_RS_needReach_0 (D : Nat) (c : mC) (Q : mQ) : mAt (mRun D) 182 0 c Q = mWp (mRun D) 182 15 (fun pc c => mAt (mRun D) 182 pc c Q) Q bk_RS_needReach_0 c := mAt_blk rfl
theorem a_RS_needReach_15 (D : Nat) (c : mC) (Q : mQ) : mAt (mRun D) 182 15 c Q = mWp (mRun D) 182 0 (fun pc c => mAt (mRun D) 182 pc c Q) Q bk_RS_needReach_15 c := mAt_blk rfl
theorem a_RS_needReach_26 (D : Nat) (c : mC) (Q : mQ) : mAt (mRun D) 182 26 c Q = mWp (mRun D) 182 0 (fun pc c => mAt (mRun D) 182 pc c Q) Q bk_RS_needReach_26 c := mAt_blk rfl
theorem e_RS_needRight (D : Nat) (x0 x1 : mV) (I : mN) (S : mH) (Q : mQ) (h : mCs [x0, x1] ≤ 2) : mRun (D + 1) 183 [x0, x1] I S Q = mAt (mRun D) 183 0 ([some x0, some x1], [], I, S) Q := propext ⟨fun z => z.2, fun z => ⟨⟨h, Nat.le_of_ble_eq_true rfl⟩, z⟩⟩
theorem a_RS_needRight_0 (D : Nat) (c : mC) (Q : mQ) : mAt (mRun D) 183 0 c Q = mWp (mRun D) 183 15 (fun pc c => mAt (mRun D) 183 pc c Q) Q bk_RS_needRight_0 c := mAt_blk rfl
theorem a_RS_needRight_15 (D : Nat) (c : mC) (Q : mQ) : mAt (mRun D) 183 15 c Q = mWp (mRun D) 183 0 (fun pc c => mAt (mRun D) 183 pc c Q) Q bk_RS_needRight_15 c := mAt_blk rfl
theorem a_RS_needRight_26 (D : Nat) (c : mC) (Q : mQ) : mAt (mRun D) 183 26 c Q = mWp (mRun D) 183 0 (fun pc c => mAt (mRun D) 183 pc c Q) Q bk_RS_needRight_26 c := mAt_blk rfl
theorem e_RS_needScenario (D : Nat) (x0 x1 : mV) (I : mN) (S : mH) (Q : mQ) (h : mCs [x0, x1] ≤ 2) : mRun (D + 1) 184 [x0, x1] I S Q = mAt (mRun D) 184 0 ([some x0, some x1], [], I, S) Q := propext ⟨fun z => z.2, fun z => ⟨⟨h, Nat.le_of_ble_eq_true rfl⟩, z⟩⟩
theorem a_RS_needScenario_0 (D : Nat) (c : mC) (Q : mQ) : mAt (mRun D) 184 0 c Q = mWp (mRun D) 184 9 (fun pc c => mAt (mRun D) 184 pc c Q) Q bk_RS_needScenario_0 c := mAt_blk rfl
theorem a_RS_needScenario_9 (D : Nat) (c : mC) (Q : mQ) : mAt (mRun D) 184 9 c Q = mWp (mRun D) 184 0 (fun pc c => mAt (mRun D) 184 pc c Q) Q bk_RS_needScenario_9 c := mAt_blk rfl
theorem a_RS_needScenario_20 (D : Nat) (c : mC) (Q : mQ) : mAt (mRun D) 184 20 c Q = mWp (mRun D) 184 0 (fun pc c => mAt (mRun D) 184 pc c Q) Q bk_RS_needScenario_20 c := mAt_blk rfl
theorem e_RS_needBranch (D : Nat) (x0 x1 : mV) (I : mN) (S : mH) (Q : mQ) (h : mCs [x0, x1] ≤ 2) : mRun (D + 1) 185 [x0, x1] I S Q = mAt (mRun D) 185 0 ([some x0, some x1], [], I, S) Q := propext ⟨fun z => z.2, fun z => ⟨⟨h, Nat.le_of_ble_eq_true rfl⟩, z⟩⟩
theorem a_RS_needBranch_0 (D : Nat) (c : mC) (Q : mQ) : mAt (mRun D) 185 0 c Q = mWp (mRun D) 185 12 (fun pc c => mAt (mRun D) 185 pc c Q) Q bk_RS_needBranch_0 c := mAt_blk rfl
theorem a_RS_needBranch_12 (D : Nat) (c : mC) (Q : mQ) : mAt (mRun D) 185 12 c Q = mWp (mRun D) 185 0 (fun pc c => mAt (mRun D) 185 pc c Q) Q bk_RS_needBranch_12 c := mAt_blk rfl
theorem a_RS_needBranch_23 (D : Nat) (c : mC) (Q : mQ) : mAt (mRun D) 185 23 c Q = mWp (mRun D) 185 0 (fun pc c => mAt (mRun D) 185 pc c Q) Q bk_RS_needBranch_23 c := mAt_blk rfl
theorem e_RS_needWeek (D : Nat) (x0 x1 : mV) (I : mN) (S : mH) (Q : mQ) (h : mCs [x0, x1] ≤ 2) : mRun (D + 1) 186 [x0, x1] I S Q = mAt (mRun D) 186 0 ([some x0, some x1], [], I, S) Q := propext ⟨fun z => z.2, fun z => ⟨⟨h, Nat.le_of_ble_eq_true rfl⟩, z⟩⟩
theorem a_RS_needWeek_0 (D : Nat) (c : mC) (Q : mQ) : mAt (mRun D) 186 0 c Q = mWp (mRun D) 186 0 (fun pc c => mAt (mRun D) 186 pc c Q) Q bk_RS_needWeek_0 c := mAt_blk rfl
theorem a_RS_needWeek_18 (D : Nat) (c : mC) (Q : mQ) : mAt (mRun D) 186 18 c Q = mWp (mRun D) 186 0 (fun pc c => mAt (mRun D) 186 pc c Q) Q bk_RS_needWeek_18 c := mAt_blk rfl
theorem e_RS_needWeekNotOver (D : Nat) (x0 x1 : mV) (I : mN) (S : mH) (Q : mQ) (h : mCs [x0, x1] ≤ 2) : mRun (D + 1) 187 [x0, x1] I S Q = mAt (mRun D) 187 0 ([some x0, some x1], [], I, S) Q := propext ⟨fun z => z.2, fun z => ⟨⟨h, Nat.le_of_ble_eq_true rfl⟩, z⟩⟩
theorem a_RS_needWeekNotOver_0 (D : Nat) (c : mC) (Q : mQ) : mAt (mRun D) 187 0 c Q = mWp (mRun D) 187 0 (fun pc c => mAt (mRun D) 187 pc c Q) Q bk_RS_needWeekNotOver_0 c := mAt_blk rfl
theorem a_RS_needWeekNotOver_22 (D : Nat) (c : mC) (Q : mQ) : mAt (mRun D) 187 22 c Q = mWp (mRun D) 187 0 (fun pc c => mAt (mRun D) 187 pc c Q) Q bk_RS_needWeekNotOver_22 c := mAt_blk rfl
theorem e_RS_needShortage (D : Nat) (x0 x1 x2 : mV) (I : mN) (S : mH) (Q : mQ) (h : mCs [x0, x1, x2] ≤ 3) : mRun (D + 1) 188 [x0, x1, x2] I S Q = mAt (mRun D) 188 0 ([some x0, some x1, some x2], [], I, S) Q := propext ⟨fun z => z.2, fun z => ⟨⟨h, Nat.le_of_ble_eq_true rfl⟩, z⟩⟩
theorem a_RS_needShortage_0 (D : Nat) (c : mC) (Q : mQ) : mAt (mRun D) 188 0 c Q = mWp (mRun D) 188 30 (fun pc c => mAt (mRun D) 188 pc c Q) Q bk_RS_needShortage_0 c := mAt_blk rfl
theorem a_RS_needShortage_30 (D : Nat) (c : mC) (Q : mQ) : mAt (mRun D) 188 30 c Q = mWp (mRun D) 188 0 (fun pc c => mAt (mRun D) 188 pc c Q) Q bk_RS_needShortage_30 c := mAt_blk rfl
theorem a_RS_needShortage_41 (D : Nat) (c : mC) (Q : mQ) : mAt (mRun D) 188 41 c Q = mWp (mRun D) 188 0 (fun pc c => mAt (mRun D) 188 pc c Q) Q bk_RS_needShortage_41 c := mAt_blk rfl
theorem e_RS_needLease (D : Nat) (x0 x1 x2 x3 x4 x5 : mV) (I : mN) (S : mH) (Q : mQ) (h : mCs [x0, x1, x2, x3, x4, x5] ≤ 6) : mRun (D + 1) 189 [x0, x1, x2, x3, x4, x5] I S Q = mAt (mRun D) 189 0 ([some x0, some x1, some x2, some x3, some x4, some x5], [], I, S) Q := propext ⟨fun z => z.2, fun z => ⟨⟨h, Nat.le_of_ble_eq_true rfl⟩, z⟩⟩
theorem a_RS_needLease_0 (D : Nat) (c : mC) (Q : mQ) : mAt (mRun D) 189 0 c Q = mWp (mRun D) 189 30 (fun pc c => mAt (mRun D) 189 pc c Q) Q bk_RS_needLease_0 c := mAt_blk rfl
theorem a_RS_needLease_30 (D : Nat) (c : mC) (Q : mQ) : mAt (mRun D) 189 30 c Q = mWp (mRun D) 189 0 (fun pc c => mAt (mRun D) 189 pc c Q) Q bk_RS_needLease_30 c := mAt_blk rfl
theorem a_RS_needLease_41 (D : Nat) (c : mC) (Q : mQ) : mAt (mRun D) 189 41 c Q = mWp (mRun D) 189 69 (fun pc c => mAt (mRun D) 189 pc c Q) Q bk_RS_needLease_41 c := mAt_blk rfl
theorem a_RS_needLease_69 (D : Nat) (c : mC) (Q : mQ) : mAt (mRun D) 189 69 c Q = mWp (mRun D) 189 0 (fun pc c => mAt (mRun D) 189 pc c Q) Q bk_RS_needLease_69 c := mAt_blk rfl
theorem a_RS_needLease_80 (D : Nat) (c : mC) (Q : mQ) : mAt (mRun D) 189 80 c Q = mWp (mRun D) 189 0 (fun pc c => mAt (mRun D) 189 pc c Q) Q bk_RS_needLease_80 c := mAt_blk rfl
theorem e_RS_isWithin (D : Nat) (x0 x1 x2 : mV) (I : mN) (S : mH) (Q : mQ) (h : mCs [x0, x1, x2] ≤ 3) : mRun (D + 1) 190 [x0, x1, x2] I S Q = mAt (mRun D) 190 0 ([some x0, some x1, some x2], [], I, S) Q := propext ⟨fun z => z.2, fun z => ⟨⟨h, Nat.le_of_ble_eq_true rfl⟩, z⟩⟩
theorem a_RS_isWithin_0 (D : Nat) (c : mC) (Q : mQ) : mAt (mRun D) 190 0 c Q = mWp (mRun D) 190 0 (fun pc c => mAt (mRun D) 190 pc c Q) Q bk_RS_isWithin_0 c := mAt_blk rfl
theorem a_RS_isWithin_14 (D : Nat) (c : mC) (Q : mQ) : mAt (mRun D) 190 14 c Q = mWp (mRun D) 190 15 (fun pc c => mAt (mRun D) 190 pc c Q) Q bk_RS_isWithin_14 c := mAt_blk rfl
theorem a_RS_isWithin_15 (D : Nat) (c : mC) (Q : mQ) : mAt (mRun D) 190 15 c Q = mWp (mRun D) 190 0 (fun pc c => mAt (mRun D) 190 pc c Q) Q bk_RS_isWithin_15 c := mAt_blk rfl
theorem e_RS_isWeek (D : Nat) (x0 : mV) (I : mN) (S : mH) (Q : mQ) (h : mCs [x0] ≤ 1) : mRun (D + 1) 191 [x0] I S Q = mAt (mRun D) 191 0 ([some x0], [], I, S) Q := propext ⟨fun z => z.2, fun z => ⟨⟨h, Nat.le_of_ble_eq_true rfl⟩, z⟩⟩
theorem a_RS_isWeek_0 (D : Nat) (c : mC) (Q : mQ) : mAt (mRun D) 191 0 c Q = mWp (mRun D) 191 0 (fun pc c => mAt (mRun D) 191 pc c Q) Q bk_RS_isWeek_0 c := mAt_blk rfl
theorem a_RS_isWeek_14 (D : Nat) (c : mC) (Q : mQ) : mAt (mRun D) 191 14 c Q = mWp (mRun D) 191 15 (fun pc c => mAt (mRun D) 191 pc c Q) Q bk_RS_isWeek_14 c := mAt_blk rfl
theorem a_RS_isWeek_15 (D : Nat) (c : mC) (Q : mQ) : mAt (mRun D) 191 15 c Q = mWp (mRun D) 191 0 (fun pc c => mAt (mRun D) 191 pc c Q) Q bk_RS_isWeek_15 c := mAt_blk rfl
theorem e_RS_isSpan (D : Nat) (x0 x1 : mV) (I : mN) (S : mH) (Q : mQ) (h : mCs [x0, x1] ≤ 2) : mRun (D + 1) 192 [x0, x1] I S Q = mAt (mRun D) 192 0 ([some x0, some x1], [], I, S) Q := propext ⟨fun z => z.2, fun z => ⟨⟨h, Nat.le_of_ble_eq_true rfl⟩, z⟩⟩
theorem a_RS_isSpan_0 (D : Nat) (c : mC) (Q : mQ) : mAt (mRun D) 192 0 c Q = mWp (mRun D) 192 0 (fun pc c => mAt (mRun D) 192 pc c Q) Q bk_RS_isSpan_0 c := mAt_blk rfl
theorem a_RS_isSpan_23 (D : Nat) (c : mC) (Q : mQ) : mAt (mRun D) 192 23 c Q = mWp (mRun D) 192 24 (fun pc c => mAt (mRun D) 192 pc c Q) Q bk_RS_isSpan_23 c := mAt_blk rfl
theorem a_RS_isSpan_24 (D : Nat) (c : mC) (Q : mQ) : mAt (mRun D) 192 24 c Q = mWp (mRun D) 192 0 (fun pc c => mAt (mRun D) 192 pc c Q) Q bk_RS_isSpan_24 c := mAt_blk rfl
theorem e_Mo_thrown (D : Nat) (x0 : mV) (I : mN) (S : mH) (Q : mQ) (h : mCs [x0] ≤ 1) : mRun (D + 1) 193 [x0] I S Q = mAt (mRun D) 193 0 ([some x0], [], I, S) Q := propext ⟨fun z => z.2, fun z => ⟨⟨h, Nat.le_of_ble_eq_true rfl⟩, z⟩⟩
theorem a_Mo_thrown_0 (D : Nat) (c : mC) (Q : mQ) : mAt (mRun D) 193 0 c Q = mWp (mRun D) 193 0 (fun pc c => mAt (mRun D) 193 pc c Q) Q bk_Mo_thrown_0 c := mAt_blk rfl
theorem e_Mo_in (D : Nat) (x0 x1 x2 : mV) (I : mN) (S : mH) (Q : mQ) (h : mCs [x0, x1, x2] ≤ 3) : mRun (D + 1) 194 [x0, x1, x2] I S Q = mAt (mRun D) 194 0 ([some x0, some x1, some x2], [], I, S) Q := propext ⟨fun z => z.2, fun z => ⟨⟨h, Nat.le_of_ble_eq_true rfl⟩, z⟩⟩
theorem a_Mo_in_0 (D : Nat) (c : mC) (Q : mQ) : mAt (mRun D) 194 0 c Q = mWp (mRun D) 194 0 (fun pc c => mAt (mRun D) 194 pc c Q) Q bk_Mo_in_0 c := mAt_blk rfl
theorem a_Mo_in_14 (D : Nat) (c : mC) (Q : mQ) : mAt (mRun D) 194 14 c Q = mWp (mRun D) 194 15 (fun pc c => mAt (mRun D) 194 pc c Q) Q bk_Mo_in_14 c := mAt_blk rfl
theorem a_Mo_in_15 (D : Nat) (c : mC) (Q : mQ) : mAt (mRun D) 194 15 c Q = mWp (mRun D) 194 0 (fun pc c => mAt (mRun D) 194 pc c Q) Q bk_Mo_in_15 c := mAt_blk rfl
theorem e_Mo_fail (D : Nat) (x0 x1 : mV) (I : mN) (S : mH) (Q : mQ) (h : mCs [x0, x1] ≤ 2) : mRun (D + 1) 195 [x0, x1] I S Q = mAt (mRun D) 195 0 ([some x0, some x1], [], I, S) Q := propext ⟨fun z => z.2, fun z => ⟨⟨h, Nat.le_of_ble_eq_true rfl⟩, z⟩⟩
theorem a_Mo_fail_0 (D : Nat) (c : mC) (Q : mQ) : mAt (mRun D) 195 0 c Q = mWp (mRun D) 195 0 (fun pc c => mAt (mRun D) 195 pc c Q) Q bk_Mo_fail_0 c := mAt_blk rfl
theorem e_Mo_fits (D : Nat) (x0 x1 : mV) (I : mN) (S : mH) (Q : mQ) (h : mCs [x0, x1] ≤ 2) : mRun (D + 1) 196 [x0, x1] I S Q = mAt (mRun D) 196 0 ([some x0, some x1], [], I, S) Q := propext ⟨fun z => z.2, fun z => ⟨⟨h, Nat.le_of_ble_eq_true rfl⟩, z⟩⟩
theorem a_Mo_fits_0 (D : Nat) (c : mC) (Q : mQ) : mAt (mRun D) 196 0 c Q = mWp (mRun D) 196 0 (fun pc c => mAt (mRun D) 196 pc c Q) Q bk_Mo_fits_0 c := mAt_blk rfl
theorem a_Mo_fits_9 (D : Nat) (c : mC) (Q : mQ) : mAt (mRun D) 196 9 c Q = mWp (mRun D) 196 10 (fun pc c => mAt (mRun D) 196 pc c Q) Q bk_Mo_fits_9 c := mAt_blk rfl
theorem a_Mo_fits_10 (D : Nat) (c : mC) (Q : mQ) : mAt (mRun D) 196 10 c Q = mWp (mRun D) 196 0 (fun pc c => mAt (mRun D) 196 pc c Q) Q bk_Mo_fits_10 c := mAt_blk rfl
theorem e_Mo_fitsBoth (D : Nat) (x0 x1 x2 : mV) (I : mN) (S : mH) (Q : mQ) (h : mCs [x0, x1, x2] ≤ 3) : mRun (D + 1) 197 [x0, x1, x2] I S Q = mAt (mRun D) 197 0 ([some x0, some x1, some x2], [], I, S) Q := propext ⟨fun z => z.2, fun z => ⟨⟨h, Nat.le_of_ble_eq_true rfl⟩, z⟩⟩
theorem a_Mo_fitsBoth_0 (D : Nat) (c : mC) (Q : mQ) : mAt (mRun D) 197 0 c Q = mWp (mRun D) 197 0 (fun pc c => mAt (mRun D) 197 pc c Q) Q bk_Mo_fitsBoth_0 c := mAt_blk rfl
theorem a_Mo_fitsBoth_9 (D : Nat) (c : mC) (Q : mQ) : mAt (mRun D) 197 9 c Q = mWp (mRun D) 197 0 (fun pc c => mAt (mRun D) 197 pc c Q) Q bk_Mo_fitsBoth_9 c := mAt_blk rfl
theorem a_Mo_fitsBoth_17 (D : Nat) (c : mC) (Q : mQ) : mAt (mRun D) 197 17 c Q = mWp (mRun D) 197 18 (fun pc c => mAt (mRun D) 197 pc c Q) Q bk_Mo_fitsBoth_17 c := mAt_blk rfl
theorem a_Mo_fitsBoth_18 (D : Nat) (c : mC) (Q : mQ) : mAt (mRun D) 197 18 c Q = mWp (mRun D) 197 0 (fun pc c => mAt (mRun D) 197 pc c Q) Q bk_Mo_fitsBoth_18 c := mAt_blk rfl
theorem a_Mo_fitsBoth_32 (D : Nat) (c : mC) (Q : mQ) : mAt (mRun D) 197 32 c Q = mWp (mRun D) 197 33 (fun pc c => mAt (mRun D) 197 pc c Q) Q bk_Mo_fitsBoth_32 c := mAt_blk rfl
theorem a_Mo_fitsBoth_33 (D : Nat) (c : mC) (Q : mQ) : mAt (mRun D) 197 33 c Q = mWp (mRun D) 197 0 (fun pc c => mAt (mRun D) 197 pc c Q) Q bk_Mo_fitsBoth_33 c := mAt_blk rfl
theorem e_Mo_fitsAll (D : Nat) (x0 x1 x2 x3 : mV) (I : mN) (S : mH) (Q : mQ) (h : mCs [x0, x1, x2, x3] ≤ 4) : mRun (D + 1) 198 [x0, x1, x2, x3] I S Q = mAt (mRun D) 198 0 ([some x0, some x1, some x2, some x3], [], I, S) Q := propext ⟨fun z => z.2, fun z => ⟨⟨h, Nat.le_of_ble_eq_true rfl⟩, z⟩⟩
theorem a_Mo_fitsAll_0 (D : Nat) (c : mC) (Q : mQ) : mAt (mRun D) 198 0 c Q = mWp (mRun D) 198 0 (fun pc c => mAt (mRun D) 198 pc c Q) Q bk_Mo_fitsAll_0 c := mAt_blk rfl
theorem a_Mo_fitsAll_9 (D : Nat) (c : mC) (Q : mQ) : mAt (mRun D) 198 9 c Q = mWp (mRun D) 198 0 (fun pc c => mAt (mRun D) 198 pc c Q) Q bk_Mo_fitsAll_9 c := mAt_blk rfl
theorem a_Mo_fitsAll_17 (D : Nat) (c : mC) (Q : mQ) : mAt (mRun D) 198 17 c Q = mWp (mRun D) 198 0 (fun pc c => mAt (mRun D) 198 pc c Q) Q bk_Mo_fitsAll_17 c := mAt_blk rfl
theorem a_Mo_fitsAll_25 (D : Nat) (c : mC) (Q : mQ) : mAt (mRun D) 198 25 c Q = mWp (mRun D) 198 26 (fun pc c => mAt (mRun D) 198 pc c Q) Q bk_Mo_fitsAll_25 c := mAt_blk rfl
theorem a_Mo_fitsAll_26 (D : Nat) (c : mC) (Q : mQ) : mAt (mRun D) 198 26 c Q = mWp (mRun D) 198 0 (fun pc c => mAt (mRun D) 198 pc c Q) Q bk_Mo_fitsAll_26 c := mAt_blk rfl
theorem a_Mo_fitsAll_40 (D : Nat) (c : mC) (Q : mQ) : mAt (mRun D) 198 40 c Q = mWp (mRun D) 198 41 (fun pc c => mAt (mRun D) 198 pc c Q) Q bk_Mo_fitsAll_40 c := mAt_blk rfl
theorem a_Mo_fitsAll_41 (D : Nat) (c : mC) (Q : mQ) : mAt (mRun D) 198 41 c Q = mWp (mRun D) 198 0 (fun pc c => mAt (mRun D) 198 pc c Q) Q bk_Mo_fitsAll_41 c := mAt_blk rfl
theorem e_Mo_isPlace (D : Nat) (x0 x1 : mV) (I : mN) (S : mH) (Q : mQ) (h : mCs [x0, x1] ≤ 2) : mRun (D + 1) 199 [x0, x1] I S Q = mAt (mRun D) 199 0 ([some x0, some x1], [], I, S) Q := propext ⟨fun z => z.2, fun z => ⟨⟨h, Nat.le_of_ble_eq_true rfl⟩, z⟩⟩
theorem a_Mo_isPlace_0 (D : Nat) (c : mC) (Q : mQ) : mAt (mRun D) 199 0 c Q = mWp (mRun D) 199 0 (fun pc c => mAt (mRun D) 199 pc c Q) Q bk_Mo_isPlace_0 c := mAt_blk rfl
theorem e_Mo_isReach (D : Nat) (x0 x1 : mV) (I : mN) (S : mH) (Q : mQ) (h : mCs [x0, x1] ≤ 2) : mRun (D + 1) 200 [x0, x1] I S Q = mAt (mRun D) 200 0 ([some x0, some x1], [], I, S) Q := propext ⟨fun z => z.2, fun z => ⟨⟨h, Nat.le_of_ble_eq_true rfl⟩, z⟩⟩
theorem a_Mo_isReach_0 (D : Nat) (c : mC) (Q : mQ) : mAt (mRun D) 200 0 c Q = mWp (mRun D) 200 0 (fun pc c => mAt (mRun D) 200 pc c Q) Q bk_Mo_isReach_0 c := mAt_blk rfl
theorem e_Mo_isRight (D : Nat) (x0 x1 : mV) (I : mN) (S : mH) (Q : mQ) (h : mCs [x0, x1] ≤ 2) : mRun (D + 1) 201 [x0, x1] I S Q = mAt (mRun D) 201 0 ([some x0, some x1], [], I, S) Q := propext ⟨fun z => z.2, fun z => ⟨⟨h, Nat.le_of_ble_eq_true rfl⟩, z⟩⟩
theorem a_Mo_isRight_0 (D : Nat) (c : mC) (Q : mQ) : mAt (mRun D) 201 0 c Q = mWp (mRun D) 201 0 (fun pc c => mAt (mRun D) 201 pc c Q) Q bk_Mo_isRight_0 c := mAt_blk rfl
theorem e_Mo_isScenario (D : Nat) (x0 : mV) (I : mN) (S : mH) (Q : mQ) (h : mCs [x0] ≤ 1) : mRun (D + 1) 202 [x0] I S Q = mAt (mRun D) 202 0 ([some x0], [], I, S) Q := propext ⟨fun z => z.2, fun z => ⟨⟨h, Nat.le_of_ble_eq_true rfl⟩, z⟩⟩
theorem a_Mo_isScenario_0 (D : Nat) (c : mC) (Q : mQ) : mAt (mRun D) 202 0 c Q = mWp (mRun D) 202 0 (fun pc c => mAt (mRun D) 202 pc c Q) Q bk_Mo_isScenario_0 c := mAt_blk rfl
theorem e_Mo_isWeek (D : Nat) (x0 : mV) (I : mN) (S : mH) (Q : mQ) (h : mCs [x0] ≤ 1) : mRun (D + 1) 203 [x0] I S Q = mAt (mRun D) 203 0 ([some x0], [], I, S) Q := propext ⟨fun z => z.2, fun z => ⟨⟨h, Nat.le_of_ble_eq_true rfl⟩, z⟩⟩
theorem a_Mo_isWeek_0 (D : Nat) (c : mC) (Q : mQ) : mAt (mRun D) 203 0 c Q = mWp (mRun D) 203 0 (fun pc c => mAt (mRun D) 203 pc c Q) Q bk_Mo_isWeek_0 c := mAt_blk rfl
theorem e_Mo_ofPlace (D : Nat) (x0 x1 x2 : mV) (I : mN) (S : mH) (Q : mQ) (h : mCs [x0, x1, x2] ≤ 3) : mRun (D + 1) 204 [x0, x1, x2] I S Q = mAt (mRun D) 204 0 ([some x0, some x1, some x2], [], I, S) Q := propext ⟨fun z => z.2, fun z => ⟨⟨h, Nat.le_of_ble_eq_true rfl⟩, z⟩⟩
theorem a_Mo_ofPlace_0 (D : Nat) (c : mC) (Q : mQ) : mAt (mRun D) 204 0 c Q = mWp (mRun D) 204 0 (fun pc c => mAt (mRun D) 204 pc c Q) Q bk_Mo_ofPlace_0 c := mAt_blk rfl
theorem e_Mo_ofReach (D : Nat) (x0 x1 x2 : mV) (I : mN) (S : mH) (Q : mQ) (h : mCs [x0, x1, x2] ≤ 3) : mRun (D + 1) 205 [x0, x1, x2] I S Q = mAt (mRun D) 205 0 ([some x0, some x1, some x2], [], I, S) Q := propext ⟨fun z => z.2, fun z => ⟨⟨h, Nat.le_of_ble_eq_true rfl⟩, z⟩⟩
theorem a_Mo_ofReach_0 (D : Nat) (c : mC) (Q : mQ) : mAt (mRun D) 205 0 c Q = mWp (mRun D) 205 0 (fun pc c => mAt (mRun D) 205 pc c Q) Q bk_Mo_ofReach_0 c := mAt_blk rfl
theorem e_Mo_ofRight (D : Nat) (x0 x1 x2 : mV) (I : mN) (S : mH) (Q : mQ) (h : mCs [x0, x1, x2] ≤ 3) : mRun (D + 1) 206 [x0, x1, x2] I S Q = mAt (mRun D) 206 0 ([some x0, some x1, some x2], [], I, S) Q := propext ⟨fun z => z.2, fun z => ⟨⟨h, Nat.le_of_ble_eq_true rfl⟩, z⟩⟩
theorem a_Mo_ofRight_0 (D : Nat) (c : mC) (Q : mQ) : mAt (mRun D) 206 0 c Q = mWp (mRun D) 206 0 (fun pc c => mAt (mRun D) 206 pc c Q) Q bk_Mo_ofRight_0 c := mAt_blk rfl
theorem e_Mo_inflow (D : Nat) (x0 x1 x2 x3 : mV) (I : mN) (S : mH) (Q : mQ) (h : mCs [x0, x1, x2, x3] ≤ 4) : mRun (D + 1) 207 [x0, x1, x2, x3] I S Q = mAt (mRun D) 207 0 ([some x0, some x1, some x2, some x3], [], I, S) Q := propext ⟨fun z => z.2, fun z => ⟨⟨h, Nat.le_of_ble_eq_true rfl⟩, z⟩⟩
theorem a_Mo_inflow_0 (D : Nat) (c : mC) (Q : mQ) : mAt (mRun D) 207 0 c Q = mWp (mRun D) 207 0 (fun pc c => mAt (mRun D) 207 pc c Q) Q bk_Mo_inflow_0 c := mAt_blk rfl
theorem e_Mo_isOlder (D : Nat) (x0 x1 x2 : mV) (I : mN) (S : mH) (Q : mQ) (h : mCs [x0, x1, x2] ≤ 3) : mRun (D + 1) 208 [x0, x1, x2] I S Q = mAt (mRun D) 208 0 ([some x0, some x1, some x2, none, none], [], I, S) Q := propext ⟨fun z => z.2, fun z => ⟨⟨h, Nat.le_of_ble_eq_true rfl⟩, z⟩⟩
theorem a_Mo_isOlder_0 (D : Nat) (c : mC) (Q : mQ) : mAt (mRun D) 208 0 c Q = mWp (mRun D) 208 0 (fun pc c => mAt (mRun D) 208 pc c Q) Q bk_Mo_isOlder_0 c := mAt_blk rfl
theorem a_Mo_isOlder_41 (D : Nat) (c : mC) (Q : mQ) : mAt (mRun D) 208 41 c Q = mWp (mRun D) 208 0 (fun pc c => mAt (mRun D) 208 pc c Q) Q bk_Mo_isOlder_41 c := mAt_blk rfl
theorem a_Mo_isOlder_45 (D : Nat) (c : mC) (Q : mQ) : mAt (mRun D) 208 45 c Q = mWp (mRun D) 208 0 (fun pc c => mAt (mRun D) 208 pc c Q) Q bk_Mo_isOlder_45 c := mAt_blk rfl
theorem a_Mo_isOlder_59 (D : Nat) (c : mC) (Q : mQ) : mAt (mRun D) 208 59 c Q = mWp (mRun D) 208 0 (fun pc c => mAt (mRun D) 208 pc c Q) Q bk_Mo_isOlder_59 c := mAt_blk rfl
theorem a_Mo_isOlder_63 (D : Nat) (c : mC) (Q : mQ) : mAt (mRun D) 208 63 c Q = mWp (mRun D) 208 0 (fun pc c => mAt (mRun D) 208 pc c Q) Q bk_Mo_isOlder_63 c := mAt_blk rfl
theorem a_Mo_isOlder_72 (D : Nat) (c : mC) (Q : mQ) : mAt (mRun D) 208 72 c Q = mWp (mRun D) 208 73 (fun pc c => mAt (mRun D) 208 pc c Q) Q bk_Mo_isOlder_72 c := mAt_blk rfl
theorem a_Mo_isOlder_73 (D : Nat) (c : mC) (Q : mQ) : mAt (mRun D) 208 73 c Q = mWp (mRun D) 208 0 (fun pc c => mAt (mRun D) 208 pc c Q) Q bk_Mo_isOlder_73 c := mAt_blk rfl
theorem e_Mo_nNode (D : Nat) (x0 x1 : mV) (I : mN) (S : mH) (Q : mQ) (h : mCs [x0, x1] ≤ 2) : mRun (D + 1) 209 [x0, x1] I S Q = mAt (mRun D) 209 0 ([some x0, some x1], [], I, S) Q := propext ⟨fun z => z.2, fun z => ⟨⟨h, Nat.le_of_ble_eq_true rfl⟩, z⟩⟩
theorem a_Mo_nNode_0 (D : Nat) (c : mC) (Q : mQ) : mAt (mRun D) 209 0 c Q = mWp (mRun D) 209 0 (fun pc c => mAt (mRun D) 209 pc c Q) Q bk_Mo_nNode_0 c := mAt_blk rfl
theorem e_Mo_nSupply (D : Nat) (x0 x1 x2 x3 : mV) (I : mN) (S : mH) (Q : mQ) (h : mCs [x0, x1, x2, x3] ≤ 4) : mRun (D + 1) 210 [x0, x1, x2, x3] I S Q = mAt (mRun D) 210 0 ([some x0, some x1, some x2, some x3], [], I, S) Q := propext ⟨fun z => z.2, fun z => ⟨⟨h, Nat.le_of_ble_eq_true rfl⟩, z⟩⟩
theorem a_Mo_nSupply_0 (D : Nat) (c : mC) (Q : mQ) : mAt (mRun D) 210 0 c Q = mWp (mRun D) 210 0 (fun pc c => mAt (mRun D) 210 pc c Q) Q bk_Mo_nSupply_0 c := mAt_blk rfl
theorem a_Mo_nSupply_35 (D : Nat) (c : mC) (Q : mQ) : mAt (mRun D) 210 35 c Q = mWp (mRun D) 210 36 (fun pc c => mAt (mRun D) 210 pc c Q) Q bk_Mo_nSupply_35 c := mAt_blk rfl
theorem a_Mo_nSupply_36 (D : Nat) (c : mC) (Q : mQ) : mAt (mRun D) 210 36 c Q = mWp (mRun D) 210 0 (fun pc c => mAt (mRun D) 210 pc c Q) Q bk_Mo_nSupply_36 c := mAt_blk rfl
theorem e_Mo_nLayArc (D : Nat) (x0 x1 x2 x3 x4 : mV) (I : mN) (S : mH) (Q : mQ) (h : mCs [x0, x1, x2, x3, x4] ≤ 5) : mRun (D + 1) 211 [x0, x1, x2, x3, x4] I S Q = mAt (mRun D) 211 0 ([some x0, some x1, some x2, some x3, some x4], [], I, S) Q := propext ⟨fun z => z.2, fun z => ⟨⟨h, Nat.le_of_ble_eq_true rfl⟩, z⟩⟩
theorem a_Mo_nLayArc_0 (D : Nat) (c : mC) (Q : mQ) : mAt (mRun D) 211 0 c Q = mWp (mRun D) 211 0 (fun pc c => mAt (mRun D) 211 pc c Q) Q bk_Mo_nLayArc_0 c := mAt_blk rfl
theorem e_Mo_nLeads (D : Nat) (x0 x1 x2 : mV) (I : mN) (S : mH) (Q : mQ) (h : mCs [x0, x1, x2] ≤ 3) : mRun (D + 1) 212 [x0, x1, x2] I S Q = mAt (mRun D) 212 0 ([some x0, some x1, some x2], [], I, S) Q := propext ⟨fun z => z.2, fun z => ⟨⟨h, Nat.le_of_ble_eq_true rfl⟩, z⟩⟩
theorem a_Mo_nLeads_0 (D : Nat) (c : mC) (Q : mQ) : mAt (mRun D) 212 0 c Q = mWp (mRun D) 212 0 (fun pc c => mAt (mRun D) 212 pc c Q) Q bk_Mo_nLeads_0 c := mAt_blk rfl
theorem a_Mo_nLeads_32 (D : Nat) (c : mC) (Q : mQ) : mAt (mRun D) 212 32 c Q = mWp (mRun D) 212 33 (fun pc c => mAt (mRun D) 212 pc c Q) Q bk_Mo_nLeads_32 c := mAt_blk rfl
theorem a_Mo_nLeads_33 (D : Nat) (c : mC) (Q : mQ) : mAt (mRun D) 212 33 c Q = mWp (mRun D) 212 0 (fun pc c => mAt (mRun D) 212 pc c Q) Q bk_Mo_nLeads_33 c := mAt_blk rfl
theorem e_Mo_nLay (D : Nat) (x0 x1 x2 : mV) (I : mN) (S : mH) (Q : mQ) (h : mCs [x0, x1, x2] ≤ 3) : mRun (D + 1) 213 [x0, x1, x2] I S Q = mAt (mRun D) 213 0 ([some x0, some x1, some x2, none, none, none], [], I, S) Q := propext ⟨fun z => z.2, fun z => ⟨⟨h, Nat.le_of_ble_eq_true rfl⟩, z⟩⟩
theorem a_Mo_nLay_0 (D : Nat) (c : mC) (Q : mQ) : mAt (mRun D) 213 0 c Q = mWp (mRun D) 213 2 (fun pc c => mAt (mRun D) 213 pc c Q) Q bk_Mo_nLay_0 c := mAt_blk rfl
theorem a_Mo_nLay_2 (D : Nat) (c : mC) (Q : mQ) : mAt (mRun D) 213 2 c Q = mWp (mRun D) 213 0 (fun pc c => mAt (mRun D) 213 pc c Q) Q bk_Mo_nLay_2 c := mAt_blk rfl
theorem a_Mo_nLay_39 (D : Nat) (c : mC) (Q : mQ) : mAt (mRun D) 213 39 c Q = mWp (mRun D) 213 41 (fun pc c => mAt (mRun D) 213 pc c Q) Q bk_Mo_nLay_39 c := mAt_blk rfl
theorem a_Mo_nLay_41 (D : Nat) (c : mC) (Q : mQ) : mAt (mRun D) 213 41 c Q = mWp (mRun D) 213 53 (fun pc c => mAt (mRun D) 213 pc c Q) Q bk_Mo_nLay_41 c := mAt_blk rfl
theorem a_Mo_nLay_53 (D : Nat) (c : mC) (Q : mQ) : mAt (mRun D) 213 53 c Q = mWp (mRun D) 213 119 (fun pc c => mAt (mRun D) 213 pc c Q) Q bk_Mo_nLay_53 c := mAt_blk rfl
theorem a_Mo_nLay_119 (D : Nat) (c : mC) (Q : mQ) : mAt (mRun D) 213 119 c Q = mWp (mRun D) 213 0 (fun pc c => mAt (mRun D) 213 pc c Q) Q bk_Mo_nLay_119 c := mAt_blk rfl
theorem a_Mo_nLay_125 (D : Nat) (c : mC) (Q : mQ) : mAt (mRun D) 213 125 c Q = mWp (mRun D) 213 0 (fun pc c => mAt (mRun D) 213 pc c Q) Q bk_Mo_nLay_125 c := mAt_blk rfl
theorem a_Mo_nLay_131 (D : Nat) (c : mC) (Q : mQ) : mAt (mRun D) 213 131 c Q = mWp (mRun D) 213 133 (fun pc c => mAt (mRun D) 213 pc c Q) Q bk_Mo_nLay_131 c := mAt_blk rfl
theorem a_Mo_nLay_133 (D : Nat) (c : mC) (Q : mQ) : mAt (mRun D) 213 133 c Q = mWp (mRun D) 213 145 (fun pc c => mAt (mRun D) 213 pc c Q) Q bk_Mo_nLay_133 c := mAt_blk rfl
theorem a_Mo_nLay_145 (D : Nat) (c : mC) (Q : mQ) : mAt (mRun D) 213 145 c Q = mWp (mRun D) 213 190 (fun pc c => mAt (mRun D) 213 pc c Q) Q bk_Mo_nLay_145 c := mAt_blk rfl
theorem a_Mo_nLay_190 (D : Nat) (c : mC) (Q : mQ) : mAt (mRun D) 213 190 c Q = mWp (mRun D) 213 0 (fun pc c => mAt (mRun D) 213 pc c Q) Q bk_Mo_nLay_190 c := mAt_blk rfl
theorem a_Mo_nLay_217 (D : Nat) (c : mC) (Q : mQ) : mAt (mRun D) 213 217 c Q = mWp (mRun D) 213 0 (fun pc c => mAt (mRun D) 213 pc c Q) Q bk_Mo_nLay_217 c := mAt_blk rfl
theorem a_Mo_nLay_223 (D : Nat) (c : mC) (Q : mQ) : mAt (mRun D) 213 223 c Q = mWp (mRun D) 213 0 (fun pc c => mAt (mRun D) 213 pc c Q) Q bk_Mo_nLay_223 c := mAt_blk rfl
theorem e_Mo_nListArcs (D : Nat) (x0 : mV) (I : mN) (S : mH) (Q : mQ) (h : mCs [x0] ≤ 1) : mRun (D + 1) 214 [x0] I S Q = mAt (mRun D) 214 0 ([some x0, none], [], I, S) Q := propext ⟨fun z => z.2, fun z => ⟨⟨h, Nat.le_of_ble_eq_true rfl⟩, z⟩⟩
theorem a_Mo_nListArcs_0 (D : Nat) (c : mC) (Q : mQ) : mAt (mRun D) 214 0 c Q = mWp (mRun D) 214 2 (fun pc c => mAt (mRun D) 214 pc c Q) Q bk_Mo_nListArcs_0 c := mAt_blk rfl
theorem a_Mo_nListArcs_2 (D : Nat) (c : mC) (Q : mQ) : mAt (mRun D) 214 2 c Q = mWp (mRun D) 214 0 (fun pc c => mAt (mRun D) 214 pc c Q) Q bk_Mo_nListArcs_2 c := mAt_blk rfl
theorem a_Mo_nListArcs_21 (D : Nat) (c : mC) (Q : mQ) : mAt (mRun D) 214 21 c Q = mWp (mRun D) 214 23 (fun pc c => mAt (mRun D) 214 pc c Q) Q bk_Mo_nListArcs_21 c := mAt_blk rfl
theorem a_Mo_nListArcs_23 (D : Nat) (c : mC) (Q : mQ) : mAt (mRun D) 214 23 c Q = mWp (mRun D) 214 73 (fun pc c => mAt (mRun D) 214 pc c Q) Q bk_Mo_nListArcs_23 c := mAt_blk rfl
theorem a_Mo_nListArcs_73 (D : Nat) (c : mC) (Q : mQ) : mAt (mRun D) 214 73 c Q = mWp (mRun D) 214 0 (fun pc c => mAt (mRun D) 214 pc c Q) Q bk_Mo_nListArcs_73 c := mAt_blk rfl
theorem a_Mo_nListArcs_79 (D : Nat) (c : mC) (Q : mQ) : mAt (mRun D) 214 79 c Q = mWp (mRun D) 214 81 (fun pc c => mAt (mRun D) 214 pc c Q) Q bk_Mo_nListArcs_79 c := mAt_blk rfl
theorem a_Mo_nListArcs_81 (D : Nat) (c : mC) (Q : mQ) : mAt (mRun D) 214 81 c Q = mWp (mRun D) 214 0 (fun pc c => mAt (mRun D) 214 pc c Q) Q bk_Mo_nListArcs_81 c := mAt_blk rfl
theorem a_Mo_nListArcs_122 (D : Nat) (c : mC) (Q : mQ) : mAt (mRun D) 214 122 c Q = mWp (mRun D) 214 124 (fun pc c => mAt (mRun D) 214 pc c Q) Q bk_Mo_nListArcs_122 c := mAt_blk rfl
theorem a_Mo_nListArcs_124 (D : Nat) (c : mC) (Q : mQ) : mAt (mRun D) 214 124 c Q = mWp (mRun D) 214 184 (fun pc c => mAt (mRun D) 214 pc c Q) Q bk_Mo_nListArcs_124 c := mAt_blk rfl
theorem a_Mo_nListArcs_184 (D : Nat) (c : mC) (Q : mQ) : mAt (mRun D) 214 184 c Q = mWp (mRun D) 214 0 (fun pc c => mAt (mRun D) 214 pc c Q) Q bk_Mo_nListArcs_184 c := mAt_blk rfl
theorem a_Mo_nListArcs_190 (D : Nat) (c : mC) (Q : mQ) : mAt (mRun D) 214 190 c Q = mWp (mRun D) 214 0 (fun pc c => mAt (mRun D) 214 pc c Q) Q bk_Mo_nListArcs_190 c := mAt_blk rfl
theorem e_Mo_nFind (D : Nat) (x0 x1 x2 : mV) (I : mN) (S : mH) (Q : mQ) (h : mCs [x0, x1, x2] ≤ 3) : mRun (D + 1) 215 [x0, x1, x2] I S Q = mAt (mRun D) 215 0 ([some x0, some x1, some x2, none, none, none, none, none, none, none, none], [], I, S) Q := propext ⟨fun z => z.2, fun z => ⟨⟨h, Nat.le_of_ble_eq_true rfl⟩, z⟩⟩
theorem a_Mo_nFind_0 (D : Nat) (c : mC) (Q : mQ) : mAt (mRun D) 215 0 c Q = mWp (mRun D) 215 2 (fun pc c => mAt (mRun D) 215 pc c Q) Q bk_Mo_nFind_0 c := mAt_blk rfl
theorem a_Mo_nFind_2 (D : Nat) (c : mC) (Q : mQ) : mAt (mRun D) 215 2 c Q = mWp (mRun D) 215 0 (fun pc c => mAt (mRun D) 215 pc c Q) Q bk_Mo_nFind_2 c := mAt_blk rfl
theorem a_Mo_nFind_21 (D : Nat) (c : mC) (Q : mQ) : mAt (mRun D) 215 21 c Q = mWp (mRun D) 215 40 (fun pc c => mAt (mRun D) 215 pc c Q) Q bk_Mo_nFind_21 c := mAt_blk rfl
theorem a_Mo_nFind_40 (D : Nat) (c : mC) (Q : mQ) : mAt (mRun D) 215 40 c Q = mWp (mRun D) 215 64 (fun pc c => mAt (mRun D) 215 pc c Q) Q bk_Mo_nFind_40 c := mAt_blk rfl
theorem a_Mo_nFind_64 (D : Nat) (c : mC) (Q : mQ) : mAt (mRun D) 215 64 c Q = mWp (mRun D) 215 0 (fun pc c => mAt (mRun D) 215 pc c Q) Q bk_Mo_nFind_64 c := mAt_blk rfl
theorem a_Mo_nFind_103 (D : Nat) (c : mC) (Q : mQ) : mAt (mRun D) 215 103 c Q = mWp (mRun D) 215 104 (fun pc c => mAt (mRun D) 215 pc c Q) Q bk_Mo_nFind_103 c := mAt_blk rfl
theorem a_Mo_nFind_104 (D : Nat) (c : mC) (Q : mQ) : mAt (mRun D) 215 104 c Q = mWp (mRun D) 215 0 (fun pc c => mAt (mRun D) 215 pc c Q) Q bk_Mo_nFind_104 c := mAt_blk rfl
theorem a_Mo_nFind_121 (D : Nat) (c : mC) (Q : mQ) : mAt (mRun D) 215 121 c Q = mWp (mRun D) 215 128 (fun pc c => mAt (mRun D) 215 pc c Q) Q bk_Mo_nFind_121 c := mAt_blk rfl
theorem a_Mo_nFind_128 (D : Nat) (c : mC) (Q : mQ) : mAt (mRun D) 215 128 c Q = mWp (mRun D) 215 0 (fun pc c => mAt (mRun D) 215 pc c Q) Q bk_Mo_nFind_128 c := mAt_blk rfl
theorem a_Mo_nFind_165 (D : Nat) (c : mC) (Q : mQ) : mAt (mRun D) 215 165 c Q = mWp (mRun D) 215 175 (fun pc c => mAt (mRun D) 215 pc c Q) Q bk_Mo_nFind_165 c := mAt_blk rfl
theorem a_Mo_nFind_175 (D : Nat) (c : mC) (Q : mQ) : mAt (mRun D) 215 175 c Q = mWp (mRun D) 215 0 (fun pc c => mAt (mRun D) 215 pc c Q) Q bk_Mo_nFind_175 c := mAt_blk rfl
theorem a_Mo_nFind_179 (D : Nat) (c : mC) (Q : mQ) : mAt (mRun D) 215 179 c Q = mWp (mRun D) 215 180 (fun pc c => mAt (mRun D) 215 pc c Q) Q bk_Mo_nFind_179 c := mAt_blk rfl
theorem a_Mo_nFind_180 (D : Nat) (c : mC) (Q : mQ) : mAt (mRun D) 215 180 c Q = mWp (mRun D) 215 0 (fun pc c => mAt (mRun D) 215 pc c Q) Q bk_Mo_nFind_180 c := mAt_blk rfl
theorem a_Mo_nFind_233 (D : Nat) (c : mC) (Q : mQ) : mAt (mRun D) 215 233 c Q = mWp (mRun D) 215 0 (fun pc c => mAt (mRun D) 215 pc c Q) Q bk_Mo_nFind_233 c := mAt_blk rfl
theorem a_Mo_nFind_239 (D : Nat) (c : mC) (Q : mQ) : mAt (mRun D) 215 239 c Q = mWp (mRun D) 215 0 (fun pc c => mAt (mRun D) 215 pc c Q) Q bk_Mo_nFind_239 c := mAt_blk rfl
theorem a_Mo_nFind_245 (D : Nat) (c : mC) (Q : mQ) : mAt (mRun D) 215 245 c Q = mWp (mRun D) 215 0 (fun pc c => mAt (mRun D) 215 pc c Q) Q bk_Mo_nFind_245 c := mAt_blk rfl
theorem e_Mo_nSend (D : Nat) (x0 x1 x2 x3 : mV) (I : mN) (S : mH) (Q : mQ) (h : mCs [x0, x1, x2, x3] ≤ 4) : mRun (D + 1) 216 [x0, x1, x2, x3] I S Q = mAt (mRun D) 216 0 ([some x0, some x1, some x2, some x3, none, none, none], [], I, S) Q := propext ⟨fun z => z.2, fun z => ⟨⟨h, Nat.le_of_ble_eq_true rfl⟩, z⟩⟩
theorem a_Mo_nSend_0 (D : Nat) (c : mC) (Q : mQ) : mAt (mRun D) 216 0 c Q = mWp (mRun D) 216 6 (fun pc c => mAt (mRun D) 216 pc c Q) Q bk_Mo_nSend_0 c := mAt_blk rfl
theorem a_Mo_nSend_6 (D : Nat) (c : mC) (Q : mQ) : mAt (mRun D) 216 6 c Q = mWp (mRun D) 216 0 (fun pc c => mAt (mRun D) 216 pc c Q) Q bk_Mo_nSend_6 c := mAt_blk rfl
theorem a_Mo_nSend_53 (D : Nat) (c : mC) (Q : mQ) : mAt (mRun D) 216 53 c Q = mWp (mRun D) 216 60 (fun pc c => mAt (mRun D) 216 pc c Q) Q bk_Mo_nSend_53 c := mAt_blk rfl
theorem a_Mo_nSend_60 (D : Nat) (c : mC) (Q : mQ) : mAt (mRun D) 216 60 c Q = mWp (mRun D) 216 0 (fun pc c => mAt (mRun D) 216 pc c Q) Q bk_Mo_nSend_60 c := mAt_blk rfl
theorem a_Mo_nSend_76 (D : Nat) (c : mC) (Q : mQ) : mAt (mRun D) 216 76 c Q = mWp (mRun D) 216 79 (fun pc c => mAt (mRun D) 216 pc c Q) Q bk_Mo_nSend_76 c := mAt_blk rfl
theorem a_Mo_nSend_79 (D : Nat) (c : mC) (Q : mQ) : mAt (mRun D) 216 79 c Q = mWp (mRun D) 216 0 (fun pc c => mAt (mRun D) 216 pc c Q) Q bk_Mo_nSend_79 c := mAt_blk rfl
theorem a_Mo_nSend_119 (D : Nat) (c : mC) (Q : mQ) : mAt (mRun D) 216 119 c Q = mWp (mRun D) 216 122 (fun pc c => mAt (mRun D) 216 pc c Q) Q bk_Mo_nSend_119 c := mAt_blk rfl
theorem a_Mo_nSend_122 (D : Nat) (c : mC) (Q : mQ) : mAt (mRun D) 216 122 c Q = mWp (mRun D) 216 0 (fun pc c => mAt (mRun D) 216 pc c Q) Q bk_Mo_nSend_122 c := mAt_blk rfl
theorem a_Mo_nSend_135 (D : Nat) (c : mC) (Q : mQ) : mAt (mRun D) 216 135 c Q = mWp (mRun D) 216 0 (fun pc c => mAt (mRun D) 216 pc c Q) Q bk_Mo_nSend_135 c := mAt_blk rfl
theorem e_Mo_nBehind (D : Nat) (x0 x1 : mV) (I : mN) (S : mH) (Q : mQ) (h : mCs [x0, x1] ≤ 2) : mRun (D + 1) 217 [x0, x1] I S Q = mAt (mRun D) 217 0 ([some x0, some x1, none], [], I, S) Q := propext ⟨fun z => z.2, fun z => ⟨⟨h, Nat.le_of_ble_eq_true rfl⟩, z⟩⟩
theorem a_Mo_nBehind_0 (D : Nat) (c : mC) (Q : mQ) : mAt (mRun D) 217 0 c Q = mWp (mRun D) 217 0 (fun pc c => mAt (mRun D) 217 pc c Q) Q bk_Mo_nBehind_0 c := mAt_blk rfl
theorem a_Mo_nBehind_26 (D : Nat) (c : mC) (Q : mQ) : mAt (mRun D) 217 26 c Q = mWp (mRun D) 217 32 (fun pc c => mAt (mRun D) 217 pc c Q) Q bk_Mo_nBehind_26 c := mAt_blk rfl
theorem a_Mo_nBehind_32 (D : Nat) (c : mC) (Q : mQ) : mAt (mRun D) 217 32 c Q = mWp (mRun D) 217 0 (fun pc c => mAt (mRun D) 217 pc c Q) Q bk_Mo_nBehind_32 c := mAt_blk rfl
theorem e_Mo_nBring (D : Nat) (x0 x1 x2 : mV) (I : mN) (S : mH) (Q : mQ) (h : mCs [x0, x1, x2] ≤ 3) : mRun (D + 1) 218 [x0, x1, x2] I S Q = mAt (mRun D) 218 0 ([some x0, some x1, some x2, none], [], I, S) Q := propext ⟨fun z => z.2, fun z => ⟨⟨h, Nat.le_of_ble_eq_true rfl⟩, z⟩⟩
theorem a_Mo_nBring_0 (D : Nat) (c : mC) (Q : mQ) : mAt (mRun D) 218 0 c Q = mWp (mRun D) 218 2 (fun pc c => mAt (mRun D) 218 pc c Q) Q bk_Mo_nBring_0 c := mAt_blk rfl
theorem a_Mo_nBring_2 (D : Nat) (c : mC) (Q : mQ) : mAt (mRun D) 218 2 c Q = mWp (mRun D) 218 0 (fun pc c => mAt (mRun D) 218 pc c Q) Q bk_Mo_nBring_2 c := mAt_blk rfl
theorem a_Mo_nBring_33 (D : Nat) (c : mC) (Q : mQ) : mAt (mRun D) 218 33 c Q = mWp (mRun D) 218 0 (fun pc c => mAt (mRun D) 218 pc c Q) Q bk_Mo_nBring_33 c := mAt_blk rfl
theorem e_Mo_nSort (D : Nat) (x0 x1 : mV) (I : mN) (S : mH) (Q : mQ) (h : mCs [x0, x1] ≤ 2) : mRun (D + 1) 219 [x0, x1] I S Q = mAt (mRun D) 219 0 ([some x0, some x1, none, none], [], I, S) Q := propext ⟨fun z => z.2, fun z => ⟨⟨h, Nat.le_of_ble_eq_true rfl⟩, z⟩⟩
theorem a_Mo_nSort_0 (D : Nat) (c : mC) (Q : mQ) : mAt (mRun D) 219 0 c Q = mWp (mRun D) 219 2 (fun pc c => mAt (mRun D) 219 pc c Q) Q bk_Mo_nSort_0 c := mAt_blk rfl
theorem a_Mo_nSort_2 (D : Nat) (c : mC) (Q : mQ) : mAt (mRun D) 219 2 c Q = mWp (mRun D) 219 11 (fun pc c => mAt (mRun D) 219 pc c Q) Q bk_Mo_nSort_2 c := mAt_blk rfl
theorem a_Mo_nSort_11 (D : Nat) (c : mC) (Q : mQ) : mAt (mRun D) 219 11 c Q = mWp (mRun D) 219 0 (fun pc c => mAt (mRun D) 219 pc c Q) Q bk_Mo_nSort_11 c := mAt_blk rfl
theorem a_Mo_nSort_51 (D : Nat) (c : mC) (Q : mQ) : mAt (mRun D) 219 51 c Q = mWp (mRun D) 219 0 (fun pc c => mAt (mRun D) 219 pc c Q) Q bk_Mo_nSort_51 c := mAt_blk rfl
theorem a_Mo_nSort_64 (D : Nat) (c : mC) (Q : mQ) : mAt (mRun D) 219 64 c Q = mWp (mRun D) 219 0 (fun pc c => mAt (mRun D) 219 pc c Q) Q bk_Mo_nSort_64 c := mAt_blk rfl
theorem e_Mo_plan (D : Nat) (x0 x1 x2 x3 : mV) (I : mN) (S : mH) (Q : mQ) (h : mCs [x0, x1, x2, x3] ≤ 4) : mRun (D + 1) 220 [x0, x1, x2, x3] I S Q = mAt (mRun D) 220 0 ([some x0, some x1, some x2, some x3, none, none, none, none], [], I, S) Q := propext ⟨fun z => z.2, fun z => ⟨⟨h, Nat.le_of_ble_eq_true rfl⟩, z⟩⟩
theorem a_Mo_plan_0 (D : Nat) (c : mC) (Q : mQ) : mAt (mRun D) 220 0 c Q = mWp (mRun D) 220 3 (fun pc c => mAt (mRun D) 220 pc c Q) Q bk_Mo_plan_0 c := mAt_blk rfl
theorem a_Mo_plan_3 (D : Nat) (c : mC) (Q : mQ) : mAt (mRun D) 220 3 c Q = mWp (mRun D) 220 0 (fun pc c => mAt (mRun D) 220 pc c Q) Q bk_Mo_plan_3 c := mAt_blk rfl
theorem a_Mo_plan_21 (D : Nat) (c : mC) (Q : mQ) : mAt (mRun D) 220 21 c Q = mWp (mRun D) 220 35 (fun pc c => mAt (mRun D) 220 pc c Q) Q bk_Mo_plan_21 c := mAt_blk rfl
theorem a_Mo_plan_35 (D : Nat) (c : mC) (Q : mQ) : mAt (mRun D) 220 35 c Q = mWp (mRun D) 220 55 (fun pc c => mAt (mRun D) 220 pc c Q) Q bk_Mo_plan_35 c := mAt_blk rfl
theorem a_Mo_plan_55 (D : Nat) (c : mC) (Q : mQ) : mAt (mRun D) 220 55 c Q = mWp (mRun D) 220 0 (fun pc c => mAt (mRun D) 220 pc c Q) Q bk_Mo_plan_55 c := mAt_blk rfl
theorem a_Mo_plan_94 (D : Nat) (c : mC) (Q : mQ) : mAt (mRun D) 220 94 c Q = mWp (mRun D) 220 120 (fun pc c => mAt (mRun D) 220 pc c Q) Q bk_Mo_plan_94 c := mAt_blk rfl
theorem a_Mo_plan_120 (D : Nat) (c : mC) (Q : mQ) : mAt (mRun D) 220 120 c Q = mWp (mRun D) 220 0 (fun pc c => mAt (mRun D) 220 pc c Q) Q bk_Mo_plan_120 c := mAt_blk rfl
theorem a_Mo_plan_127 (D : Nat) (c : mC) (Q : mQ) : mAt (mRun D) 220 127 c Q = mWp (mRun D) 220 0 (fun pc c => mAt (mRun D) 220 pc c Q) Q bk_Mo_plan_127 c := mAt_blk rfl
theorem a_Mo_plan_133 (D : Nat) (c : mC) (Q : mQ) : mAt (mRun D) 220 133 c Q = mWp (mRun D) 220 0 (fun pc c => mAt (mRun D) 220 pc c Q) Q bk_Mo_plan_133 c := mAt_blk rfl
theorem e_Mo_forget (D : Nat) (x0 : mV) (I : mN) (S : mH) (Q : mQ) (h : mCs [x0] ≤ 1) : mRun (D + 1) 221 [x0] I S Q = mAt (mRun D) 221 0 ([some x0, none], [], I, S) Q := propext ⟨fun z => z.2, fun z => ⟨⟨h, Nat.le_of_ble_eq_true rfl⟩, z⟩⟩
theorem a_Mo_forget_0 (D : Nat) (c : mC) (Q : mQ) : mAt (mRun D) 221 0 c Q = mWp (mRun D) 221 2 (fun pc c => mAt (mRun D) 221 pc c Q) Q bk_Mo_forget_0 c := mAt_blk rfl
theorem a_Mo_forget_2 (D : Nat) (c : mC) (Q : mQ) : mAt (mRun D) 221 2 c Q = mWp (mRun D) 221 0 (fun pc c => mAt (mRun D) 221 pc c Q) Q bk_Mo_forget_2 c := mAt_blk rfl
theorem a_Mo_forget_20 (D : Nat) (c : mC) (Q : mQ) : mAt (mRun D) 221 20 c Q = mWp (mRun D) 221 0 (fun pc c => mAt (mRun D) 221 pc c Q) Q bk_Mo_forget_20 c := mAt_blk rfl
theorem e_Mo_amounts (D : Nat) (x0 x1 : mV) (I : mN) (S : mH) (Q : mQ) (h : mCs [x0, x1] ≤ 2) : mRun (D + 1) 222 [x0, x1] I S Q = mAt (mRun D) 222 0 ([some x0, some x1, none], [], I, S) Q := propext ⟨fun z => z.2, fun z => ⟨⟨h, Nat.le_of_ble_eq_true rfl⟩, z⟩⟩
theorem a_Mo_amounts_0 (D : Nat) (c : mC) (Q : mQ) : mAt (mRun D) 222 0 c Q = mWp (mRun D) 222 0 (fun pc c => mAt (mRun D) 222 pc c Q) Q bk_Mo_amounts_0 c := mAt_blk rfl
theorem a_Mo_amounts_11 (D : Nat) (c : mC) (Q : mQ) : mAt (mRun D) 222 11 c Q = mWp (mRun D) 222 0 (fun pc c => mAt (mRun D) 222 pc c Q) Q bk_Mo_amounts_11 c := mAt_blk rfl
theorem a_Mo_amounts_23 (D : Nat) (c : mC) (Q : mQ) : mAt (mRun D) 222 23 c Q = mWp (mRun D) 222 27 (fun pc c => mAt (mRun D) 222 pc c Q) Q bk_Mo_amounts_23 c := mAt_blk rfl
theorem a_Mo_amounts_27 (D : Nat) (c : mC) (Q : mQ) : mAt (mRun D) 222 27 c Q = mWp (mRun D) 222 54 (fun pc c => mAt (mRun D) 222 pc c Q) Q bk_Mo_amounts_27 c := mAt_blk rfl
theorem a_Mo_amounts_54 (D : Nat) (c : mC) (Q : mQ) : mAt (mRun D) 222 54 c Q = mWp (mRun D) 222 0 (fun pc c => mAt (mRun D) 222 pc c Q) Q bk_Mo_amounts_54 c := mAt_blk rfl
theorem e_Mo_amount (D : Nat) (x0 x1 x2 x3 : mV) (I : mN) (S : mH) (Q : mQ) (h : mCs [x0, x1, x2, x3] ≤ 4) : mRun (D + 1) 223 [x0, x1, x2, x3] I S Q = mAt (mRun D) 223 0 ([some x0, some x1, some x2, some x3], [], I, S) Q := propext ⟨fun z => z.2, fun z => ⟨⟨h, Nat.le_of_ble_eq_true rfl⟩, z⟩⟩
theorem a_Mo_amount_0 (D : Nat) (c : mC) (Q : mQ) : mAt (mRun D) 223 0 c Q = mWp (mRun D) 223 0 (fun pc c => mAt (mRun D) 223 pc c Q) Q bk_Mo_amount_0 c := mAt_blk rfl
theorem e_Mo_nFindWay (D : Nat) (x0 : mV) (I : mN) (S : mH) (Q : mQ) (h : mCs [x0] ≤ 1) : mRun (D + 1) 224 [x0] I S Q = mAt (mRun D) 224 0 ([some x0, none, none, none, none], [], I, S) Q := propext ⟨fun z => z.2, fun z => ⟨⟨h, Nat.le_of_ble_eq_true rfl⟩, z⟩⟩
theorem a_Mo_nFindWay_0 (D : Nat) (c : mC) (Q : mQ) : mAt (mRun D) 224 0 c Q = mWp (mRun D) 224 0 (fun pc c => mAt (mRun D) 224 pc c Q) Q bk_Mo_nFindWay_0 c := mAt_blk rfl
theorem a_Mo_nFindWay_8 (D : Nat) (c : mC) (Q : mQ) : mAt (mRun D) 224 8 c Q = mWp (mRun D) 224 30 (fun pc c => mAt (mRun D) 224 pc c Q) Q bk_Mo_nFindWay_8 c := mAt_blk rfl
theorem a_Mo_nFindWay_30 (D : Nat) (c : mC) (Q : mQ) : mAt (mRun D) 224 30 c Q = mWp (mRun D) 224 38 (fun pc c => mAt (mRun D) 224 pc c Q) Q bk_Mo_nFindWay_30 c := mAt_blk rfl
theorem a_Mo_nFindWay_38 (D : Nat) (c : mC) (Q : mQ) : mAt (mRun D) 224 38 c Q = mWp (mRun D) 224 0 (fun pc c => mAt (mRun D) 224 pc c Q) Q bk_Mo_nFindWay_38 c := mAt_blk rfl
theorem a_Mo_nFindWay_79 (D : Nat) (c : mC) (Q : mQ) : mAt (mRun D) 224 79 c Q = mWp (mRun D) 224 84 (fun pc c => mAt (mRun D) 224 pc c Q) Q bk_Mo_nFindWay_79 c := mAt_blk rfl
theorem a_Mo_nFindWay_84 (D : Nat) (c : mC) (Q : mQ) : mAt (mRun D) 224 84 c Q = mWp (mRun D) 224 0 (fun pc c => mAt (mRun D) 224 pc c Q) Q bk_Mo_nFindWay_84 c := mAt_blk rfl
theorem a_Mo_nFindWay_91 (D : Nat) (c : mC) (Q : mQ) : mAt (mRun D) 224 91 c Q = mWp (mRun D) 224 0 (fun pc c => mAt (mRun D) 224 pc c Q) Q bk_Mo_nFindWay_91 c := mAt_blk rfl
theorem a_Mo_nFindWay_97 (D : Nat) (c : mC) (Q : mQ) : mAt (mRun D) 224 97 c Q = mWp (mRun D) 224 99 (fun pc c => mAt (mRun D) 224 pc c Q) Q bk_Mo_nFindWay_97 c := mAt_blk rfl
theorem a_Mo_nFindWay_99 (D : Nat) (c : mC) (Q : mQ) : mAt (mRun D) 224 99 c Q = mWp (mRun D) 224 107 (fun pc c => mAt (mRun D) 224 pc c Q) Q bk_Mo_nFindWay_99 c := mAt_blk rfl
theorem a_Mo_nFindWay_107 (D : Nat) (c : mC) (Q : mQ) : mAt (mRun D) 224 107 c Q = mWp (mRun D) 224 0 (fun pc c => mAt (mRun D) 224 pc c Q) Q bk_Mo_nFindWay_107 c := mAt_blk rfl
theorem a_Mo_nFindWay_172 (D : Nat) (c : mC) (Q : mQ) : mAt (mRun D) 224 172 c Q = mWp (mRun D) 224 204 (fun pc c => mAt (mRun D) 224 pc c Q) Q bk_Mo_nFindWay_172 c := mAt_blk rfl
theorem a_Mo_nFindWay_204 (D : Nat) (c : mC) (Q : mQ) : mAt (mRun D) 224 204 c Q = mWp (mRun D) 224 0 (fun pc c => mAt (mRun D) 224 pc c Q) Q bk_Mo_nFindWay_204 c := mAt_blk rfl
theorem a_Mo_nFindWay_267 (D : Nat) (c : mC) (Q : mQ) : mAt (mRun D) 224 267 c Q = mWp (mRun D) 224 0 (fun pc c => mAt (mRun D) 224 pc c Q) Q bk_Mo_nFindWay_267 c := mAt_blk rfl
theorem a_Mo_nFindWay_273 (D : Nat) (c : mC) (Q : mQ) : mAt (mRun D) 224 273 c Q = mWp (mRun D) 224 0 (fun pc c => mAt (mRun D) 224 pc c Q) Q bk_Mo_nFindWay_273 c := mAt_blk rfl
theorem e_Mo_nSettle (D : Nat) (x0 x1 : mV) (I : mN) (S : mH) (Q : mQ) (h : mCs [x0, x1] ≤ 2) : mRun (D + 1) 225 [x0, x1] I S Q = mAt (mRun D) 225 0 ([some x0, some x1], [], I, S) Q := propext ⟨fun z => z.2, fun z => ⟨⟨h, Nat.le_of_ble_eq_true rfl⟩, z⟩⟩
theorem a_Mo_nSettle_0 (D : Nat) (c : mC) (Q : mQ) : mAt (mRun D) 225 0 c Q = mWp (mRun D) 225 7 (fun pc c => mAt (mRun D) 225 pc c Q) Q bk_Mo_nSettle_0 c := mAt_blk rfl
theorem a_Mo_nSettle_7 (D : Nat) (c : mC) (Q : mQ) : mAt (mRun D) 225 7 c Q = mWp (mRun D) 225 0 (fun pc c => mAt (mRun D) 225 pc c Q) Q bk_Mo_nSettle_7 c := mAt_blk rfl
theorem a_Mo_nSettle_69 (D : Nat) (c : mC) (Q : mQ) : mAt (mRun D) 225 69 c Q = mWp (mRun D) 225 0 (fun pc c => mAt (mRun D) 225 pc c Q) Q bk_Mo_nSettle_69 c := mAt_blk rfl
theorem e_Mo_nLeft (D : Nat) (x0 x1 x2 : mV) (I : mN) (S : mH) (Q : mQ) (h : mCs [x0, x1, x2] ≤ 3) : mRun (D + 1) 226 [x0, x1, x2] I S Q = mAt (mRun D) 226 0 ([some x0, some x1, some x2, none, none, none], [], I, S) Q := propext ⟨fun z => z.2, fun z => ⟨⟨h, Nat.le_of_ble_eq_true rfl⟩, z⟩⟩
theorem a_Mo_nLeft_0 (D : Nat) (c : mC) (Q : mQ) : mAt (mRun D) 226 0 c Q = mWp (mRun D) 226 41 (fun pc c => mAt (mRun D) 226 pc c Q) Q bk_Mo_nLeft_0 c := mAt_blk rfl
theorem a_Mo_nLeft_41 (D : Nat) (c : mC) (Q : mQ) : mAt (mRun D) 226 41 c Q = mWp (mRun D) 226 0 (fun pc c => mAt (mRun D) 226 pc c Q) Q bk_Mo_nLeft_41 c := mAt_blk rfl
theorem a_Mo_nLeft_108 (D : Nat) (c : mC) (Q : mQ) : mAt (mRun D) 226 108 c Q = mWp (mRun D) 226 109 (fun pc c => mAt (mRun D) 226 pc c Q) Q bk_Mo_nLeft_108 c := mAt_blk rfl
theorem a_Mo_nLeft_109 (D : Nat) (c : mC) (Q : mQ) : mAt (mRun D) 226 109 c Q = mWp (mRun D) 226 0 (fun pc c => mAt (mRun D) 226 pc c Q) Q bk_Mo_nLeft_109 c := mAt_blk rfl
theorem a_Mo_nLeft_141 (D : Nat) (c : mC) (Q : mQ) : mAt (mRun D) 226 141 c Q = mWp (mRun D) 226 142 (fun pc c => mAt (mRun D) 226 pc c Q) Q bk_Mo_nLeft_141 c := mAt_blk rfl
theorem a_Mo_nLeft_142 (D : Nat) (c : mC) (Q : mQ) : mAt (mRun D) 226 142 c Q = mWp (mRun D) 226 0 (fun pc c => mAt (mRun D) 226 pc c Q) Q bk_Mo_nLeft_142 c := mAt_blk rfl
theorem a_Mo_nLeft_150 (D : Nat) (c : mC) (Q : mQ) : mAt (mRun D) 226 150 c Q = mWp (mRun D) 226 153 (fun pc c => mAt (mRun D) 226 pc c Q) Q bk_Mo_nLeft_150 c := mAt_blk rfl
theorem a_Mo_nLeft_153 (D : Nat) (c : mC) (Q : mQ) : mAt (mRun D) 226 153 c Q = mWp (mRun D) 226 0 (fun pc c => mAt (mRun D) 226 pc c Q) Q bk_Mo_nLeft_153 c := mAt_blk rfl
theorem a_Mo_nLeft_194 (D : Nat) (c : mC) (Q : mQ) : mAt (mRun D) 226 194 c Q = mWp (mRun D) 226 195 (fun pc c => mAt (mRun D) 226 pc c Q) Q bk_Mo_nLeft_194 c := mAt_blk rfl
theorem a_Mo_nLeft_195 (D : Nat) (c : mC) (Q : mQ) : mAt (mRun D) 226 195 c Q = mWp (mRun D) 226 0 (fun pc c => mAt (mRun D) 226 pc c Q) Q bk_Mo_nLeft_195 c := mAt_blk rfl
theorem a_Mo_nLeft_203 (D : Nat) (c : mC) (Q : mQ) : mAt (mRun D) 226 203 c Q = mWp (mRun D) 226 0 (fun pc c => mAt (mRun D) 226 pc c Q) Q bk_Mo_nLeft_203 c := mAt_blk rfl
theorem e_Mo_sentBy (D : Nat) (x0 x1 x2 : mV) (I : mN) (S : mH) (Q : mQ) (h : mCs [x0, x1, x2] ≤ 3) : mRun (D + 1) 227 [x0, x1, x2] I S Q = mAt (mRun D) 227 0 ([some x0, some x1, some x2], [], I, S) Q := propext ⟨fun z => z.2, fun z => ⟨⟨h, Nat.le_of_ble_eq_true rfl⟩, z⟩⟩
theorem a_Mo_sentBy_0 (D : Nat) (c : mC) (Q : mQ) : mAt (mRun D) 227 0 c Q = mWp (mRun D) 227 0 (fun pc c => mAt (mRun D) 227 pc c Q) Q bk_Mo_sentBy_0 c := mAt_blk rfl
theorem e_Mo_storedBy (D : Nat) (x0 x1 x2 : mV) (I : mN) (S : mH) (Q : mQ) (h : mCs [x0, x1, x2] ≤ 3) : mRun (D + 1) 228 [x0, x1, x2] I S Q = mAt (mRun D) 228 0 ([some x0, some x1, some x2], [], I, S) Q := propext ⟨fun z => z.2, fun z => ⟨⟨h, Nat.le_of_ble_eq_true rfl⟩, z⟩⟩
theorem a_Mo_storedBy_0 (D : Nat) (c : mC) (Q : mQ) : mAt (mRun D) 228 0 c Q = mWp (mRun D) 228 0 (fun pc c => mAt (mRun D) 228 pc c Q) Q bk_Mo_storedBy_0 c := mAt_blk rfl
theorem e_Mo_ranBy (D : Nat) (x0 x1 x2 : mV) (I : mN) (S : mH) (Q : mQ) (h : mCs [x0, x1, x2] ≤ 3) : mRun (D + 1) 229 [x0, x1, x2] I S Q = mAt (mRun D) 229 0 ([some x0, some x1, some x2], [], I, S) Q := propext ⟨fun z => z.2, fun z => ⟨⟨h, Nat.le_of_ble_eq_true rfl⟩, z⟩⟩
theorem a_Mo_ranBy_0 (D : Nat) (c : mC) (Q : mQ) : mAt (mRun D) 229 0 c Q = mWp (mRun D) 229 0 (fun pc c => mAt (mRun D) 229 pc c Q) Q bk_Mo_ranBy_0 c := mAt_blk rfl
theorem e_Mo_witness (D : Nat) (x0 x1 x2 x3 x4 x5 : mV) (I : mN) (S : mH) (Q : mQ) (h : mCs [x0, x1, x2, x3, x4, x5] ≤ 6) : mRun (D + 1) 230 [x0, x1, x2, x3, x4, x5] I S Q = mAt (mRun D) 230 0 ([some x0, some x1, some x2, some x3, some x4, some x5, none, none, none, none], [], I, S) Q := propext ⟨fun z => z.2, fun z => ⟨⟨h, Nat.le_of_ble_eq_true rfl⟩, z⟩⟩
theorem a_Mo_witness_0 (D : Nat) (c : mC) (Q : mQ) : mAt (mRun D) 230 0 c Q = mWp (mRun D) 230 17 (fun pc c => mAt (mRun D) 230 pc c Q) Q bk_Mo_witness_0 c := mAt_blk rfl
theorem a_Mo_witness_17 (D : Nat) (c : mC) (Q : mQ) : mAt (mRun D) 230 17 c Q = mWp (mRun D) 230 44 (fun pc c => mAt (mRun D) 230 pc c Q) Q bk_Mo_witness_17 c := mAt_blk rfl
theorem a_Mo_witness_44 (D : Nat) (c : mC) (Q : mQ) : mAt (mRun D) 230 44 c Q = mWp (mRun D) 230 0 (fun pc c => mAt (mRun D) 230 pc c Q) Q bk_Mo_witness_44 c := mAt_blk rfl
theorem a_Mo_witness_100 (D : Nat) (c : mC) (Q : mQ) : mAt (mRun D) 230 100 c Q = mWp (mRun D) 230 101 (fun pc c => mAt (mRun D) 230 pc c Q) Q bk_Mo_witness_100 c := mAt_blk rfl
theorem a_Mo_witness_101 (D : Nat) (c : mC) (Q : mQ) : mAt (mRun D) 230 101 c Q = mWp (mRun D) 230 0 (fun pc c => mAt (mRun D) 230 pc c Q) Q bk_Mo_witness_101 c := mAt_blk rfl
theorem a_Mo_witness_109 (D : Nat) (c : mC) (Q : mQ) : mAt (mRun D) 230 109 c Q = mWp (mRun D) 230 0 (fun pc c => mAt (mRun D) 230 pc c Q) Q bk_Mo_witness_109 c := mAt_blk rfl
theorem a_Mo_witness_115 (D : Nat) (c : mC) (Q : mQ) : mAt (mRun D) 230 115 c Q = mWp (mRun D) 230 137 (fun pc c => mAt (mRun D) 230 pc c Q) Q bk_Mo_witness_115 c := mAt_blk rfl
theorem a_Mo_witness_137 (D : Nat) (c : mC) (Q : mQ) : mAt (mRun D) 230 137 c Q = mWp (mRun D) 230 0 (fun pc c => mAt (mRun D) 230 pc c Q) Q bk_Mo_witness_137 c := mAt_blk rfl
theorem a_Mo_witness_162 (D : Nat) (c : mC) (Q : mQ) : mAt (mRun D) 230 162 c Q = mWp (mRun D) 230 0 (fun pc c => mAt (mRun D) 230 pc c Q) Q bk_Mo_witness_162 c := mAt_blk rfl
theorem a_Mo_witness_171 (D : Nat) (c : mC) (Q : mQ) : mAt (mRun D) 230 171 c Q = mWp (mRun D) 230 172 (fun pc c => mAt (mRun D) 230 pc c Q) Q bk_Mo_witness_171 c := mAt_blk rfl
theorem a_Mo_witness_172 (D : Nat) (c : mC) (Q : mQ) : mAt (mRun D) 230 172 c Q = mWp (mRun D) 230 0 (fun pc c => mAt (mRun D) 230 pc c Q) Q bk_Mo_witness_172 c := mAt_blk rfl
theorem e_Mo_nIsIn (D : Nat) (x0 x1 x2 x3 : mV) (I : mN) (S : mH) (Q : mQ) (h : mCs [x0, x1, x2, x3] ≤ 4) : mRun (D + 1) 231 [x0, x1, x2, x3] I S Q = mAt (mRun D) 231 0 ([some x0, some x1, some x2, some x3], [], I, S) Q := propext ⟨fun z => z.2, fun z => ⟨⟨h, Nat.le_of_ble_eq_true rfl⟩, z⟩⟩
theorem a_Mo_nIsIn_0 (D : Nat) (c : mC) (Q : mQ) : mAt (mRun D) 231 0 c Q = mWp (mRun D) 231 0 (fun pc c => mAt (mRun D) 231 pc c Q) Q bk_Mo_nIsIn_0 c := mAt_blk rfl
theorem a_Mo_nIsIn_34 (D : Nat) (c : mC) (Q : mQ) : mAt (mRun D) 231 34 c Q = mWp (mRun D) 231 35 (fun pc c => mAt (mRun D) 231 pc c Q) Q bk_Mo_nIsIn_34 c := mAt_blk rfl
theorem a_Mo_nIsIn_35 (D : Nat) (c : mC) (Q : mQ) : mAt (mRun D) 231 35 c Q = mWp (mRun D) 231 0 (fun pc c => mAt (mRun D) 231 pc c Q) Q bk_Mo_nIsIn_35 c := mAt_blk rfl
theorem e_Mo_waterInto (D : Nat) (x0 x1 x2 : mV) (I : mN) (S : mH) (Q : mQ) (h : mCs [x0, x1, x2] ≤ 3) : mRun (D + 1) 232 [x0, x1, x2] I S Q = mAt (mRun D) 232 0 ([some x0, some x1, some x2, none, none, none, none], [], I, S) Q := propext ⟨fun z => z.2, fun z => ⟨⟨h, Nat.le_of_ble_eq_true rfl⟩, z⟩⟩
theorem a_Mo_waterInto_0 (D : Nat) (c : mC) (Q : mQ) : mAt (mRun D) 232 0 c Q = mWp (mRun D) 232 5 (fun pc c => mAt (mRun D) 232 pc c Q) Q bk_Mo_waterInto_0 c := mAt_blk rfl
theorem a_Mo_waterInto_5 (D : Nat) (c : mC) (Q : mQ) : mAt (mRun D) 232 5 c Q = mWp (mRun D) 232 18 (fun pc c => mAt (mRun D) 232 pc c Q) Q bk_Mo_waterInto_5 c := mAt_blk rfl
theorem a_Mo_waterInto_18 (D : Nat) (c : mC) (Q : mQ) : mAt (mRun D) 232 18 c Q = mWp (mRun D) 232 0 (fun pc c => mAt (mRun D) 232 pc c Q) Q bk_Mo_waterInto_18 c := mAt_blk rfl
theorem a_Mo_waterInto_50 (D : Nat) (c : mC) (Q : mQ) : mAt (mRun D) 232 50 c Q = mWp (mRun D) 232 51 (fun pc c => mAt (mRun D) 232 pc c Q) Q bk_Mo_waterInto_50 c := mAt_blk rfl
theorem a_Mo_waterInto_51 (D : Nat) (c : mC) (Q : mQ) : mAt (mRun D) 232 51 c Q = mWp (mRun D) 232 0 (fun pc c => mAt (mRun D) 232 pc c Q) Q bk_Mo_waterInto_51 c := mAt_blk rfl
theorem a_Mo_waterInto_83 (D : Nat) (c : mC) (Q : mQ) : mAt (mRun D) 232 83 c Q = mWp (mRun D) 232 84 (fun pc c => mAt (mRun D) 232 pc c Q) Q bk_Mo_waterInto_83 c := mAt_blk rfl
theorem a_Mo_waterInto_84 (D : Nat) (c : mC) (Q : mQ) : mAt (mRun D) 232 84 c Q = mWp (mRun D) 232 0 (fun pc c => mAt (mRun D) 232 pc c Q) Q bk_Mo_waterInto_84 c := mAt_blk rfl
theorem a_Mo_waterInto_102 (D : Nat) (c : mC) (Q : mQ) : mAt (mRun D) 232 102 c Q = mWp (mRun D) 232 103 (fun pc c => mAt (mRun D) 232 pc c Q) Q bk_Mo_waterInto_102 c := mAt_blk rfl
theorem a_Mo_waterInto_103 (D : Nat) (c : mC) (Q : mQ) : mAt (mRun D) 232 103 c Q = mWp (mRun D) 232 0 (fun pc c => mAt (mRun D) 232 pc c Q) Q bk_Mo_waterInto_103 c := mAt_blk rfl
theorem a_Mo_waterInto_111 (D : Nat) (c : mC) (Q : mQ) : mAt (mRun D) 232 111 c Q = mWp (mRun D) 232 0 (fun pc c => mAt (mRun D) 232 pc c Q) Q bk_Mo_waterInto_111 c := mAt_blk rfl
theorem a_Mo_waterInto_117 (D : Nat) (c : mC) (Q : mQ) : mAt (mRun D) 232 117 c Q = mWp (mRun D) 232 120 (fun pc c => mAt (mRun D) 232 pc c Q) Q bk_Mo_waterInto_117 c := mAt_blk rfl
theorem a_Mo_waterInto_120 (D : Nat) (c : mC) (Q : mQ) : mAt (mRun D) 232 120 c Q = mWp (mRun D) 232 133 (fun pc c => mAt (mRun D) 232 pc c Q) Q bk_Mo_waterInto_120 c := mAt_blk rfl
theorem a_Mo_waterInto_133 (D : Nat) (c : mC) (Q : mQ) : mAt (mRun D) 232 133 c Q = mWp (mRun D) 232 0 (fun pc c => mAt (mRun D) 232 pc c Q) Q bk_Mo_waterInto_133 c := mAt_blk rfl
theorem a_Mo_waterInto_197 (D : Nat) (c : mC) (Q : mQ) : mAt (mRun D) 232 197 c Q = mWp (mRun D) 232 198 (fun pc c => mAt (mRun D) 232 pc c Q) Q bk_Mo_waterInto_197 c := mAt_blk rfl
theorem a_Mo_waterInto_198 (D : Nat) (c : mC) (Q : mQ) : mAt (mRun D) 232 198 c Q = mWp (mRun D) 232 0 (fun pc c => mAt (mRun D) 232 pc c Q) Q bk_Mo_waterInto_198 c := mAt_blk rfl
theorem a_Mo_waterInto_219 (D : Nat) (c : mC) (Q : mQ) : mAt (mRun D) 232 219 c Q = mWp (mRun D) 232 220 (fun pc c => mAt (mRun D) 232 pc c Q) Q bk_Mo_waterInto_219 c := mAt_blk rfl
theorem a_Mo_waterInto_220 (D : Nat) (c : mC) (Q : mQ) : mAt (mRun D) 232 220 c Q = mWp (mRun D) 232 0 (fun pc c => mAt (mRun D) 232 pc c Q) Q bk_Mo_waterInto_220 c := mAt_blk rfl
theorem a_Mo_waterInto_228 (D : Nat) (c : mC) (Q : mQ) : mAt (mRun D) 232 228 c Q = mWp (mRun D) 232 0 (fun pc c => mAt (mRun D) 232 pc c Q) Q bk_Mo_waterInto_228 c := mAt_blk rfl
theorem a_Mo_waterInto_234 (D : Nat) (c : mC) (Q : mQ) : mAt (mRun D) 232 234 c Q = mWp (mRun D) 232 0 (fun pc c => mAt (mRun D) 232 pc c Q) Q bk_Mo_waterInto_234 c := mAt_blk rfl
theorem e_Mo_takenIn (D : Nat) (x0 x1 x2 x3 x4 x5 : mV) (I : mN) (S : mH) (Q : mQ) (h : mCs [x0, x1, x2, x3, x4, x5] ≤ 6) : mRun (D + 1) 233 [x0, x1, x2, x3, x4, x5] I S Q = mAt (mRun D) 233 0 ([some x0, some x1, some x2, some x3, some x4, some x5, none, none, none, none], [], I, S) Q := propext ⟨fun z => z.2, fun z => ⟨⟨h, Nat.le_of_ble_eq_true rfl⟩, z⟩⟩
theorem a_Mo_takenIn_0 (D : Nat) (c : mC) (Q : mQ) : mAt (mRun D) 233 0 c Q = mWp (mRun D) 233 6 (fun pc c => mAt (mRun D) 233 pc c Q) Q bk_Mo_takenIn_0 c := mAt_blk rfl
theorem a_Mo_takenIn_6 (D : Nat) (c : mC) (Q : mQ) : mAt (mRun D) 233 6 c Q = mWp (mRun D) 233 19 (fun pc c => mAt (mRun D) 233 pc c Q) Q bk_Mo_takenIn_6 c := mAt_blk rfl
theorem a_Mo_takenIn_19 (D : Nat) (c : mC) (Q : mQ) : mAt (mRun D) 233 19 c Q = mWp (mRun D) 233 0 (fun pc c => mAt (mRun D) 233 pc c Q) Q bk_Mo_takenIn_19 c := mAt_blk rfl
theorem a_Mo_takenIn_43 (D : Nat) (c : mC) (Q : mQ) : mAt (mRun D) 233 43 c Q = mWp (mRun D) 233 0 (fun pc c => mAt (mRun D) 233 pc c Q) Q bk_Mo_takenIn_43 c := mAt_blk rfl
theorem a_Mo_takenIn_47 (D : Nat) (c : mC) (Q : mQ) : mAt (mRun D) 233 47 c Q = mWp (mRun D) 233 54 (fun pc c => mAt (mRun D) 233 pc c Q) Q bk_Mo_takenIn_47 c := mAt_blk rfl
theorem a_Mo_takenIn_54 (D : Nat) (c : mC) (Q : mQ) : mAt (mRun D) 233 54 c Q = mWp (mRun D) 233 0 (fun pc c => mAt (mRun D) 233 pc c Q) Q bk_Mo_takenIn_54 c := mAt_blk rfl
theorem a_Mo_takenIn_94 (D : Nat) (c : mC) (Q : mQ) : mAt (mRun D) 233 94 c Q = mWp (mRun D) 233 95 (fun pc c => mAt (mRun D) 233 pc c Q) Q bk_Mo_takenIn_94 c := mAt_blk rfl
theorem a_Mo_takenIn_95 (D : Nat) (c : mC) (Q : mQ) : mAt (mRun D) 233 95 c Q = mWp (mRun D) 233 0 (fun pc c => mAt (mRun D) 233 pc c Q) Q bk_Mo_takenIn_95 c := mAt_blk rfl
theorem a_Mo_takenIn_104 (D : Nat) (c : mC) (Q : mQ) : mAt (mRun D) 233 104 c Q = mWp (mRun D) 233 0 (fun pc c => mAt (mRun D) 233 pc c Q) Q bk_Mo_takenIn_104 c := mAt_blk rfl
theorem a_Mo_takenIn_110 (D : Nat) (c : mC) (Q : mQ) : mAt (mRun D) 233 110 c Q = mWp (mRun D) 233 0 (fun pc c => mAt (mRun D) 233 pc c Q) Q bk_Mo_takenIn_110 c := mAt_blk rfl
theorem e_Mo_amountAt (D : Nat) (x0 x1 x2 x3 : mV) (I : mN) (S : mH) (Q : mQ) (h : mCs [x0, x1, x2, x3] ≤ 4) : mRun (D + 1) 234 [x0, x1, x2, x3] I S Q = mAt (mRun D) 234 0 ([some x0, some x1, some x2, some x3], [], I, S) Q := propext ⟨fun z => z.2, fun z => ⟨⟨h, Nat.le_of_ble_eq_true rfl⟩, z⟩⟩
theorem a_Mo_amountAt_0 (D : Nat) (c : mC) (Q : mQ) : mAt (mRun D) 234 0 c Q = mWp (mRun D) 234 0 (fun pc c => mAt (mRun D) 234 pc c Q) Q bk_Mo_amountAt_0 c := mAt_blk rfl
theorem a_Mo_amountAt_23 (D : Nat) (c : mC) (Q : mQ) : mAt (mRun D) 234 23 c Q = mWp (mRun D) 234 24 (fun pc c => mAt (mRun D) 234 pc c Q) Q bk_Mo_amountAt_23 c := mAt_blk rfl
theorem a_Mo_amountAt_24 (D : Nat) (c : mC) (Q : mQ) : mAt (mRun D) 234 24 c Q = mWp (mRun D) 234 0 (fun pc c => mAt (mRun D) 234 pc c Q) Q bk_Mo_amountAt_24 c := mAt_blk rfl
theorem a_Mo_amountAt_44 (D : Nat) (c : mC) (Q : mQ) : mAt (mRun D) 234 44 c Q = mWp (mRun D) 234 45 (fun pc c => mAt (mRun D) 234 pc c Q) Q bk_Mo_amountAt_44 c := mAt_blk rfl
theorem a_Mo_amountAt_45 (D : Nat) (c : mC) (Q : mQ) : mAt (mRun D) 234 45 c Q = mWp (mRun D) 234 0 (fun pc c => mAt (mRun D) 234 pc c Q) Q bk_Mo_amountAt_45 c := mAt_blk rfl
theorem e_Mo_total (D : Nat) (x0 x1 : mV) (I : mN) (S : mH) (Q : mQ) (h : mCs [x0, x1] ≤ 2) : mRun (D + 1) 235 [x0, x1] I S Q = mAt (mRun D) 235 0 ([some x0, some x1, none, none], [], I, S) Q := propext ⟨fun z => z.2, fun z => ⟨⟨h, Nat.le_of_ble_eq_true rfl⟩, z⟩⟩
theorem a_Mo_total_0 (D : Nat) (c : mC) (Q : mQ) : mAt (mRun D) 235 0 c Q = mWp (mRun D) 235 4 (fun pc c => mAt (mRun D) 235 pc c Q) Q bk_Mo_total_0 c := mAt_blk rfl
theorem a_Mo_total_4 (D : Nat) (c : mC) (Q : mQ) : mAt (mRun D) 235 4 c Q = mWp (mRun D) 235 0 (fun pc c => mAt (mRun D) 235 pc c Q) Q bk_Mo_total_4 c := mAt_blk rfl
theorem a_Mo_total_37 (D : Nat) (c : mC) (Q : mQ) : mAt (mRun D) 235 37 c Q = mWp (mRun D) 235 0 (fun pc c => mAt (mRun D) 235 pc c Q) Q bk_Mo_total_37 c := mAt_blk rfl
theorem a_Mo_total_56 (D : Nat) (c : mC) (Q : mQ) : mAt (mRun D) 235 56 c Q = mWp (mRun D) 235 57 (fun pc c => mAt (mRun D) 235 pc c Q) Q bk_Mo_total_56 c := mAt_blk rfl
theorem a_Mo_total_57 (D : Nat) (c : mC) (Q : mQ) : mAt (mRun D) 235 57 c Q = mWp (mRun D) 235 0 (fun pc c => mAt (mRun D) 235 pc c Q) Q bk_Mo_total_57 c := mAt_blk rfl
theorem e_Mo_shortageOf (D : Nat) (x0 x1 x2 : mV) (I : mN) (S : mH) (Q : mQ) (h : mCs [x0, x1, x2] ≤ 3) : mRun (D + 1) 236 [x0, x1, x2] I S Q = mAt (mRun D) 236 0 ([some x0, some x1, some x2], [], I, S) Q := propext ⟨fun z => z.2, fun z => ⟨⟨h, Nat.le_of_ble_eq_true rfl⟩, z⟩⟩
theorem a_Mo_shortageOf_0 (D : Nat) (c : mC) (Q : mQ) : mAt (mRun D) 236 0 c Q = mWp (mRun D) 236 0 (fun pc c => mAt (mRun D) 236 pc c Q) Q bk_Mo_shortageOf_0 c := mAt_blk rfl
theorem e_Mo_shortage (D : Nat) (x0 x1 x2 : mV) (I : mN) (S : mH) (Q : mQ) (h : mCs [x0, x1, x2] ≤ 3) : mRun (D + 1) 237 [x0, x1, x2] I S Q = mAt (mRun D) 237 0 ([some x0, some x1, some x2], [], I, S) Q := propext ⟨fun z => z.2, fun z => ⟨⟨h, Nat.le_of_ble_eq_true rfl⟩, z⟩⟩
theorem a_Mo_shortage_0 (D : Nat) (c : mC) (Q : mQ) : mAt (mRun D) 237 0 c Q = mWp (mRun D) 237 0 (fun pc c => mAt (mRun D) 237 pc c Q) Q bk_Mo_shortage_0 c := mAt_blk rfl
theorem a_Mo_shortage_28 (D : Nat) (c : mC) (Q : mQ) : mAt (mRun D) 237 28 c Q = mWp (mRun D) 237 29 (fun pc c => mAt (mRun D) 237 pc c Q) Q bk_Mo_shortage_28 c := mAt_blk rfl
theorem a_Mo_shortage_29 (D : Nat) (c : mC) (Q : mQ) : mAt (mRun D) 237 29 c Q = mWp (mRun D) 237 0 (fun pc c => mAt (mRun D) 237 pc c Q) Q bk_Mo_shortage_29 c := mAt_blk rfl
theorem e_Mo_sent (D : Nat) (x0 x1 x2 : mV) (I : mN) (S : mH) (Q : mQ) (h : mCs [x0, x1, x2] ≤ 3) : mRun (D + 1) 238 [x0, x1, x2] I S Q = mAt (mRun D) 238 0 ([some x0, some x1, some x2], [], I, S) Q := propext ⟨fun z => z.2, fun z => ⟨⟨h, Nat.le_of_ble_eq_true rfl⟩, z⟩⟩
theorem a_Mo_sent_0 (D : Nat) (c : mC) (Q : mQ) : mAt (mRun D) 238 0 c Q = mWp (mRun D) 238 0 (fun pc c => mAt (mRun D) 238 pc c Q) Q bk_Mo_sent_0 c := mAt_blk rfl
theorem a_Mo_sent_28 (D : Nat) (c : mC) (Q : mQ) : mAt (mRun D) 238 28 c Q = mWp (mRun D) 238 29 (fun pc c => mAt (mRun D) 238 pc c Q) Q bk_Mo_sent_28 c := mAt_blk rfl
theorem a_Mo_sent_29 (D : Nat) (c : mC) (Q : mQ) : mAt (mRun D) 238 29 c Q = mWp (mRun D) 238 0 (fun pc c => mAt (mRun D) 238 pc c Q) Q bk_Mo_sent_29 c := mAt_blk rfl
theorem e_Mo_storageAt (D : Nat) (x0 x1 x2 : mV) (I : mN) (S : mH) (Q : mQ) (h : mCs [x0, x1, x2] ≤ 3) : mRun (D + 1) 239 [x0, x1, x2] I S Q = mAt (mRun D) 239 0 ([some x0, some x1, some x2], [], I, S) Q := propext ⟨fun z => z.2, fun z => ⟨⟨h, Nat.le_of_ble_eq_true rfl⟩, z⟩⟩
theorem a_Mo_storageAt_0 (D : Nat) (c : mC) (Q : mQ) : mAt (mRun D) 239 0 c Q = mWp (mRun D) 239 0 (fun pc c => mAt (mRun D) 239 pc c Q) Q bk_Mo_storageAt_0 c := mAt_blk rfl
theorem a_Mo_storageAt_31 (D : Nat) (c : mC) (Q : mQ) : mAt (mRun D) 239 31 c Q = mWp (mRun D) 239 32 (fun pc c => mAt (mRun D) 239 pc c Q) Q bk_Mo_storageAt_31 c := mAt_blk rfl
theorem a_Mo_storageAt_32 (D : Nat) (c : mC) (Q : mQ) : mAt (mRun D) 239 32 c Q = mWp (mRun D) 239 0 (fun pc c => mAt (mRun D) 239 pc c Q) Q bk_Mo_storageAt_32 c := mAt_blk rfl
theorem e_Mo_runOff (D : Nat) (x0 x1 x2 : mV) (I : mN) (S : mH) (Q : mQ) (h : mCs [x0, x1, x2] ≤ 3) : mRun (D + 1) 240 [x0, x1, x2] I S Q = mAt (mRun D) 240 0 ([some x0, some x1, some x2], [], I, S) Q := propext ⟨fun z => z.2, fun z => ⟨⟨h, Nat.le_of_ble_eq_true rfl⟩, z⟩⟩
theorem a_Mo_runOff_0 (D : Nat) (c : mC) (Q : mQ) : mAt (mRun D) 240 0 c Q = mWp (mRun D) 240 0 (fun pc c => mAt (mRun D) 240 pc c Q) Q bk_Mo_runOff_0 c := mAt_blk rfl
theorem a_Mo_runOff_28 (D : Nat) (c : mC) (Q : mQ) : mAt (mRun D) 240 28 c Q = mWp (mRun D) 240 29 (fun pc c => mAt (mRun D) 240 pc c Q) Q bk_Mo_runOff_28 c := mAt_blk rfl
theorem a_Mo_runOff_29 (D : Nat) (c : mC) (Q : mQ) : mAt (mRun D) 240 29 c Q = mWp (mRun D) 240 0 (fun pc c => mAt (mRun D) 240 pc c Q) Q bk_Mo_runOff_29 c := mAt_blk rfl
theorem e_Mo_nHasWitness (D : Nat) (x0 x1 x2 : mV) (I : mN) (S : mH) (Q : mQ) (h : mCs [x0, x1, x2] ≤ 3) : mRun (D + 1) 241 [x0, x1, x2] I S Q = mAt (mRun D) 241 0 ([some x0, some x1, some x2, none, none], [], I, S) Q := propext ⟨fun z => z.2, fun z => ⟨⟨h, Nat.le_of_ble_eq_true rfl⟩, z⟩⟩
theorem a_Mo_nHasWitness_0 (D : Nat) (c : mC) (Q : mQ) : mAt (mRun D) 241 0 c Q = mWp (mRun D) 241 0 (fun pc c => mAt (mRun D) 241 pc c Q) Q bk_Mo_nHasWitness_0 c := mAt_blk rfl
theorem a_Mo_nHasWitness_41 (D : Nat) (c : mC) (Q : mQ) : mAt (mRun D) 241 41 c Q = mWp (mRun D) 241 42 (fun pc c => mAt (mRun D) 241 pc c Q) Q bk_Mo_nHasWitness_41 c := mAt_blk rfl
theorem a_Mo_nHasWitness_42 (D : Nat) (c : mC) (Q : mQ) : mAt (mRun D) 241 42 c Q = mWp (mRun D) 241 0 (fun pc c => mAt (mRun D) 241 pc c Q) Q bk_Mo_nHasWitness_42 c := mAt_blk rfl
theorem a_Mo_nHasWitness_84 (D : Nat) (c : mC) (Q : mQ) : mAt (mRun D) 241 84 c Q = mWp (mRun D) 241 85 (fun pc c => mAt (mRun D) 241 pc c Q) Q bk_Mo_nHasWitness_84 c := mAt_blk rfl
theorem a_Mo_nHasWitness_85 (D : Nat) (c : mC) (Q : mQ) : mAt (mRun D) 241 85 c Q = mWp (mRun D) 241 0 (fun pc c => mAt (mRun D) 241 pc c Q) Q bk_Mo_nHasWitness_85 c := mAt_blk rfl
theorem e_Mo_witnessSize (D : Nat) (x0 x1 x2 : mV) (I : mN) (S : mH) (Q : mQ) (h : mCs [x0, x1, x2] ≤ 3) : mRun (D + 1) 242 [x0, x1, x2] I S Q = mAt (mRun D) 242 0 ([some x0, some x1, some x2, none, none], [], I, S) Q := propext ⟨fun z => z.2, fun z => ⟨⟨h, Nat.le_of_ble_eq_true rfl⟩, z⟩⟩
theorem a_Mo_witnessSize_0 (D : Nat) (c : mC) (Q : mQ) : mAt (mRun D) 242 0 c Q = mWp (mRun D) 242 0 (fun pc c => mAt (mRun D) 242 pc c Q) Q bk_Mo_witnessSize_0 c := mAt_blk rfl
theorem a_Mo_witnessSize_11 (D : Nat) (c : mC) (Q : mQ) : mAt (mRun D) 242 11 c Q = mWp (mRun D) 242 16 (fun pc c => mAt (mRun D) 242 pc c Q) Q bk_Mo_witnessSize_11 c := mAt_blk rfl
theorem a_Mo_witnessSize_16 (D : Nat) (c : mC) (Q : mQ) : mAt (mRun D) 242 16 c Q = mWp (mRun D) 242 0 (fun pc c => mAt (mRun D) 242 pc c Q) Q bk_Mo_witnessSize_16 c := mAt_blk rfl
theorem a_Mo_witnessSize_38 (D : Nat) (c : mC) (Q : mQ) : mAt (mRun D) 242 38 c Q = mWp (mRun D) 242 39 (fun pc c => mAt (mRun D) 242 pc c Q) Q bk_Mo_witnessSize_38 c := mAt_blk rfl
theorem a_Mo_witnessSize_39 (D : Nat) (c : mC) (Q : mQ) : mAt (mRun D) 242 39 c Q = mWp (mRun D) 242 0 (fun pc c => mAt (mRun D) 242 pc c Q) Q bk_Mo_witnessSize_39 c := mAt_blk rfl
theorem a_Mo_witnessSize_47 (D : Nat) (c : mC) (Q : mQ) : mAt (mRun D) 242 47 c Q = mWp (mRun D) 242 0 (fun pc c => mAt (mRun D) 242 pc c Q) Q bk_Mo_witnessSize_47 c := mAt_blk rfl
theorem e_Mo_markWitness (D : Nat) (x0 x1 x2 : mV) (I : mN) (S : mH) (Q : mQ) (h : mCs [x0, x1, x2] ≤ 3) : mRun (D + 1) 243 [x0, x1, x2] I S Q = mAt (mRun D) 243 0 ([some x0, some x1, some x2, none], [], I, S) Q := propext ⟨fun z => z.2, fun z => ⟨⟨h, Nat.le_of_ble_eq_true rfl⟩, z⟩⟩
theorem a_Mo_markWitness_0 (D : Nat) (c : mC) (Q : mQ) : mAt (mRun D) 243 0 c Q = mWp (mRun D) 243 0 (fun pc c => mAt (mRun D) 243 pc c Q) Q bk_Mo_markWitness_0 c := mAt_blk rfl
theorem a_Mo_markWitness_11 (D : Nat) (c : mC) (Q : mQ) : mAt (mRun D) 243 11 c Q = mWp (mRun D) 243 13 (fun pc c => mAt (mRun D) 243 pc c Q) Q bk_Mo_markWitness_11 c := mAt_blk rfl
theorem a_Mo_markWitness_13 (D : Nat) (c : mC) (Q : mQ) : mAt (mRun D) 243 13 c Q = mWp (mRun D) 243 0 (fun pc c => mAt (mRun D) 243 pc c Q) Q bk_Mo_markWitness_13 c := mAt_blk rfl
theorem a_Mo_markWitness_37 (D : Nat) (c : mC) (Q : mQ) : mAt (mRun D) 243 37 c Q = mWp (mRun D) 243 0 (fun pc c => mAt (mRun D) 243 pc c Q) Q bk_Mo_markWitness_37 c := mAt_blk rfl
theorem e_Mo_mark (D : Nat) (x0 x1 x2 x3 : mV) (I : mN) (S : mH) (Q : mQ) (h : mCs [x0, x1, x2, x3] ≤ 4) : mRun (D + 1) 244 [x0, x1, x2, x3] I S Q = mAt (mRun D) 244 0 ([some x0, some x1, some x2, some x3, none], [], I, S) Q := propext ⟨fun z => z.2, fun z => ⟨⟨h, Nat.le_of_ble_eq_true rfl⟩, z⟩⟩
theorem a_Mo_mark_0 (D : Nat) (c : mC) (Q : mQ) : mAt (mRun D) 244 0 c Q = mWp (mRun D) 244 0 (fun pc c => mAt (mRun D) 244 pc c Q) Q bk_Mo_mark_0 c := mAt_blk rfl
theorem a_Mo_mark_21 (D : Nat) (c : mC) (Q : mQ) : mAt (mRun D) 244 21 c Q = mWp (mRun D) 244 0 (fun pc c => mAt (mRun D) 244 pc c Q) Q bk_Mo_mark_21 c := mAt_blk rfl
theorem e_Mo_clearMarks (D : Nat) (x0 : mV) (I : mN) (S : mH) (Q : mQ) (h : mCs [x0] ≤ 1) : mRun (D + 1) 245 [x0] I S Q = mAt (mRun D) 245 0 ([some x0, none, none], [], I, S) Q := propext ⟨fun z => z.2, fun z => ⟨⟨h, Nat.le_of_ble_eq_true rfl⟩, z⟩⟩
theorem a_Mo_clearMarks_0 (D : Nat) (c : mC) (Q : mQ) : mAt (mRun D) 245 0 c Q = mWp (mRun D) 245 9 (fun pc c => mAt (mRun D) 245 pc c Q) Q bk_Mo_clearMarks_0 c := mAt_blk rfl
theorem a_Mo_clearMarks_9 (D : Nat) (c : mC) (Q : mQ) : mAt (mRun D) 245 9 c Q = mWp (mRun D) 245 0 (fun pc c => mAt (mRun D) 245 pc c Q) Q bk_Mo_clearMarks_9 c := mAt_blk rfl
theorem a_Mo_clearMarks_29 (D : Nat) (c : mC) (Q : mQ) : mAt (mRun D) 245 29 c Q = mWp (mRun D) 245 30 (fun pc c => mAt (mRun D) 245 pc c Q) Q bk_Mo_clearMarks_29 c := mAt_blk rfl
theorem a_Mo_clearMarks_30 (D : Nat) (c : mC) (Q : mQ) : mAt (mRun D) 245 30 c Q = mWp (mRun D) 245 0 (fun pc c => mAt (mRun D) 245 pc c Q) Q bk_Mo_clearMarks_30 c := mAt_blk rfl
theorem a_Mo_clearMarks_45 (D : Nat) (c : mC) (Q : mQ) : mAt (mRun D) 245 45 c Q = mWp (mRun D) 245 0 (fun pc c => mAt (mRun D) 245 pc c Q) Q bk_Mo_clearMarks_45 c := mAt_blk rfl
theorem e_Mo_isMarked (D : Nat) (x0 x1 x2 : mV) (I : mN) (S : mH) (Q : mQ) (h : mCs [x0, x1, x2] ≤ 3) : mRun (D + 1) 246 [x0, x1, x2] I S Q = mAt (mRun D) 246 0 ([some x0, some x1, some x2], [], I, S) Q := propext ⟨fun z => z.2, fun z => ⟨⟨h, Nat.le_of_ble_eq_true rfl⟩, z⟩⟩
theorem a_Mo_isMarked_0 (D : Nat) (c : mC) (Q : mQ) : mAt (mRun D) 246 0 c Q = mWp (mRun D) 246 0 (fun pc c => mAt (mRun D) 246 pc c Q) Q bk_Mo_isMarked_0 c := mAt_blk rfl
theorem a_Mo_isMarked_36 (D : Nat) (c : mC) (Q : mQ) : mAt (mRun D) 246 36 c Q = mWp (mRun D) 246 37 (fun pc c => mAt (mRun D) 246 pc c Q) Q bk_Mo_isMarked_36 c := mAt_blk rfl
theorem a_Mo_isMarked_37 (D : Nat) (c : mC) (Q : mQ) : mAt (mRun D) 246 37 c Q = mWp (mRun D) 246 0 (fun pc c => mAt (mRun D) 246 pc c Q) Q bk_Mo_isMarked_37 c := mAt_blk rfl
theorem e_Mo_waterIntoMarks (D : Nat) (x0 : mV) (I : mN) (S : mH) (Q : mQ) (h : mCs [x0] ≤ 1) : mRun (D + 1) 247 [x0] I S Q = mAt (mRun D) 247 0 ([some x0], [], I, S) Q := propext ⟨fun z => z.2, fun z => ⟨⟨h, Nat.le_of_ble_eq_true rfl⟩, z⟩⟩
theorem a_Mo_waterIntoMarks_0 (D : Nat) (c : mC) (Q : mQ) : mAt (mRun D) 247 0 c Q = mWp (mRun D) 247 0 (fun pc c => mAt (mRun D) 247 pc c Q) Q bk_Mo_waterIntoMarks_0 c := mAt_blk rfl
theorem e_Mo_takenInMarks (D : Nat) (x0 x1 x2 : mV) (I : mN) (S : mH) (Q : mQ) (h : mCs [x0, x1, x2] ≤ 3) : mRun (D + 1) 248 [x0, x1, x2] I S Q = mAt (mRun D) 248 0 ([some x0, some x1, some x2], [], I, S) Q := propext ⟨fun z => z.2, fun z => ⟨⟨h, Nat.le_of_ble_eq_true rfl⟩, z⟩⟩
theorem a_Mo_takenInMarks_0 (D : Nat) (c : mC) (Q : mQ) : mAt (mRun D) 248 0 c Q = mWp (mRun D) 248 0 (fun pc c => mAt (mRun D) 248 pc c Q) Q bk_Mo_takenInMarks_0 c := mAt_blk rfl
theorem a_Mo_takenInMarks_27 (D : Nat) (c : mC) (Q : mQ) : mAt (mRun D) 248 27 c Q = mWp (mRun D) 248 28 (fun pc c => mAt (mRun D) 248 pc c Q) Q bk_Mo_takenInMarks_27 c := mAt_blk rfl
theorem a_Mo_takenInMarks_28 (D : Nat) (c : mC) (Q : mQ) : mAt (mRun D) 248 28 c Q = mWp (mRun D) 248 0 (fun pc c => mAt (mRun D) 248 pc c Q) Q bk_Mo_takenInMarks_28 c := mAt_blk rfl
theorem a_Mo_takenInMarks_36 (D : Nat) (c : mC) (Q : mQ) : mAt (mRun D) 248 36 c Q = mWp (mRun D) 248 0 (fun pc c => mAt (mRun D) 248 pc c Q) Q bk_Mo_takenInMarks_36 c := mAt_blk rfl
theorem e_Mo_init (D : Nat) (x0 : mV) (I : mN) (S : mH) (Q : mQ) (h : mCs [x0] ≤ 1) : mRun (D + 1) 249 [x0] I S Q = mAt (mRun D) 249 0 ([some x0], [], I, S) Q := propext ⟨fun z => z.2, fun z => ⟨⟨h, Nat.le_of_ble_eq_true rfl⟩, z⟩⟩
theorem a_Mo_init_0 (D : Nat) (c : mC) (Q : mQ) : mAt (mRun D) 249 0 c Q = mWp (mRun D) 249 0 (fun pc c => mAt (mRun D) 249 pc c Q) Q bk_Mo_init_0 c := mAt_blk rfl
theorem e_Mo_beginJournal (D : Nat) (x0 : mV) (I : mN) (S : mH) (Q : mQ) (h : mCs [x0] ≤ 1) : mRun (D + 1) 250 [x0] I S Q = mAt (mRun D) 250 0 ([some x0], [], I, S) Q := propext ⟨fun z => z.2, fun z => ⟨⟨h, Nat.le_of_ble_eq_true rfl⟩, z⟩⟩
theorem a_Mo_beginJournal_0 (D : Nat) (c : mC) (Q : mQ) : mAt (mRun D) 250 0 c Q = mWp (mRun D) 250 0 (fun pc c => mAt (mRun D) 250 pc c Q) Q bk_Mo_beginJournal_0 c := mAt_blk rfl
theorem e_Mo_journalRow (D : Nat) (x0 x1 : mV) (I : mN) (S : mH) (Q : mQ) (h : mCs [x0, x1] ≤ 2) : mRun (D + 1) 251 [x0, x1] I S Q = mAt (mRun D) 251 0 ([some x0, some x1], [], I, S) Q := propext ⟨fun z => z.2, fun z => ⟨⟨h, Nat.le_of_ble_eq_true rfl⟩, z⟩⟩
theorem a_Mo_journalRow_0 (D : Nat) (c : mC) (Q : mQ) : mAt (mRun D) 251 0 c Q = mWp (mRun D) 251 0 (fun pc c => mAt (mRun D) 251 pc c Q) Q bk_Mo_journalRow_0 c := mAt_blk rfl
theorem e_Mo_keepState (D : Nat) (x0 x1 x2 : mV) (I : mN) (S : mH) (Q : mQ) (h : mCs [x0, x1, x2] ≤ 3) : mRun (D + 1) 252 [x0, x1, x2] I S Q = mAt (mRun D) 252 0 ([some x0, some x1, some x2, none, none], [], I, S) Q := propext ⟨fun z => z.2, fun z => ⟨⟨h, Nat.le_of_ble_eq_true rfl⟩, z⟩⟩
theorem a_Mo_keepState_0 (D : Nat) (c : mC) (Q : mQ) : mAt (mRun D) 252 0 c Q = mWp (mRun D) 252 9 (fun pc c => mAt (mRun D) 252 pc c Q) Q bk_Mo_keepState_0 c := mAt_blk rfl
theorem a_Mo_keepState_9 (D : Nat) (c : mC) (Q : mQ) : mAt (mRun D) 252 9 c Q = mWp (mRun D) 252 0 (fun pc c => mAt (mRun D) 252 pc c Q) Q bk_Mo_keepState_9 c := mAt_blk rfl
theorem a_Mo_keepState_39 (D : Nat) (c : mC) (Q : mQ) : mAt (mRun D) 252 39 c Q = mWp (mRun D) 252 0 (fun pc c => mAt (mRun D) 252 pc c Q) Q bk_Mo_keepState_39 c := mAt_blk rfl
theorem e_Mo_takeState (D : Nat) (x0 x1 x2 : mV) (I : mN) (S : mH) (Q : mQ) (h : mCs [x0, x1, x2] ≤ 3) : mRun (D + 1) 253 [x0, x1, x2] I S Q = mAt (mRun D) 253 0 ([some x0, some x1, some x2, none, none], [], I, S) Q := propext ⟨fun z => z.2, fun z => ⟨⟨h, Nat.le_of_ble_eq_true rfl⟩, z⟩⟩
theorem a_Mo_takeState_0 (D : Nat) (c : mC) (Q : mQ) : mAt (mRun D) 253 0 c Q = mWp (mRun D) 253 9 (fun pc c => mAt (mRun D) 253 pc c Q) Q bk_Mo_takeState_0 c := mAt_blk rfl
theorem a_Mo_takeState_9 (D : Nat) (c : mC) (Q : mQ) : mAt (mRun D) 253 9 c Q = mWp (mRun D) 253 0 (fun pc c => mAt (mRun D) 253 pc c Q) Q bk_Mo_takeState_9 c := mAt_blk rfl
theorem a_Mo_takeState_39 (D : Nat) (c : mC) (Q : mQ) : mAt (mRun D) 253 39 c Q = mWp (mRun D) 253 0 (fun pc c => mAt (mRun D) 253 pc c Q) Q bk_Mo_takeState_39 c := mAt_blk rfl
theorem e_Mo_noteLatest (D : Nat) (x0 x1 : mV) (I : mN) (S : mH) (Q : mQ) (h : mCs [x0, x1] ≤ 2) : mRun (D + 1) 254 [x0, x1] I S Q = mAt (mRun D) 254 0 ([some x0, some x1], [], I, S) Q := propext ⟨fun z => z.2, fun z => ⟨⟨h, Nat.le_of_ble_eq_true rfl⟩, z⟩⟩
theorem a_Mo_noteLatest_0 (D : Nat) (c : mC) (Q : mQ) : mAt (mRun D) 254 0 c Q = mWp (mRun D) 254 0 (fun pc c => mAt (mRun D) 254 pc c Q) Q bk_Mo_noteLatest_0 c := mAt_blk rfl
theorem e_Mo_change (D : Nat) (x0 : mV) (I : mN) (S : mH) (Q : mQ) (h : mCs [x0] ≤ 1) : mRun (D + 1) 255 [x0] I S Q = mAt (mRun D) 255 0 ([some x0, none, none], [], I, S) Q := propext ⟨fun z => z.2, fun z => ⟨⟨h, Nat.le_of_ble_eq_true rfl⟩, z⟩⟩
theorem a_Mo_change_0 (D : Nat) (c : mC) (Q : mQ) : mAt (mRun D) 255 0 c Q = mWp (mRun D) 255 25 (fun pc c => mAt (mRun D) 255 pc c Q) Q bk_Mo_change_0 c := mAt_blk rfl
theorem a_Mo_change_25 (D : Nat) (c : mC) (Q : mQ) : mAt (mRun D) 255 25 c Q = mWp (mRun D) 255 0 (fun pc c => mAt (mRun D) 255 pc c Q) Q bk_Mo_change_25 c := mAt_blk rfl
theorem a_Mo_change_58 (D : Nat) (c : mC) (Q : mQ) : mAt (mRun D) 255 58 c Q = mWp (mRun D) 255 71 (fun pc c => mAt (mRun D) 255 pc c Q) Q bk_Mo_change_58 c := mAt_blk rfl
theorem a_Mo_change_71 (D : Nat) (c : mC) (Q : mQ) : mAt (mRun D) 255 71 c Q = mWp (mRun D) 255 0 (fun pc c => mAt (mRun D) 255 pc c Q) Q bk_Mo_change_71 c := mAt_blk rfl
theorem e_Mo_undo (D : Nat) (x0 : mV) (I : mN) (S : mH) (Q : mQ) (h : mCs [x0] ≤ 1) : mRun (D + 1) 256 [x0] I S Q = mAt (mRun D) 256 0 ([some x0], [], I, S) Q := propext ⟨fun z => z.2, fun z => ⟨⟨h, Nat.le_of_ble_eq_true rfl⟩, z⟩⟩
theorem a_Mo_undo_0 (D : Nat) (c : mC) (Q : mQ) : mAt (mRun D) 256 0 c Q = mWp (mRun D) 256 0 (fun pc c => mAt (mRun D) 256 pc c Q) Q bk_Mo_undo_0 c := mAt_blk rfl
theorem a_Mo_undo_19 (D : Nat) (c : mC) (Q : mQ) : mAt (mRun D) 256 19 c Q = mWp (mRun D) 256 0 (fun pc c => mAt (mRun D) 256 pc c Q) Q bk_Mo_undo_19 c := mAt_blk rfl
theorem e_Mo_redo (D : Nat) (x0 : mV) (I : mN) (S : mH) (Q : mQ) (h : mCs [x0] ≤ 1) : mRun (D + 1) 257 [x0] I S Q = mAt (mRun D) 257 0 ([some x0], [], I, S) Q := propext ⟨fun z => z.2, fun z => ⟨⟨h, Nat.le_of_ble_eq_true rfl⟩, z⟩⟩
theorem a_Mo_redo_0 (D : Nat) (c : mC) (Q : mQ) : mAt (mRun D) 257 0 c Q = mWp (mRun D) 257 0 (fun pc c => mAt (mRun D) 257 pc c Q) Q bk_Mo_redo_0 c := mAt_blk rfl
theorem a_Mo_redo_28 (D : Nat) (c : mC) (Q : mQ) : mAt (mRun D) 257 28 c Q = mWp (mRun D) 257 0 (fun pc c => mAt (mRun D) 257 pc c Q) Q bk_Mo_redo_28 c := mAt_blk rfl
theorem e_Mo_createBranch (D : Nat) (x0 : mV) (I : mN) (S : mH) (Q : mQ) (h : mCs [x0] ≤ 1) : mRun (D + 1) 258 [x0] I S Q = mAt (mRun D) 258 0 ([some x0], [], I, S) Q := propext ⟨fun z => z.2, fun z => ⟨⟨h, Nat.le_of_ble_eq_true rfl⟩, z⟩⟩
theorem a_Mo_createBranch_0 (D : Nat) (c : mC) (Q : mQ) : mAt (mRun D) 258 0 c Q = mWp (mRun D) 258 0 (fun pc c => mAt (mRun D) 258 pc c Q) Q bk_Mo_createBranch_0 c := mAt_blk rfl
theorem a_Mo_createBranch_13 (D : Nat) (c : mC) (Q : mQ) : mAt (mRun D) 258 13 c Q = mWp (mRun D) 258 14 (fun pc c => mAt (mRun D) 258 pc c Q) Q bk_Mo_createBranch_13 c := mAt_blk rfl
theorem a_Mo_createBranch_14 (D : Nat) (c : mC) (Q : mQ) : mAt (mRun D) 258 14 c Q = mWp (mRun D) 258 0 (fun pc c => mAt (mRun D) 258 pc c Q) Q bk_Mo_createBranch_14 c := mAt_blk rfl
theorem a_Mo_createBranch_22 (D : Nat) (c : mC) (Q : mQ) : mAt (mRun D) 258 22 c Q = mWp (mRun D) 258 0 (fun pc c => mAt (mRun D) 258 pc c Q) Q bk_Mo_createBranch_22 c := mAt_blk rfl
theorem e_Mo_switchBranch (D : Nat) (x0 x1 : mV) (I : mN) (S : mH) (Q : mQ) (h : mCs [x0, x1] ≤ 2) : mRun (D + 1) 259 [x0, x1] I S Q = mAt (mRun D) 259 0 ([some x0, some x1, none], [], I, S) Q := propext ⟨fun z => z.2, fun z => ⟨⟨h, Nat.le_of_ble_eq_true rfl⟩, z⟩⟩
theorem a_Mo_switchBranch_0 (D : Nat) (c : mC) (Q : mQ) : mAt (mRun D) 259 0 c Q = mWp (mRun D) 259 0 (fun pc c => mAt (mRun D) 259 pc c Q) Q bk_Mo_switchBranch_0 c := mAt_blk rfl
theorem a_Mo_switchBranch_20 (D : Nat) (c : mC) (Q : mQ) : mAt (mRun D) 259 20 c Q = mWp (mRun D) 259 57 (fun pc c => mAt (mRun D) 259 pc c Q) Q bk_Mo_switchBranch_20 c := mAt_blk rfl
theorem a_Mo_switchBranch_57 (D : Nat) (c : mC) (Q : mQ) : mAt (mRun D) 259 57 c Q = mWp (mRun D) 259 0 (fun pc c => mAt (mRun D) 259 pc c Q) Q bk_Mo_switchBranch_57 c := mAt_blk rfl
theorem e_Mo_takeElder (D : Nat) (x0 x1 x2 : mV) (I : mN) (S : mH) (Q : mQ) (h : mCs [x0, x1, x2] ≤ 3) : mRun (D + 1) 260 [x0, x1, x2] I S Q = mAt (mRun D) 260 0 ([some x0, some x1, some x2, none, none], [], I, S) Q := propext ⟨fun z => z.2, fun z => ⟨⟨h, Nat.le_of_ble_eq_true rfl⟩, z⟩⟩
theorem a_Mo_takeElder_0 (D : Nat) (c : mC) (Q : mQ) : mAt (mRun D) 260 0 c Q = mWp (mRun D) 260 9 (fun pc c => mAt (mRun D) 260 pc c Q) Q bk_Mo_takeElder_0 c := mAt_blk rfl
theorem a_Mo_takeElder_9 (D : Nat) (c : mC) (Q : mQ) : mAt (mRun D) 260 9 c Q = mWp (mRun D) 260 0 (fun pc c => mAt (mRun D) 260 pc c Q) Q bk_Mo_takeElder_9 c := mAt_blk rfl
theorem a_Mo_takeElder_39 (D : Nat) (c : mC) (Q : mQ) : mAt (mRun D) 260 39 c Q = mWp (mRun D) 260 0 (fun pc c => mAt (mRun D) 260 pc c Q) Q bk_Mo_takeElder_39 c := mAt_blk rfl
theorem e_Mo_planInto (D : Nat) (x0 x1 x2 : mV) (I : mN) (S : mH) (Q : mQ) (h : mCs [x0, x1, x2] ≤ 3) : mRun (D + 1) 261 [x0, x1, x2] I S Q = mAt (mRun D) 261 0 ([some x0, some x1, some x2, none], [], I, S) Q := propext ⟨fun z => z.2, fun z => ⟨⟨h, Nat.le_of_ble_eq_true rfl⟩, z⟩⟩
theorem a_Mo_planInto_0 (D : Nat) (c : mC) (Q : mQ) : mAt (mRun D) 261 0 c Q = mWp (mRun D) 261 2 (fun pc c => mAt (mRun D) 261 pc c Q) Q bk_Mo_planInto_0 c := mAt_blk rfl
theorem a_Mo_planInto_2 (D : Nat) (c : mC) (Q : mQ) : mAt (mRun D) 261 2 c Q = mWp (mRun D) 261 0 (fun pc c => mAt (mRun D) 261 pc c Q) Q bk_Mo_planInto_2 c := mAt_blk rfl
theorem a_Mo_planInto_18 (D : Nat) (c : mC) (Q : mQ) : mAt (mRun D) 261 18 c Q = mWp (mRun D) 261 0 (fun pc c => mAt (mRun D) 261 pc c Q) Q bk_Mo_planInto_18 c := mAt_blk rfl
theorem e_Mo_difference (D : Nat) (x0 x1 : mV) (I : mN) (S : mH) (Q : mQ) (h : mCs [x0, x1] ≤ 2) : mRun (D + 1) 262 [x0, x1] I S Q = mAt (mRun D) 262 0 ([some x0, some x1, none, none], [], I, S) Q := propext ⟨fun z => z.2, fun z => ⟨⟨h, Nat.le_of_ble_eq_true rfl⟩, z⟩⟩
theorem a_Mo_difference_0 (D : Nat) (c : mC) (Q : mQ) : mAt (mRun D) 262 0 c Q = mWp (mRun D) 262 26 (fun pc c => mAt (mRun D) 262 pc c Q) Q bk_Mo_difference_0 c := mAt_blk rfl
theorem a_Mo_difference_26 (D : Nat) (c : mC) (Q : mQ) : mAt (mRun D) 262 26 c Q = mWp (mRun D) 262 0 (fun pc c => mAt (mRun D) 262 pc c Q) Q bk_Mo_difference_26 c := mAt_blk rfl
theorem a_Mo_difference_28 (D : Nat) (c : mC) (Q : mQ) : mAt (mRun D) 262 28 c Q = mWp (mRun D) 262 67 (fun pc c => mAt (mRun D) 262 pc c Q) Q bk_Mo_difference_28 c := mAt_blk rfl
theorem a_Mo_difference_67 (D : Nat) (c : mC) (Q : mQ) : mAt (mRun D) 262 67 c Q = mWp (mRun D) 262 0 (fun pc c => mAt (mRun D) 262 pc c Q) Q bk_Mo_difference_67 c := mAt_blk rfl
theorem a_Mo_difference_93 (D : Nat) (c : mC) (Q : mQ) : mAt (mRun D) 262 93 c Q = mWp (mRun D) 262 94 (fun pc c => mAt (mRun D) 262 pc c Q) Q bk_Mo_difference_93 c := mAt_blk rfl
theorem a_Mo_difference_94 (D : Nat) (c : mC) (Q : mQ) : mAt (mRun D) 262 94 c Q = mWp (mRun D) 262 0 (fun pc c => mAt (mRun D) 262 pc c Q) Q bk_Mo_difference_94 c := mAt_blk rfl
theorem a_Mo_difference_102 (D : Nat) (c : mC) (Q : mQ) : mAt (mRun D) 262 102 c Q = mWp (mRun D) 262 0 (fun pc c => mAt (mRun D) 262 pc c Q) Q bk_Mo_difference_102 c := mAt_blk rfl
theorem e_Mo_changedAmounts (D : Nat) (x0 : mV) (I : mN) (S : mH) (Q : mQ) (h : mCs [x0] ≤ 1) : mRun (D + 1) 263 [x0] I S Q = mAt (mRun D) 263 0 ([some x0, none, none, none, none, none], [], I, S) Q := propext ⟨fun z => z.2, fun z => ⟨⟨h, Nat.le_of_ble_eq_true rfl⟩, z⟩⟩
theorem a_Mo_changedAmounts_0 (D : Nat) (c : mC) (Q : mQ) : mAt (mRun D) 263 0 c Q = mWp (mRun D) 263 0 (fun pc c => mAt (mRun D) 263 pc c Q) Q bk_Mo_changedAmounts_0 c := mAt_blk rfl
theorem a_Mo_changedAmounts_15 (D : Nat) (c : mC) (Q : mQ) : mAt (mRun D) 263 15 c Q = mWp (mRun D) 263 0 (fun pc c => mAt (mRun D) 263 pc c Q) Q bk_Mo_changedAmounts_15 c := mAt_blk rfl
theorem a_Mo_changedAmounts_55 (D : Nat) (c : mC) (Q : mQ) : mAt (mRun D) 263 55 c Q = mWp (mRun D) 263 98 (fun pc c => mAt (mRun D) 263 pc c Q) Q bk_Mo_changedAmounts_55 c := mAt_blk rfl
theorem a_Mo_changedAmounts_98 (D : Nat) (c : mC) (Q : mQ) : mAt (mRun D) 263 98 c Q = mWp (mRun D) 263 137 (fun pc c => mAt (mRun D) 263 pc c Q) Q bk_Mo_changedAmounts_98 c := mAt_blk rfl
theorem a_Mo_changedAmounts_137 (D : Nat) (c : mC) (Q : mQ) : mAt (mRun D) 263 137 c Q = mWp (mRun D) 263 146 (fun pc c => mAt (mRun D) 263 pc c Q) Q bk_Mo_changedAmounts_137 c := mAt_blk rfl
theorem a_Mo_changedAmounts_146 (D : Nat) (c : mC) (Q : mQ) : mAt (mRun D) 263 146 c Q = mWp (mRun D) 263 0 (fun pc c => mAt (mRun D) 263 pc c Q) Q bk_Mo_changedAmounts_146 c := mAt_blk rfl
theorem a_Mo_changedAmounts_187 (D : Nat) (c : mC) (Q : mQ) : mAt (mRun D) 263 187 c Q = mWp (mRun D) 263 188 (fun pc c => mAt (mRun D) 263 pc c Q) Q bk_Mo_changedAmounts_187 c := mAt_blk rfl
theorem a_Mo_changedAmounts_188 (D : Nat) (c : mC) (Q : mQ) : mAt (mRun D) 263 188 c Q = mWp (mRun D) 263 0 (fun pc c => mAt (mRun D) 263 pc c Q) Q bk_Mo_changedAmounts_188 c := mAt_blk rfl
theorem a_Mo_changedAmounts_196 (D : Nat) (c : mC) (Q : mQ) : mAt (mRun D) 263 196 c Q = mWp (mRun D) 263 0 (fun pc c => mAt (mRun D) 263 pc c Q) Q bk_Mo_changedAmounts_196 c := mAt_blk rfl
theorem a_Mo_changedAmounts_202 (D : Nat) (c : mC) (Q : mQ) : mAt (mRun D) 263 202 c Q = mWp (mRun D) 263 0 (fun pc c => mAt (mRun D) 263 pc c Q) Q bk_Mo_changedAmounts_202 c := mAt_blk rfl
theorem e_Mo_inflowCell (D : Nat) (x0 x1 x2 : mV) (I : mN) (S : mH) (Q : mQ) (h : mCs [x0, x1, x2] ≤ 3) : mRun (D + 1) 264 [x0, x1, x2] I S Q = mAt (mRun D) 264 0 ([some x0, some x1, some x2], [], I, S) Q := propext ⟨fun z => z.2, fun z => ⟨⟨h, Nat.le_of_ble_eq_true rfl⟩, z⟩⟩
theorem a_Mo_inflowCell_0 (D : Nat) (c : mC) (Q : mQ) : mAt (mRun D) 264 0 c Q = mWp (mRun D) 264 0 (fun pc c => mAt (mRun D) 264 pc c Q) Q bk_Mo_inflowCell_0 c := mAt_blk rfl
theorem e_Mo_storageCell (D : Nat) (x0 : mV) (I : mN) (S : mH) (Q : mQ) (h : mCs [x0] ≤ 1) : mRun (D + 1) 265 [x0] I S Q = mAt (mRun D) 265 0 ([some x0], [], I, S) Q := propext ⟨fun z => z.2, fun z => ⟨⟨h, Nat.le_of_ble_eq_true rfl⟩, z⟩⟩
theorem a_Mo_storageCell_0 (D : Nat) (c : mC) (Q : mQ) : mAt (mRun D) 265 0 c Q = mWp (mRun D) 265 0 (fun pc c => mAt (mRun D) 265 pc c Q) Q bk_Mo_storageCell_0 c := mAt_blk rfl
theorem e_Mo_reachCell (D : Nat) (x0 : mV) (I : mN) (S : mH) (Q : mQ) (h : mCs [x0] ≤ 1) : mRun (D + 1) 266 [x0] I S Q = mAt (mRun D) 266 0 ([some x0], [], I, S) Q := propext ⟨fun z => z.2, fun z => ⟨⟨h, Nat.le_of_ble_eq_true rfl⟩, z⟩⟩
theorem a_Mo_reachCell_0 (D : Nat) (c : mC) (Q : mQ) : mAt (mRun D) 266 0 c Q = mWp (mRun D) 266 0 (fun pc c => mAt (mRun D) 266 pc c Q) Q bk_Mo_reachCell_0 c := mAt_blk rfl
theorem e_Mo_rightCell (D : Nat) (x0 : mV) (I : mN) (S : mH) (Q : mQ) (h : mCs [x0] ≤ 1) : mRun (D + 1) 267 [x0] I S Q = mAt (mRun D) 267 0 ([some x0], [], I, S) Q := propext ⟨fun z => z.2, fun z => ⟨⟨h, Nat.le_of_ble_eq_true rfl⟩, z⟩⟩
theorem a_Mo_rightCell_0 (D : Nat) (c : mC) (Q : mQ) : mAt (mRun D) 267 0 c Q = mWp (mRun D) 267 0 (fun pc c => mAt (mRun D) 267 pc c Q) Q bk_Mo_rightCell_0 c := mAt_blk rfl
theorem e_Mo_addPlace (D : Nat) (x0 x1 x2 : mV) (I : mN) (S : mH) (Q : mQ) (h : mCs [x0, x1, x2] ≤ 3) : mRun (D + 1) 268 [x0, x1, x2] I S Q = mAt (mRun D) 268 0 ([some x0, some x1, some x2, none, none], [], I, S) Q := propext ⟨fun z => z.2, fun z => ⟨⟨h, Nat.le_of_ble_eq_true rfl⟩, z⟩⟩
theorem a_Mo_addPlace_0 (D : Nat) (c : mC) (Q : mQ) : mAt (mRun D) 268 0 c Q = mWp (mRun D) 268 0 (fun pc c => mAt (mRun D) 268 pc c Q) Q bk_Mo_addPlace_0 c := mAt_blk rfl
theorem a_Mo_addPlace_23 (D : Nat) (c : mC) (Q : mQ) : mAt (mRun D) 268 23 c Q = mWp (mRun D) 268 24 (fun pc c => mAt (mRun D) 268 pc c Q) Q bk_Mo_addPlace_23 c := mAt_blk rfl
theorem a_Mo_addPlace_24 (D : Nat) (c : mC) (Q : mQ) : mAt (mRun D) 268 24 c Q = mWp (mRun D) 268 0 (fun pc c => mAt (mRun D) 268 pc c Q) Q bk_Mo_addPlace_24 c := mAt_blk rfl
theorem a_Mo_addPlace_42 (D : Nat) (c : mC) (Q : mQ) : mAt (mRun D) 268 42 c Q = mWp (mRun D) 268 43 (fun pc c => mAt (mRun D) 268 pc c Q) Q bk_Mo_addPlace_42 c := mAt_blk rfl
theorem a_Mo_addPlace_43 (D : Nat) (c : mC) (Q : mQ) : mAt (mRun D) 268 43 c Q = mWp (mRun D) 268 0 (fun pc c => mAt (mRun D) 268 pc c Q) Q bk_Mo_addPlace_43 c := mAt_blk rfl
theorem a_Mo_addPlace_51 (D : Nat) (c : mC) (Q : mQ) : mAt (mRun D) 268 51 c Q = mWp (mRun D) 268 0 (fun pc c => mAt (mRun D) 268 pc c Q) Q bk_Mo_addPlace_51 c := mAt_blk rfl
theorem e_Mo_addReach (D : Nat) (x0 x1 x2 x3 x4 : mV) (I : mN) (S : mH) (Q : mQ) (h : mCs [x0, x1, x2, x3, x4] ≤ 5) : mRun (D + 1) 269 [x0, x1, x2, x3, x4] I S Q = mAt (mRun D) 269 0 ([some x0, some x1, some x2, some x3, some x4, none, none, none, none, none], [], I, S) Q := propext ⟨fun z => z.2, fun z => ⟨⟨h, Nat.le_of_ble_eq_true rfl⟩, z⟩⟩
theorem a_Mo_addReach_0 (D : Nat) (c : mC) (Q : mQ) : mAt (mRun D) 269 0 c Q = mWp (mRun D) 269 0 (fun pc c => mAt (mRun D) 269 pc c Q) Q bk_Mo_addReach_0 c := mAt_blk rfl
theorem a_Mo_addReach_26 (D : Nat) (c : mC) (Q : mQ) : mAt (mRun D) 269 26 c Q = mWp (mRun D) 269 27 (fun pc c => mAt (mRun D) 269 pc c Q) Q bk_Mo_addReach_26 c := mAt_blk rfl
theorem a_Mo_addReach_27 (D : Nat) (c : mC) (Q : mQ) : mAt (mRun D) 269 27 c Q = mWp (mRun D) 269 0 (fun pc c => mAt (mRun D) 269 pc c Q) Q bk_Mo_addReach_27 c := mAt_blk rfl
theorem a_Mo_addReach_58 (D : Nat) (c : mC) (Q : mQ) : mAt (mRun D) 269 58 c Q = mWp (mRun D) 269 59 (fun pc c => mAt (mRun D) 269 pc c Q) Q bk_Mo_addReach_58 c := mAt_blk rfl
theorem a_Mo_addReach_59 (D : Nat) (c : mC) (Q : mQ) : mAt (mRun D) 269 59 c Q = mWp (mRun D) 269 0 (fun pc c => mAt (mRun D) 269 pc c Q) Q bk_Mo_addReach_59 c := mAt_blk rfl
theorem a_Mo_addReach_81 (D : Nat) (c : mC) (Q : mQ) : mAt (mRun D) 269 81 c Q = mWp (mRun D) 269 82 (fun pc c => mAt (mRun D) 269 pc c Q) Q bk_Mo_addReach_81 c := mAt_blk rfl
theorem a_Mo_addReach_82 (D : Nat) (c : mC) (Q : mQ) : mAt (mRun D) 269 82 c Q = mWp (mRun D) 269 0 (fun pc c => mAt (mRun D) 269 pc c Q) Q bk_Mo_addReach_82 c := mAt_blk rfl
theorem a_Mo_addReach_90 (D : Nat) (c : mC) (Q : mQ) : mAt (mRun D) 269 90 c Q = mWp (mRun D) 269 141 (fun pc c => mAt (mRun D) 269 pc c Q) Q bk_Mo_addReach_90 c := mAt_blk rfl
theorem a_Mo_addReach_141 (D : Nat) (c : mC) (Q : mQ) : mAt (mRun D) 269 141 c Q = mWp (mRun D) 269 0 (fun pc c => mAt (mRun D) 269 pc c Q) Q bk_Mo_addReach_141 c := mAt_blk rfl
theorem a_Mo_addReach_167 (D : Nat) (c : mC) (Q : mQ) : mAt (mRun D) 269 167 c Q = mWp (mRun D) 269 0 (fun pc c => mAt (mRun D) 269 pc c Q) Q bk_Mo_addReach_167 c := mAt_blk rfl
theorem e_Mo_setCapacity (D : Nat) (x0 x1 x2 x3 : mV) (I : mN) (S : mH) (Q : mQ) (h : mCs [x0, x1, x2, x3] ≤ 4) : mRun (D + 1) 270 [x0, x1, x2, x3] I S Q = mAt (mRun D) 270 0 ([some x0, some x1, some x2, some x3, none, none], [], I, S) Q := propext ⟨fun z => z.2, fun z => ⟨⟨h, Nat.le_of_ble_eq_true rfl⟩, z⟩⟩
theorem a_Mo_setCapacity_0 (D : Nat) (c : mC) (Q : mQ) : mAt (mRun D) 270 0 c Q = mWp (mRun D) 270 0 (fun pc c => mAt (mRun D) 270 pc c Q) Q bk_Mo_setCapacity_0 c := mAt_blk rfl
theorem a_Mo_setCapacity_30 (D : Nat) (c : mC) (Q : mQ) : mAt (mRun D) 270 30 c Q = mWp (mRun D) 270 31 (fun pc c => mAt (mRun D) 270 pc c Q) Q bk_Mo_setCapacity_30 c := mAt_blk rfl
theorem a_Mo_setCapacity_31 (D : Nat) (c : mC) (Q : mQ) : mAt (mRun D) 270 31 c Q = mWp (mRun D) 270 0 (fun pc c => mAt (mRun D) 270 pc c Q) Q bk_Mo_setCapacity_31 c := mAt_blk rfl
theorem a_Mo_setCapacity_45 (D : Nat) (c : mC) (Q : mQ) : mAt (mRun D) 270 45 c Q = mWp (mRun D) 270 46 (fun pc c => mAt (mRun D) 270 pc c Q) Q bk_Mo_setCapacity_45 c := mAt_blk rfl
theorem a_Mo_setCapacity_46 (D : Nat) (c : mC) (Q : mQ) : mAt (mRun D) 270 46 c Q = mWp (mRun D) 270 0 (fun pc c => mAt (mRun D) 270 pc c Q) Q bk_Mo_setCapacity_46 c := mAt_blk rfl
theorem a_Mo_setCapacity_54 (D : Nat) (c : mC) (Q : mQ) : mAt (mRun D) 270 54 c Q = mWp (mRun D) 270 0 (fun pc c => mAt (mRun D) 270 pc c Q) Q bk_Mo_setCapacity_54 c := mAt_blk rfl
theorem e_Mo_addTo (D : Nat) (x0 x1 x2 x3 : mV) (I : mN) (S : mH) (Q : mQ) (h : mCs [x0, x1, x2, x3] ≤ 4) : mRun (D + 1) 271 [x0, x1, x2, x3] I S Q = mAt (mRun D) 271 0 ([some x0, some x1, some x2, some x3, none, none], [], I, S) Q := propext ⟨fun z => z.2, fun z => ⟨⟨h, Nat.le_of_ble_eq_true rfl⟩, z⟩⟩
theorem a_Mo_addTo_0 (D : Nat) (c : mC) (Q : mQ) : mAt (mRun D) 271 0 c Q = mWp (mRun D) 271 0 (fun pc c => mAt (mRun D) 271 pc c Q) Q bk_Mo_addTo_0 c := mAt_blk rfl
theorem e_Mo_asks (D : Nat) (x0 x1 x2 x3 x4 : mV) (I : mN) (S : mH) (Q : mQ) (h : mCs [x0, x1, x2, x3, x4] ≤ 5) : mRun (D + 1) 272 [x0, x1, x2, x3, x4] I S Q = mAt (mRun D) 272 0 ([some x0, some x1, some x2, some x3, some x4, none, none, none], [], I, S) Q := propext ⟨fun z => z.2, fun z => ⟨⟨h, Nat.le_of_ble_eq_true rfl⟩, z⟩⟩
theorem a_Mo_asks_0 (D : Nat) (c : mC) (Q : mQ) : mAt (mRun D) 272 0 c Q = mWp (mRun D) 272 0 (fun pc c => mAt (mRun D) 272 pc c Q) Q bk_Mo_asks_0 c := mAt_blk rfl
theorem a_Mo_asks_22 (D : Nat) (c : mC) (Q : mQ) : mAt (mRun D) 272 22 c Q = mWp (mRun D) 272 47 (fun pc c => mAt (mRun D) 272 pc c Q) Q bk_Mo_asks_22 c := mAt_blk rfl
theorem a_Mo_asks_47 (D : Nat) (c : mC) (Q : mQ) : mAt (mRun D) 272 47 c Q = mWp (mRun D) 272 0 (fun pc c => mAt (mRun D) 272 pc c Q) Q bk_Mo_asks_47 c := mAt_blk rfl
theorem a_Mo_asks_49 (D : Nat) (c : mC) (Q : mQ) : mAt (mRun D) 272 49 c Q = mWp (mRun D) 272 0 (fun pc c => mAt (mRun D) 272 pc c Q) Q bk_Mo_asks_49 c := mAt_blk rfl
theorem a_Mo_asks_76 (D : Nat) (c : mC) (Q : mQ) : mAt (mRun D) 272 76 c Q = mWp (mRun D) 272 85 (fun pc c => mAt (mRun D) 272 pc c Q) Q bk_Mo_asks_76 c := mAt_blk rfl
theorem a_Mo_asks_85 (D : Nat) (c : mC) (Q : mQ) : mAt (mRun D) 272 85 c Q = mWp (mRun D) 272 0 (fun pc c => mAt (mRun D) 272 pc c Q) Q bk_Mo_asks_85 c := mAt_blk rfl
theorem a_Mo_asks_96 (D : Nat) (c : mC) (Q : mQ) : mAt (mRun D) 272 96 c Q = mWp (mRun D) 272 0 (fun pc c => mAt (mRun D) 272 pc c Q) Q bk_Mo_asks_96 c := mAt_blk rfl
theorem a_Mo_asks_108 (D : Nat) (c : mC) (Q : mQ) : mAt (mRun D) 272 108 c Q = mWp (mRun D) 272 110 (fun pc c => mAt (mRun D) 272 pc c Q) Q bk_Mo_asks_108 c := mAt_blk rfl
theorem a_Mo_asks_110 (D : Nat) (c : mC) (Q : mQ) : mAt (mRun D) 272 110 c Q = mWp (mRun D) 272 0 (fun pc c => mAt (mRun D) 272 pc c Q) Q bk_Mo_asks_110 c := mAt_blk rfl
theorem e_Mo_addRight (D : Nat) (x0 x1 x2 x3 : mV) (I : mN) (S : mH) (Q : mQ) (h : mCs [x0, x1, x2, x3] ≤ 4) : mRun (D + 1) 273 [x0, x1, x2, x3] I S Q = mAt (mRun D) 273 0 ([some x0, some x1, some x2, some x3, none], [], I, S) Q := propext ⟨fun z => z.2, fun z => ⟨⟨h, Nat.le_of_ble_eq_true rfl⟩, z⟩⟩
theorem a_Mo_addRight_0 (D : Nat) (c : mC) (Q : mQ) : mAt (mRun D) 273 0 c Q = mWp (mRun D) 273 0 (fun pc c => mAt (mRun D) 273 pc c Q) Q bk_Mo_addRight_0 c := mAt_blk rfl
theorem a_Mo_addRight_27 (D : Nat) (c : mC) (Q : mQ) : mAt (mRun D) 273 27 c Q = mWp (mRun D) 273 28 (fun pc c => mAt (mRun D) 273 pc c Q) Q bk_Mo_addRight_27 c := mAt_blk rfl
theorem a_Mo_addRight_28 (D : Nat) (c : mC) (Q : mQ) : mAt (mRun D) 273 28 c Q = mWp (mRun D) 273 0 (fun pc c => mAt (mRun D) 273 pc c Q) Q bk_Mo_addRight_28 c := mAt_blk rfl
theorem a_Mo_addRight_56 (D : Nat) (c : mC) (Q : mQ) : mAt (mRun D) 273 56 c Q = mWp (mRun D) 273 57 (fun pc c => mAt (mRun D) 273 pc c Q) Q bk_Mo_addRight_56 c := mAt_blk rfl
theorem a_Mo_addRight_57 (D : Nat) (c : mC) (Q : mQ) : mAt (mRun D) 273 57 c Q = mWp (mRun D) 273 0 (fun pc c => mAt (mRun D) 273 pc c Q) Q bk_Mo_addRight_57 c := mAt_blk rfl
theorem a_Mo_addRight_65 (D : Nat) (c : mC) (Q : mQ) : mAt (mRun D) 273 65 c Q = mWp (mRun D) 273 0 (fun pc c => mAt (mRun D) 273 pc c Q) Q bk_Mo_addRight_65 c := mAt_blk rfl
theorem e_Mo_isGivenUp (D : Nat) (x0 x1 : mV) (I : mN) (S : mH) (Q : mQ) (h : mCs [x0, x1] ≤ 2) : mRun (D + 1) 274 [x0, x1] I S Q = mAt (mRun D) 274 0 ([some x0, some x1], [], I, S) Q := propext ⟨fun z => z.2, fun z => ⟨⟨h, Nat.le_of_ble_eq_true rfl⟩, z⟩⟩
theorem a_Mo_isGivenUp_0 (D : Nat) (c : mC) (Q : mQ) : mAt (mRun D) 274 0 c Q = mWp (mRun D) 274 0 (fun pc c => mAt (mRun D) 274 pc c Q) Q bk_Mo_isGivenUp_0 c := mAt_blk rfl
theorem a_Mo_isGivenUp_30 (D : Nat) (c : mC) (Q : mQ) : mAt (mRun D) 274 30 c Q = mWp (mRun D) 274 31 (fun pc c => mAt (mRun D) 274 pc c Q) Q bk_Mo_isGivenUp_30 c := mAt_blk rfl
theorem a_Mo_isGivenUp_31 (D : Nat) (c : mC) (Q : mQ) : mAt (mRun D) 274 31 c Q = mWp (mRun D) 274 0 (fun pc c => mAt (mRun D) 274 pc c Q) Q bk_Mo_isGivenUp_31 c := mAt_blk rfl
theorem e_Mo_setAsk (D : Nat) (x0 x1 x2 x3 x4 : mV) (I : mN) (S : mH) (Q : mQ) (h : mCs [x0, x1, x2, x3, x4] ≤ 5) : mRun (D + 1) 275 [x0, x1, x2, x3, x4] I S Q = mAt (mRun D) 275 0 ([some x0, some x1, some x2, some x3, some x4, none, none, none, none], [], I, S) Q := propext ⟨fun z => z.2, fun z => ⟨⟨h, Nat.le_of_ble_eq_true rfl⟩, z⟩⟩
theorem a_Mo_setAsk_0 (D : Nat) (c : mC) (Q : mQ) : mAt (mRun D) 275 0 c Q = mWp (mRun D) 275 0 (fun pc c => mAt (mRun D) 275 pc c Q) Q bk_Mo_setAsk_0 c := mAt_blk rfl
theorem a_Mo_setAsk_32 (D : Nat) (c : mC) (Q : mQ) : mAt (mRun D) 275 32 c Q = mWp (mRun D) 275 33 (fun pc c => mAt (mRun D) 275 pc c Q) Q bk_Mo_setAsk_32 c := mAt_blk rfl
theorem a_Mo_setAsk_33 (D : Nat) (c : mC) (Q : mQ) : mAt (mRun D) 275 33 c Q = mWp (mRun D) 275 0 (fun pc c => mAt (mRun D) 275 pc c Q) Q bk_Mo_setAsk_33 c := mAt_blk rfl
theorem a_Mo_setAsk_68 (D : Nat) (c : mC) (Q : mQ) : mAt (mRun D) 275 68 c Q = mWp (mRun D) 275 69 (fun pc c => mAt (mRun D) 275 pc c Q) Q bk_Mo_setAsk_68 c := mAt_blk rfl
theorem a_Mo_setAsk_69 (D : Nat) (c : mC) (Q : mQ) : mAt (mRun D) 275 69 c Q = mWp (mRun D) 275 0 (fun pc c => mAt (mRun D) 275 pc c Q) Q bk_Mo_setAsk_69 c := mAt_blk rfl
theorem a_Mo_setAsk_77 (D : Nat) (c : mC) (Q : mQ) : mAt (mRun D) 275 77 c Q = mWp (mRun D) 275 96 (fun pc c => mAt (mRun D) 275 pc c Q) Q bk_Mo_setAsk_77 c := mAt_blk rfl
theorem a_Mo_setAsk_96 (D : Nat) (c : mC) (Q : mQ) : mAt (mRun D) 275 96 c Q = mWp (mRun D) 275 0 (fun pc c => mAt (mRun D) 275 pc c Q) Q bk_Mo_setAsk_96 c := mAt_blk rfl
theorem a_Mo_setAsk_123 (D : Nat) (c : mC) (Q : mQ) : mAt (mRun D) 275 123 c Q = mWp (mRun D) 275 124 (fun pc c => mAt (mRun D) 275 pc c Q) Q bk_Mo_setAsk_123 c := mAt_blk rfl
theorem a_Mo_setAsk_124 (D : Nat) (c : mC) (Q : mQ) : mAt (mRun D) 275 124 c Q = mWp (mRun D) 275 0 (fun pc c => mAt (mRun D) 275 pc c Q) Q bk_Mo_setAsk_124 c := mAt_blk rfl
theorem a_Mo_setAsk_145 (D : Nat) (c : mC) (Q : mQ) : mAt (mRun D) 275 145 c Q = mWp (mRun D) 275 0 (fun pc c => mAt (mRun D) 275 pc c Q) Q bk_Mo_setAsk_145 c := mAt_blk rfl
theorem e_Mo_abandon (D : Nat) (x0 x1 : mV) (I : mN) (S : mH) (Q : mQ) (h : mCs [x0, x1] ≤ 2) : mRun (D + 1) 276 [x0, x1] I S Q = mAt (mRun D) 276 0 ([some x0, some x1, none, none], [], I, S) Q := propext ⟨fun z => z.2, fun z => ⟨⟨h, Nat.le_of_ble_eq_true rfl⟩, z⟩⟩
theorem a_Mo_abandon_0 (D : Nat) (c : mC) (Q : mQ) : mAt (mRun D) 276 0 c Q = mWp (mRun D) 276 0 (fun pc c => mAt (mRun D) 276 pc c Q) Q bk_Mo_abandon_0 c := mAt_blk rfl
theorem a_Mo_abandon_21 (D : Nat) (c : mC) (Q : mQ) : mAt (mRun D) 276 21 c Q = mWp (mRun D) 276 22 (fun pc c => mAt (mRun D) 276 pc c Q) Q bk_Mo_abandon_21 c := mAt_blk rfl
theorem a_Mo_abandon_22 (D : Nat) (c : mC) (Q : mQ) : mAt (mRun D) 276 22 c Q = mWp (mRun D) 276 0 (fun pc c => mAt (mRun D) 276 pc c Q) Q bk_Mo_abandon_22 c := mAt_blk rfl
theorem a_Mo_abandon_30 (D : Nat) (c : mC) (Q : mQ) : mAt (mRun D) 276 30 c Q = mWp (mRun D) 276 39 (fun pc c => mAt (mRun D) 276 pc c Q) Q bk_Mo_abandon_30 c := mAt_blk rfl
theorem a_Mo_abandon_39 (D : Nat) (c : mC) (Q : mQ) : mAt (mRun D) 276 39 c Q = mWp (mRun D) 276 0 (fun pc c => mAt (mRun D) 276 pc c Q) Q bk_Mo_abandon_39 c := mAt_blk rfl
theorem a_Mo_abandon_61 (D : Nat) (c : mC) (Q : mQ) : mAt (mRun D) 276 61 c Q = mWp (mRun D) 276 0 (fun pc c => mAt (mRun D) 276 pc c Q) Q bk_Mo_abandon_61 c := mAt_blk rfl
theorem e_Mo_balanceOf (D : Nat) (x0 x1 : mV) (I : mN) (S : mH) (Q : mQ) (h : mCs [x0, x1] ≤ 2) : mRun (D + 1) 277 [x0, x1] I S Q = mAt (mRun D) 277 0 ([some x0, some x1], [], I, S) Q := propext ⟨fun z => z.2, fun z => ⟨⟨h, Nat.le_of_ble_eq_true rfl⟩, z⟩⟩
theorem a_Mo_balanceOf_0 (D : Nat) (c : mC) (Q : mQ) : mAt (mRun D) 277 0 c Q = mWp (mRun D) 277 0 (fun pc c => mAt (mRun D) 277 pc c Q) Q bk_Mo_balanceOf_0 c := mAt_blk rfl
theorem a_Mo_balanceOf_25 (D : Nat) (c : mC) (Q : mQ) : mAt (mRun D) 277 25 c Q = mWp (mRun D) 277 26 (fun pc c => mAt (mRun D) 277 pc c Q) Q bk_Mo_balanceOf_25 c := mAt_blk rfl
theorem a_Mo_balanceOf_26 (D : Nat) (c : mC) (Q : mQ) : mAt (mRun D) 277 26 c Q = mWp (mRun D) 277 0 (fun pc c => mAt (mRun D) 277 pc c Q) Q bk_Mo_balanceOf_26 c := mAt_blk rfl
theorem e_Mo_fund (D : Nat) (x0 x1 x2 : mV) (I : mN) (S : mH) (Q : mQ) (h : mCs [x0, x1, x2] ≤ 3) : mRun (D + 1) 278 [x0, x1, x2] I S Q = mAt (mRun D) 278 0 ([some x0, some x1, some x2], [], I, S) Q := propext ⟨fun z => z.2, fun z => ⟨⟨h, Nat.le_of_ble_eq_true rfl⟩, z⟩⟩
theorem a_Mo_fund_0 (D : Nat) (c : mC) (Q : mQ) : mAt (mRun D) 278 0 c Q = mWp (mRun D) 278 0 (fun pc c => mAt (mRun D) 278 pc c Q) Q bk_Mo_fund_0 c := mAt_blk rfl
theorem a_Mo_fund_34 (D : Nat) (c : mC) (Q : mQ) : mAt (mRun D) 278 34 c Q = mWp (mRun D) 278 35 (fun pc c => mAt (mRun D) 278 pc c Q) Q bk_Mo_fund_34 c := mAt_blk rfl
theorem a_Mo_fund_35 (D : Nat) (c : mC) (Q : mQ) : mAt (mRun D) 278 35 c Q = mWp (mRun D) 278 0 (fun pc c => mAt (mRun D) 278 pc c Q) Q bk_Mo_fund_35 c := mAt_blk rfl
theorem a_Mo_fund_43 (D : Nat) (c : mC) (Q : mQ) : mAt (mRun D) 278 43 c Q = mWp (mRun D) 278 0 (fun pc c => mAt (mRun D) 278 pc c Q) Q bk_Mo_fund_43 c := mAt_blk rfl
theorem e_Mo_setInflow (D : Nat) (x0 x1 x2 x3 x4 : mV) (I : mN) (S : mH) (Q : mQ) (h : mCs [x0, x1, x2, x3, x4] ≤ 5) : mRun (D + 1) 279 [x0, x1, x2, x3, x4] I S Q = mAt (mRun D) 279 0 ([some x0, some x1, some x2, some x3, some x4, none, none, none], [], I, S) Q := propext ⟨fun z => z.2, fun z => ⟨⟨h, Nat.le_of_ble_eq_true rfl⟩, z⟩⟩
theorem a_Mo_setInflow_0 (D : Nat) (c : mC) (Q : mQ) : mAt (mRun D) 279 0 c Q = mWp (mRun D) 279 0 (fun pc c => mAt (mRun D) 279 pc c Q) Q bk_Mo_setInflow_0 c := mAt_blk rfl
theorem a_Mo_setInflow_24 (D : Nat) (c : mC) (Q : mQ) : mAt (mRun D) 279 24 c Q = mWp (mRun D) 279 25 (fun pc c => mAt (mRun D) 279 pc c Q) Q bk_Mo_setInflow_24 c := mAt_blk rfl
theorem a_Mo_setInflow_25 (D : Nat) (c : mC) (Q : mQ) : mAt (mRun D) 279 25 c Q = mWp (mRun D) 279 0 (fun pc c => mAt (mRun D) 279 pc c Q) Q bk_Mo_setInflow_25 c := mAt_blk rfl
theorem a_Mo_setInflow_52 (D : Nat) (c : mC) (Q : mQ) : mAt (mRun D) 279 52 c Q = mWp (mRun D) 279 53 (fun pc c => mAt (mRun D) 279 pc c Q) Q bk_Mo_setInflow_52 c := mAt_blk rfl
theorem a_Mo_setInflow_53 (D : Nat) (c : mC) (Q : mQ) : mAt (mRun D) 279 53 c Q = mWp (mRun D) 279 0 (fun pc c => mAt (mRun D) 279 pc c Q) Q bk_Mo_setInflow_53 c := mAt_blk rfl
theorem a_Mo_setInflow_67 (D : Nat) (c : mC) (Q : mQ) : mAt (mRun D) 279 67 c Q = mWp (mRun D) 279 68 (fun pc c => mAt (mRun D) 279 pc c Q) Q bk_Mo_setInflow_67 c := mAt_blk rfl
theorem a_Mo_setInflow_68 (D : Nat) (c : mC) (Q : mQ) : mAt (mRun D) 279 68 c Q = mWp (mRun D) 279 0 (fun pc c => mAt (mRun D) 279 pc c Q) Q bk_Mo_setInflow_68 c := mAt_blk rfl
theorem a_Mo_setInflow_76 (D : Nat) (c : mC) (Q : mQ) : mAt (mRun D) 279 76 c Q = mWp (mRun D) 279 0 (fun pc c => mAt (mRun D) 279 pc c Q) Q bk_Mo_setInflow_76 c := mAt_blk rfl
theorem e_Mo_gauge (D : Nat) (x0 x1 x2 : mV) (I : mN) (S : mH) (Q : mQ) (h : mCs [x0, x1, x2] ≤ 3) : mRun (D + 1) 280 [x0, x1, x2] I S Q = mAt (mRun D) 280 0 ([some x0, some x1, some x2, none, none], [], I, S) Q := propext ⟨fun z => z.2, fun z => ⟨⟨h, Nat.le_of_ble_eq_true rfl⟩, z⟩⟩
theorem a_Mo_gauge_0 (D : Nat) (c : mC) (Q : mQ) : mAt (mRun D) 280 0 c Q = mWp (mRun D) 280 0 (fun pc c => mAt (mRun D) 280 pc c Q) Q bk_Mo_gauge_0 c := mAt_blk rfl
theorem a_Mo_gauge_31 (D : Nat) (c : mC) (Q : mQ) : mAt (mRun D) 280 31 c Q = mWp (mRun D) 280 32 (fun pc c => mAt (mRun D) 280 pc c Q) Q bk_Mo_gauge_31 c := mAt_blk rfl
theorem a_Mo_gauge_32 (D : Nat) (c : mC) (Q : mQ) : mAt (mRun D) 280 32 c Q = mWp (mRun D) 280 0 (fun pc c => mAt (mRun D) 280 pc c Q) Q bk_Mo_gauge_32 c := mAt_blk rfl
theorem a_Mo_gauge_40 (D : Nat) (c : mC) (Q : mQ) : mAt (mRun D) 280 40 c Q = mWp (mRun D) 280 64 (fun pc c => mAt (mRun D) 280 pc c Q) Q bk_Mo_gauge_40 c := mAt_blk rfl
theorem a_Mo_gauge_64 (D : Nat) (c : mC) (Q : mQ) : mAt (mRun D) 280 64 c Q = mWp (mRun D) 280 0 (fun pc c => mAt (mRun D) 280 pc c Q) Q bk_Mo_gauge_64 c := mAt_blk rfl
theorem a_Mo_gauge_94 (D : Nat) (c : mC) (Q : mQ) : mAt (mRun D) 280 94 c Q = mWp (mRun D) 280 0 (fun pc c => mAt (mRun D) 280 pc c Q) Q bk_Mo_gauge_94 c := mAt_blk rfl
theorem e_Mo_measure (D : Nat) (x0 x1 x2 : mV) (I : mN) (S : mH) (Q : mQ) (h : mCs [x0, x1, x2] ≤ 3) : mRun (D + 1) 281 [x0, x1, x2] I S Q = mAt (mRun D) 281 0 ([some x0, some x1, some x2, none, none], [], I, S) Q := propext ⟨fun z => z.2, fun z => ⟨⟨h, Nat.le_of_ble_eq_true rfl⟩, z⟩⟩
theorem a_Mo_measure_0 (D : Nat) (c : mC) (Q : mQ) : mAt (mRun D) 281 0 c Q = mWp (mRun D) 281 0 (fun pc c => mAt (mRun D) 281 pc c Q) Q bk_Mo_measure_0 c := mAt_blk rfl
theorem a_Mo_measure_37 (D : Nat) (c : mC) (Q : mQ) : mAt (mRun D) 281 37 c Q = mWp (mRun D) 281 38 (fun pc c => mAt (mRun D) 281 pc c Q) Q bk_Mo_measure_37 c := mAt_blk rfl
theorem a_Mo_measure_38 (D : Nat) (c : mC) (Q : mQ) : mAt (mRun D) 281 38 c Q = mWp (mRun D) 281 0 (fun pc c => mAt (mRun D) 281 pc c Q) Q bk_Mo_measure_38 c := mAt_blk rfl
theorem a_Mo_measure_53 (D : Nat) (c : mC) (Q : mQ) : mAt (mRun D) 281 53 c Q = mWp (mRun D) 281 54 (fun pc c => mAt (mRun D) 281 pc c Q) Q bk_Mo_measure_53 c := mAt_blk rfl
theorem a_Mo_measure_54 (D : Nat) (c : mC) (Q : mQ) : mAt (mRun D) 281 54 c Q = mWp (mRun D) 281 0 (fun pc c => mAt (mRun D) 281 pc c Q) Q bk_Mo_measure_54 c := mAt_blk rfl
theorem a_Mo_measure_62 (D : Nat) (c : mC) (Q : mQ) : mAt (mRun D) 281 62 c Q = mWp (mRun D) 281 0 (fun pc c => mAt (mRun D) 281 pc c Q) Q bk_Mo_measure_62 c := mAt_blk rfl
theorem e_Mo_findWeek (D : Nat) (x0 x1 : mV) (I : mN) (S : mH) (Q : mQ) (h : mCs [x0, x1] ≤ 2) : mRun (D + 1) 282 [x0, x1] I S Q = mAt (mRun D) 282 0 ([some x0, some x1, none], [], I, S) Q := propext ⟨fun z => z.2, fun z => ⟨⟨h, Nat.le_of_ble_eq_true rfl⟩, z⟩⟩
theorem a_Mo_findWeek_0 (D : Nat) (c : mC) (Q : mQ) : mAt (mRun D) 282 0 c Q = mWp (mRun D) 282 2 (fun pc c => mAt (mRun D) 282 pc c Q) Q bk_Mo_findWeek_0 c := mAt_blk rfl
theorem a_Mo_findWeek_2 (D : Nat) (c : mC) (Q : mQ) : mAt (mRun D) 282 2 c Q = mWp (mRun D) 282 0 (fun pc c => mAt (mRun D) 282 pc c Q) Q bk_Mo_findWeek_2 c := mAt_blk rfl
theorem a_Mo_findWeek_48 (D : Nat) (c : mC) (Q : mQ) : mAt (mRun D) 282 48 c Q = mWp (mRun D) 282 50 (fun pc c => mAt (mRun D) 282 pc c Q) Q bk_Mo_findWeek_48 c := mAt_blk rfl
theorem a_Mo_findWeek_50 (D : Nat) (c : mC) (Q : mQ) : mAt (mRun D) 282 50 c Q = mWp (mRun D) 282 0 (fun pc c => mAt (mRun D) 282 pc c Q) Q bk_Mo_findWeek_50 c := mAt_blk rfl
theorem a_Mo_findWeek_78 (D : Nat) (c : mC) (Q : mQ) : mAt (mRun D) 282 78 c Q = mWp (mRun D) 282 80 (fun pc c => mAt (mRun D) 282 pc c Q) Q bk_Mo_findWeek_78 c := mAt_blk rfl
theorem a_Mo_findWeek_80 (D : Nat) (c : mC) (Q : mQ) : mAt (mRun D) 282 80 c Q = mWp (mRun D) 282 0 (fun pc c => mAt (mRun D) 282 pc c Q) Q bk_Mo_findWeek_80 c := mAt_blk rfl
theorem a_Mo_findWeek_122 (D : Nat) (c : mC) (Q : mQ) : mAt (mRun D) 282 122 c Q = mWp (mRun D) 282 0 (fun pc c => mAt (mRun D) 282 pc c Q) Q bk_Mo_findWeek_122 c := mAt_blk rfl
theorem e_Mo_giveWeek (D : Nat) (x0 x1 : mV) (I : mN) (S : mH) (Q : mQ) (h : mCs [x0, x1] ≤ 2) : mRun (D + 1) 283 [x0, x1] I S Q = mAt (mRun D) 283 0 ([some x0, some x1, none, none], [], I, S) Q := propext ⟨fun z => z.2, fun z => ⟨⟨h, Nat.le_of_ble_eq_true rfl⟩, z⟩⟩
theorem a_Mo_giveWeek_0 (D : Nat) (c : mC) (Q : mQ) : mAt (mRun D) 283 0 c Q = mWp (mRun D) 283 2 (fun pc c => mAt (mRun D) 283 pc c Q) Q bk_Mo_giveWeek_0 c := mAt_blk rfl
theorem a_Mo_giveWeek_2 (D : Nat) (c : mC) (Q : mQ) : mAt (mRun D) 283 2 c Q = mWp (mRun D) 283 0 (fun pc c => mAt (mRun D) 283 pc c Q) Q bk_Mo_giveWeek_2 c := mAt_blk rfl
theorem a_Mo_giveWeek_91 (D : Nat) (c : mC) (Q : mQ) : mAt (mRun D) 283 91 c Q = mWp (mRun D) 283 0 (fun pc c => mAt (mRun D) 283 pc c Q) Q bk_Mo_giveWeek_91 c := mAt_blk rfl
theorem e_Mo_sendWeek (D : Nat) (x0 x1 : mV) (I : mN) (S : mH) (Q : mQ) (h : mCs [x0, x1] ≤ 2) : mRun (D + 1) 284 [x0, x1] I S Q = mAt (mRun D) 284 0 ([some x0, some x1, none, none, none], [], I, S) Q := propext ⟨fun z => z.2, fun z => ⟨⟨h, Nat.le_of_ble_eq_true rfl⟩, z⟩⟩
theorem a_Mo_sendWeek_0 (D : Nat) (c : mC) (Q : mQ) : mAt (mRun D) 284 0 c Q = mWp (mRun D) 284 2 (fun pc c => mAt (mRun D) 284 pc c Q) Q bk_Mo_sendWeek_0 c := mAt_blk rfl
theorem a_Mo_sendWeek_2 (D : Nat) (c : mC) (Q : mQ) : mAt (mRun D) 284 2 c Q = mWp (mRun D) 284 95 (fun pc c => mAt (mRun D) 284 pc c Q) Q bk_Mo_sendWeek_2 c := mAt_blk rfl
theorem a_Mo_sendWeek_95 (D : Nat) (c : mC) (Q : mQ) : mAt (mRun D) 284 95 c Q = mWp (mRun D) 284 0 (fun pc c => mAt (mRun D) 284 pc c Q) Q bk_Mo_sendWeek_95 c := mAt_blk rfl
theorem a_Mo_sendWeek_101 (D : Nat) (c : mC) (Q : mQ) : mAt (mRun D) 284 101 c Q = mWp (mRun D) 284 0 (fun pc c => mAt (mRun D) 284 pc c Q) Q bk_Mo_sendWeek_101 c := mAt_blk rfl
theorem e_Mo_storeWeek (D : Nat) (x0 x1 : mV) (I : mN) (S : mH) (Q : mQ) (h : mCs [x0, x1] ≤ 2) : mRun (D + 1) 285 [x0, x1] I S Q = mAt (mRun D) 285 0 ([some x0, some x1, none], [], I, S) Q := propext ⟨fun z => z.2, fun z => ⟨⟨h, Nat.le_of_ble_eq_true rfl⟩, z⟩⟩
theorem a_Mo_storeWeek_0 (D : Nat) (c : mC) (Q : mQ) : mAt (mRun D) 285 0 c Q = mWp (mRun D) 285 2 (fun pc c => mAt (mRun D) 285 pc c Q) Q bk_Mo_storeWeek_0 c := mAt_blk rfl
theorem a_Mo_storeWeek_2 (D : Nat) (c : mC) (Q : mQ) : mAt (mRun D) 285 2 c Q = mWp (mRun D) 285 0 (fun pc c => mAt (mRun D) 285 pc c Q) Q bk_Mo_storeWeek_2 c := mAt_blk rfl
theorem a_Mo_storeWeek_78 (D : Nat) (c : mC) (Q : mQ) : mAt (mRun D) 285 78 c Q = mWp (mRun D) 285 0 (fun pc c => mAt (mRun D) 285 pc c Q) Q bk_Mo_storeWeek_78 c := mAt_blk rfl
theorem e_Mo_passWeek (D : Nat) (x0 : mV) (I : mN) (S : mH) (Q : mQ) (h : mCs [x0] ≤ 1) : mRun (D + 1) 286 [x0] I S Q = mAt (mRun D) 286 0 ([some x0, none], [], I, S) Q := propext ⟨fun z => z.2, fun z => ⟨⟨h, Nat.le_of_ble_eq_true rfl⟩, z⟩⟩
theorem a_Mo_passWeek_0 (D : Nat) (c : mC) (Q : mQ) : mAt (mRun D) 286 0 c Q = mWp (mRun D) 286 0 (fun pc c => mAt (mRun D) 286 pc c Q) Q bk_Mo_passWeek_0 c := mAt_blk rfl
theorem a_Mo_passWeek_18 (D : Nat) (c : mC) (Q : mQ) : mAt (mRun D) 286 18 c Q = mWp (mRun D) 286 19 (fun pc c => mAt (mRun D) 286 pc c Q) Q bk_Mo_passWeek_18 c := mAt_blk rfl
theorem a_Mo_passWeek_19 (D : Nat) (c : mC) (Q : mQ) : mAt (mRun D) 286 19 c Q = mWp (mRun D) 286 0 (fun pc c => mAt (mRun D) 286 pc c Q) Q bk_Mo_passWeek_19 c := mAt_blk rfl
theorem a_Mo_passWeek_27 (D : Nat) (c : mC) (Q : mQ) : mAt (mRun D) 286 27 c Q = mWp (mRun D) 286 0 (fun pc c => mAt (mRun D) 286 pc c Q) Q bk_Mo_passWeek_27 c := mAt_blk rfl
theorem e_Mo_today (D : Nat) (x0 : mV) (I : mN) (S : mH) (Q : mQ) (h : mCs [x0] ≤ 1) : mRun (D + 1) 287 [x0] I S Q = mAt (mRun D) 287 0 ([some x0], [], I, S) Q := propext ⟨fun z => z.2, fun z => ⟨⟨h, Nat.le_of_ble_eq_true rfl⟩, z⟩⟩
theorem a_Mo_today_0 (D : Nat) (c : mC) (Q : mQ) : mAt (mRun D) 287 0 c Q = mWp (mRun D) 287 0 (fun pc c => mAt (mRun D) 287 pc c Q) Q bk_Mo_today_0 c := mAt_blk rfl
theorem e_Mo_placeCount (D : Nat) (x0 : mV) (I : mN) (S : mH) (Q : mQ) (h : mCs [x0] ≤ 1) : mRun (D + 1) 288 [x0] I S Q = mAt (mRun D) 288 0 ([some x0], [], I, S) Q := propext ⟨fun z => z.2, fun z => ⟨⟨h, Nat.le_of_ble_eq_true rfl⟩, z⟩⟩
theorem a_Mo_placeCount_0 (D : Nat) (c : mC) (Q : mQ) : mAt (mRun D) 288 0 c Q = mWp (mRun D) 288 0 (fun pc c => mAt (mRun D) 288 pc c Q) Q bk_Mo_placeCount_0 c := mAt_blk rfl
theorem e_Mo_reachCount (D : Nat) (x0 : mV) (I : mN) (S : mH) (Q : mQ) (h : mCs [x0] ≤ 1) : mRun (D + 1) 289 [x0] I S Q = mAt (mRun D) 289 0 ([some x0], [], I, S) Q := propext ⟨fun z => z.2, fun z => ⟨⟨h, Nat.le_of_ble_eq_true rfl⟩, z⟩⟩
theorem a_Mo_reachCount_0 (D : Nat) (c : mC) (Q : mQ) : mAt (mRun D) 289 0 c Q = mWp (mRun D) 289 0 (fun pc c => mAt (mRun D) 289 pc c Q) Q bk_Mo_reachCount_0 c := mAt_blk rfl
theorem e_Mo_rightCount (D : Nat) (x0 : mV) (I : mN) (S : mH) (Q : mQ) (h : mCs [x0] ≤ 1) : mRun (D + 1) 290 [x0] I S Q = mAt (mRun D) 290 0 ([some x0], [], I, S) Q := propext ⟨fun z => z.2, fun z => ⟨⟨h, Nat.le_of_ble_eq_true rfl⟩, z⟩⟩
theorem a_Mo_rightCount_0 (D : Nat) (c : mC) (Q : mQ) : mAt (mRun D) 290 0 c Q = mWp (mRun D) 290 0 (fun pc c => mAt (mRun D) 290 pc c Q) Q bk_Mo_rightCount_0 c := mAt_blk rfl
theorem e_Mo_capacityAt (D : Nat) (x0 x1 x2 : mV) (I : mN) (S : mH) (Q : mQ) (h : mCs [x0, x1, x2] ≤ 3) : mRun (D + 1) 291 [x0, x1, x2] I S Q = mAt (mRun D) 291 0 ([some x0, some x1, some x2], [], I, S) Q := propext ⟨fun z => z.2, fun z => ⟨⟨h, Nat.le_of_ble_eq_true rfl⟩, z⟩⟩
theorem a_Mo_capacityAt_0 (D : Nat) (c : mC) (Q : mQ) : mAt (mRun D) 291 0 c Q = mWp (mRun D) 291 0 (fun pc c => mAt (mRun D) 291 pc c Q) Q bk_Mo_capacityAt_0 c := mAt_blk rfl
theorem a_Mo_capacityAt_35 (D : Nat) (c : mC) (Q : mQ) : mAt (mRun D) 291 35 c Q = mWp (mRun D) 291 36 (fun pc c => mAt (mRun D) 291 pc c Q) Q bk_Mo_capacityAt_35 c := mAt_blk rfl
theorem a_Mo_capacityAt_36 (D : Nat) (c : mC) (Q : mQ) : mAt (mRun D) 291 36 c Q = mWp (mRun D) 291 0 (fun pc c => mAt (mRun D) 291 pc c Q) Q bk_Mo_capacityAt_36 c := mAt_blk rfl
theorem e_Mo_inflowAt (D : Nat) (x0 x1 x2 x3 : mV) (I : mN) (S : mH) (Q : mQ) (h : mCs [x0, x1, x2, x3] ≤ 4) : mRun (D + 1) 292 [x0, x1, x2, x3] I S Q = mAt (mRun D) 292 0 ([some x0, some x1, some x2, some x3, none], [], I, S) Q := propext ⟨fun z => z.2, fun z => ⟨⟨h, Nat.le_of_ble_eq_true rfl⟩, z⟩⟩
theorem a_Mo_inflowAt_0 (D : Nat) (c : mC) (Q : mQ) : mAt (mRun D) 292 0 c Q = mWp (mRun D) 292 0 (fun pc c => mAt (mRun D) 292 pc c Q) Q bk_Mo_inflowAt_0 c := mAt_blk rfl
theorem a_Mo_inflowAt_24 (D : Nat) (c : mC) (Q : mQ) : mAt (mRun D) 292 24 c Q = mWp (mRun D) 292 25 (fun pc c => mAt (mRun D) 292 pc c Q) Q bk_Mo_inflowAt_24 c := mAt_blk rfl
theorem a_Mo_inflowAt_25 (D : Nat) (c : mC) (Q : mQ) : mAt (mRun D) 292 25 c Q = mWp (mRun D) 292 0 (fun pc c => mAt (mRun D) 292 pc c Q) Q bk_Mo_inflowAt_25 c := mAt_blk rfl
theorem a_Mo_inflowAt_54 (D : Nat) (c : mC) (Q : mQ) : mAt (mRun D) 292 54 c Q = mWp (mRun D) 292 55 (fun pc c => mAt (mRun D) 292 pc c Q) Q bk_Mo_inflowAt_54 c := mAt_blk rfl
theorem a_Mo_inflowAt_55 (D : Nat) (c : mC) (Q : mQ) : mAt (mRun D) 292 55 c Q = mWp (mRun D) 292 0 (fun pc c => mAt (mRun D) 292 pc c Q) Q bk_Mo_inflowAt_55 c := mAt_blk rfl
theorem e_Mo_askedAt (D : Nat) (x0 x1 x2 x3 : mV) (I : mN) (S : mH) (Q : mQ) (h : mCs [x0, x1, x2, x3] ≤ 4) : mRun (D + 1) 293 [x0, x1, x2, x3] I S Q = mAt (mRun D) 293 0 ([some x0, some x1, some x2, some x3, none], [], I, S) Q := propext ⟨fun z => z.2, fun z => ⟨⟨h, Nat.le_of_ble_eq_true rfl⟩, z⟩⟩
theorem a_Mo_askedAt_0 (D : Nat) (c : mC) (Q : mQ) : mAt (mRun D) 293 0 c Q = mWp (mRun D) 293 0 (fun pc c => mAt (mRun D) 293 pc c Q) Q bk_Mo_askedAt_0 c := mAt_blk rfl
theorem a_Mo_askedAt_24 (D : Nat) (c : mC) (Q : mQ) : mAt (mRun D) 293 24 c Q = mWp (mRun D) 293 25 (fun pc c => mAt (mRun D) 293 pc c Q) Q bk_Mo_askedAt_24 c := mAt_blk rfl
theorem a_Mo_askedAt_25 (D : Nat) (c : mC) (Q : mQ) : mAt (mRun D) 293 25 c Q = mWp (mRun D) 293 0 (fun pc c => mAt (mRun D) 293 pc c Q) Q bk_Mo_askedAt_25 c := mAt_blk rfl
theorem a_Mo_askedAt_54 (D : Nat) (c : mC) (Q : mQ) : mAt (mRun D) 293 54 c Q = mWp (mRun D) 293 55 (fun pc c => mAt (mRun D) 293 pc c Q) Q bk_Mo_askedAt_54 c := mAt_blk rfl
theorem a_Mo_askedAt_55 (D : Nat) (c : mC) (Q : mQ) : mAt (mRun D) 293 55 c Q = mWp (mRun D) 293 0 (fun pc c => mAt (mRun D) 293 pc c Q) Q bk_Mo_askedAt_55 c := mAt_blk rfl
theorem e_Mo_rankOf (D : Nat) (x0 x1 : mV) (I : mN) (S : mH) (Q : mQ) (h : mCs [x0, x1] ≤ 2) : mRun (D + 1) 294 [x0, x1] I S Q = mAt (mRun D) 294 0 ([some x0, some x1, none, none], [], I, S) Q := propext ⟨fun z => z.2, fun z => ⟨⟨h, Nat.le_of_ble_eq_true rfl⟩, z⟩⟩
theorem a_Mo_rankOf_0 (D : Nat) (c : mC) (Q : mQ) : mAt (mRun D) 294 0 c Q = mWp (mRun D) 294 0 (fun pc c => mAt (mRun D) 294 pc c Q) Q bk_Mo_rankOf_0 c := mAt_blk rfl
theorem a_Mo_rankOf_17 (D : Nat) (c : mC) (Q : mQ) : mAt (mRun D) 294 17 c Q = mWp (mRun D) 294 21 (fun pc c => mAt (mRun D) 294 pc c Q) Q bk_Mo_rankOf_17 c := mAt_blk rfl
theorem a_Mo_rankOf_21 (D : Nat) (c : mC) (Q : mQ) : mAt (mRun D) 294 21 c Q = mWp (mRun D) 294 0 (fun pc c => mAt (mRun D) 294 pc c Q) Q bk_Mo_rankOf_21 c := mAt_blk rfl
theorem a_Mo_rankOf_48 (D : Nat) (c : mC) (Q : mQ) : mAt (mRun D) 294 48 c Q = mWp (mRun D) 294 49 (fun pc c => mAt (mRun D) 294 pc c Q) Q bk_Mo_rankOf_48 c := mAt_blk rfl
theorem a_Mo_rankOf_49 (D : Nat) (c : mC) (Q : mQ) : mAt (mRun D) 294 49 c Q = mWp (mRun D) 294 0 (fun pc c => mAt (mRun D) 294 pc c Q) Q bk_Mo_rankOf_49 c := mAt_blk rfl
theorem a_Mo_rankOf_57 (D : Nat) (c : mC) (Q : mQ) : mAt (mRun D) 294 57 c Q = mWp (mRun D) 294 0 (fun pc c => mAt (mRun D) 294 pc c Q) Q bk_Mo_rankOf_57 c := mAt_blk rfl
theorem e_Mo_lessorOf (D : Nat) (x0 x1 : mV) (I : mN) (S : mH) (Q : mQ) (h : mCs [x0, x1] ≤ 2) : mRun (D + 1) 295 [x0, x1] I S Q = mAt (mRun D) 295 0 ([some x0, some x1], [], I, S) Q := propext ⟨fun z => z.2, fun z => ⟨⟨h, Nat.le_of_ble_eq_true rfl⟩, z⟩⟩
theorem a_Mo_lessorOf_0 (D : Nat) (c : mC) (Q : mQ) : mAt (mRun D) 295 0 c Q = mWp (mRun D) 295 0 (fun pc c => mAt (mRun D) 295 pc c Q) Q bk_Mo_lessorOf_0 c := mAt_blk rfl
theorem a_Mo_lessorOf_29 (D : Nat) (c : mC) (Q : mQ) : mAt (mRun D) 295 29 c Q = mWp (mRun D) 295 30 (fun pc c => mAt (mRun D) 295 pc c Q) Q bk_Mo_lessorOf_29 c := mAt_blk rfl
theorem a_Mo_lessorOf_30 (D : Nat) (c : mC) (Q : mQ) : mAt (mRun D) 295 30 c Q = mWp (mRun D) 295 0 (fun pc c => mAt (mRun D) 295 pc c Q) Q bk_Mo_lessorOf_30 c := mAt_blk rfl
theorem e_Mo_balance (D : Nat) (x0 x1 : mV) (I : mN) (S : mH) (Q : mQ) (h : mCs [x0, x1] ≤ 2) : mRun (D + 1) 296 [x0, x1] I S Q = mAt (mRun D) 296 0 ([some x0, some x1], [], I, S) Q := propext ⟨fun z => z.2, fun z => ⟨⟨h, Nat.le_of_ble_eq_true rfl⟩, z⟩⟩
theorem a_Mo_balance_0 (D : Nat) (c : mC) (Q : mQ) : mAt (mRun D) 296 0 c Q = mWp (mRun D) 296 0 (fun pc c => mAt (mRun D) 296 pc c Q) Q bk_Mo_balance_0 c := mAt_blk rfl
theorem a_Mo_balance_23 (D : Nat) (c : mC) (Q : mQ) : mAt (mRun D) 296 23 c Q = mWp (mRun D) 296 24 (fun pc c => mAt (mRun D) 296 pc c Q) Q bk_Mo_balance_23 c := mAt_blk rfl
theorem a_Mo_balance_24 (D : Nat) (c : mC) (Q : mQ) : mAt (mRun D) 296 24 c Q = mWp (mRun D) 296 0 (fun pc c => mAt (mRun D) 296 pc c Q) Q bk_Mo_balance_24 c := mAt_blk rfl
theorem e_Mo_beginsDecree (D : Nat) (x0 x1 x2 x3 : mV) (I : mN) (S : mH) (Q : mQ) (h : mCs [x0, x1, x2, x3] ≤ 4) : mRun (D + 1) 297 [x0, x1, x2, x3] I S Q = mAt (mRun D) 297 0 ([some x0, some x1, some x2, some x3], [], I, S) Q := propext ⟨fun z => z.2, fun z => ⟨⟨h, Nat.le_of_ble_eq_true rfl⟩, z⟩⟩
theorem a_Mo_beginsDecree_0 (D : Nat) (c : mC) (Q : mQ) : mAt (mRun D) 297 0 c Q = mWp (mRun D) 297 0 (fun pc c => mAt (mRun D) 297 pc c Q) Q bk_Mo_beginsDecree_0 c := mAt_blk rfl
theorem e_Mo_beginsSum (D : Nat) (x0 x1 : mV) (I : mN) (S : mH) (Q : mQ) (h : mCs [x0, x1] ≤ 2) : mRun (D + 1) 298 [x0, x1] I S Q = mAt (mRun D) 298 0 ([some x0, some x1], [], I, S) Q := propext ⟨fun z => z.2, fun z => ⟨⟨h, Nat.le_of_ble_eq_true rfl⟩, z⟩⟩
theorem a_Mo_beginsSum_0 (D : Nat) (c : mC) (Q : mQ) : mAt (mRun D) 298 0 c Q = mWp (mRun D) 298 0 (fun pc c => mAt (mRun D) 298 pc c Q) Q bk_Mo_beginsSum_0 c := mAt_blk rfl
theorem e_Mo_opensLevel (D : Nat) (x0 x1 x2 : mV) (I : mN) (S : mH) (Q : mQ) (h : mCs [x0, x1, x2] ≤ 3) : mRun (D + 1) 299 [x0, x1, x2] I S Q = mAt (mRun D) 299 0 ([some x0, some x1, some x2], [], I, S) Q := propext ⟨fun z => z.2, fun z => ⟨⟨h, Nat.le_of_ble_eq_true rfl⟩, z⟩⟩
theorem a_Mo_opensLevel_0 (D : Nat) (c : mC) (Q : mQ) : mAt (mRun D) 299 0 c Q = mWp (mRun D) 299 0 (fun pc c => mAt (mRun D) 299 pc c Q) Q bk_Mo_opensLevel_0 c := mAt_blk rfl
theorem a_Mo_opensLevel_11 (D : Nat) (c : mC) (Q : mQ) : mAt (mRun D) 299 11 c Q = mWp (mRun D) 299 0 (fun pc c => mAt (mRun D) 299 pc c Q) Q bk_Mo_opensLevel_11 c := mAt_blk rfl
theorem e_Mo_closesLevel (D : Nat) (x0 x1 : mV) (I : mN) (S : mH) (Q : mQ) (h : mCs [x0, x1] ≤ 2) : mRun (D + 1) 300 [x0, x1] I S Q = mAt (mRun D) 300 0 ([some x0, some x1], [], I, S) Q := propext ⟨fun z => z.2, fun z => ⟨⟨h, Nat.le_of_ble_eq_true rfl⟩, z⟩⟩
theorem a_Mo_closesLevel_0 (D : Nat) (c : mC) (Q : mQ) : mAt (mRun D) 300 0 c Q = mWp (mRun D) 300 0 (fun pc c => mAt (mRun D) 300 pc c Q) Q bk_Mo_closesLevel_0 c := mAt_blk rfl
theorem e_Mo_hasFactor (D : Nat) (x0 x1 : mV) (I : mN) (S : mH) (Q : mQ) (h : mCs [x0, x1] ≤ 2) : mRun (D + 1) 301 [x0, x1] I S Q = mAt (mRun D) 301 0 ([some x0, some x1, none, none], [], I, S) Q := propext ⟨fun z => z.2, fun z => ⟨⟨h, Nat.le_of_ble_eq_true rfl⟩, z⟩⟩
theorem a_Mo_hasFactor_0 (D : Nat) (c : mC) (Q : mQ) : mAt (mRun D) 301 0 c Q = mWp (mRun D) 301 0 (fun pc c => mAt (mRun D) 301 pc c Q) Q bk_Mo_hasFactor_0 c := mAt_blk rfl
theorem a_Mo_hasFactor_41 (D : Nat) (c : mC) (Q : mQ) : mAt (mRun D) 301 41 c Q = mWp (mRun D) 301 0 (fun pc c => mAt (mRun D) 301 pc c Q) Q bk_Mo_hasFactor_41 c := mAt_blk rfl
theorem a_Mo_hasFactor_56 (D : Nat) (c : mC) (Q : mQ) : mAt (mRun D) 301 56 c Q = mWp (mRun D) 301 0 (fun pc c => mAt (mRun D) 301 pc c Q) Q bk_Mo_hasFactor_56 c := mAt_blk rfl
theorem a_Mo_hasFactor_62 (D : Nat) (c : mC) (Q : mQ) : mAt (mRun D) 301 62 c Q = mWp (mRun D) 301 63 (fun pc c => mAt (mRun D) 301 pc c Q) Q bk_Mo_hasFactor_62 c := mAt_blk rfl
theorem a_Mo_hasFactor_63 (D : Nat) (c : mC) (Q : mQ) : mAt (mRun D) 301 63 c Q = mWp (mRun D) 301 0 (fun pc c => mAt (mRun D) 301 pc c Q) Q bk_Mo_hasFactor_63 c := mAt_blk rfl
theorem e_Mo_sumOfLevel (D : Nat) (x0 : mV) (I : mN) (S : mH) (Q : mQ) (h : mCs [x0] ≤ 1) : mRun (D + 1) 302 [x0] I S Q = mAt (mRun D) 302 0 ([some x0], [], I, S) Q := propext ⟨fun z => z.2, fun z => ⟨⟨h, Nat.le_of_ble_eq_true rfl⟩, z⟩⟩
theorem a_Mo_sumOfLevel_0 (D : Nat) (c : mC) (Q : mQ) : mAt (mRun D) 302 0 c Q = mWp (mRun D) 302 0 (fun pc c => mAt (mRun D) 302 pc c Q) Q bk_Mo_sumOfLevel_0 c := mAt_blk rfl
theorem a_Mo_sumOfLevel_34 (D : Nat) (c : mC) (Q : mQ) : mAt (mRun D) 302 34 c Q = mWp (mRun D) 302 53 (fun pc c => mAt (mRun D) 302 pc c Q) Q bk_Mo_sumOfLevel_34 c := mAt_blk rfl
theorem a_Mo_sumOfLevel_53 (D : Nat) (c : mC) (Q : mQ) : mAt (mRun D) 302 53 c Q = mWp (mRun D) 302 0 (fun pc c => mAt (mRun D) 302 pc c Q) Q bk_Mo_sumOfLevel_53 c := mAt_blk rfl
theorem e_Mo_flowAt (D : Nat) (x0 x1 x2 : mV) (I : mN) (S : mH) (Q : mQ) (h : mCs [x0, x1, x2] ≤ 3) : mRun (D + 1) 303 [x0, x1, x2] I S Q = mAt (mRun D) 303 0 ([some x0, some x1, some x2], [], I, S) Q := propext ⟨fun z => z.2, fun z => ⟨⟨h, Nat.le_of_ble_eq_true rfl⟩, z⟩⟩
theorem a_Mo_flowAt_0 (D : Nat) (c : mC) (Q : mQ) : mAt (mRun D) 303 0 c Q = mWp (mRun D) 303 0 (fun pc c => mAt (mRun D) 303 pc c Q) Q bk_Mo_flowAt_0 c := mAt_blk rfl
theorem a_Mo_flowAt_41 (D : Nat) (c : mC) (Q : mQ) : mAt (mRun D) 303 41 c Q = mWp (mRun D) 303 42 (fun pc c => mAt (mRun D) 303 pc c Q) Q bk_Mo_flowAt_41 c := mAt_blk rfl
theorem a_Mo_flowAt_42 (D : Nat) (c : mC) (Q : mQ) : mAt (mRun D) 303 42 c Q = mWp (mRun D) 303 0 (fun pc c => mAt (mRun D) 303 pc c Q) Q bk_Mo_flowAt_42 c := mAt_blk rfl
theorem e_Mo_flowInAll (D : Nat) (x0 x1 : mV) (I : mN) (S : mH) (Q : mQ) (h : mCs [x0, x1] ≤ 2) : mRun (D + 1) 304 [x0, x1] I S Q = mAt (mRun D) 304 0 ([some x0, some x1, none, none], [], I, S) Q := propext ⟨fun z => z.2, fun z => ⟨⟨h, Nat.le_of_ble_eq_true rfl⟩, z⟩⟩
theorem a_Mo_flowInAll_0 (D : Nat) (c : mC) (Q : mQ) : mAt (mRun D) 304 0 c Q = mWp (mRun D) 304 4 (fun pc c => mAt (mRun D) 304 pc c Q) Q bk_Mo_flowInAll_0 c := mAt_blk rfl
theorem a_Mo_flowInAll_4 (D : Nat) (c : mC) (Q : mQ) : mAt (mRun D) 304 4 c Q = mWp (mRun D) 304 0 (fun pc c => mAt (mRun D) 304 pc c Q) Q bk_Mo_flowInAll_4 c := mAt_blk rfl
theorem a_Mo_flowInAll_25 (D : Nat) (c : mC) (Q : mQ) : mAt (mRun D) 304 25 c Q = mWp (mRun D) 304 0 (fun pc c => mAt (mRun D) 304 pc c Q) Q bk_Mo_flowInAll_25 c := mAt_blk rfl
theorem e_Mo_takesToken (D : Nat) (x0 x1 : mV) (I : mN) (S : mH) (Q : mQ) (h : mCs [x0, x1] ≤ 2) : mRun (D + 1) 305 [x0, x1] I S Q = mAt (mRun D) 305 0 ([some x0, some x1], [], I, S) Q := propext ⟨fun z => z.2, fun z => ⟨⟨h, Nat.le_of_ble_eq_true rfl⟩, z⟩⟩
theorem a_Mo_takesToken_0 (D : Nat) (c : mC) (Q : mQ) : mAt (mRun D) 305 0 c Q = mWp (mRun D) 305 0 (fun pc c => mAt (mRun D) 305 pc c Q) Q bk_Mo_takesToken_0 c := mAt_blk rfl
theorem a_Mo_takesToken_32 (D : Nat) (c : mC) (Q : mQ) : mAt (mRun D) 305 32 c Q = mWp (mRun D) 305 0 (fun pc c => mAt (mRun D) 305 pc c Q) Q bk_Mo_takesToken_32 c := mAt_blk rfl
theorem a_Mo_takesToken_54 (D : Nat) (c : mC) (Q : mQ) : mAt (mRun D) 305 54 c Q = mWp (mRun D) 305 0 (fun pc c => mAt (mRun D) 305 pc c Q) Q bk_Mo_takesToken_54 c := mAt_blk rfl
theorem a_Mo_takesToken_68 (D : Nat) (c : mC) (Q : mQ) : mAt (mRun D) 305 68 c Q = mWp (mRun D) 305 0 (fun pc c => mAt (mRun D) 305 pc c Q) Q bk_Mo_takesToken_68 c := mAt_blk rfl
theorem a_Mo_takesToken_82 (D : Nat) (c : mC) (Q : mQ) : mAt (mRun D) 305 82 c Q = mWp (mRun D) 305 84 (fun pc c => mAt (mRun D) 305 pc c Q) Q bk_Mo_takesToken_82 c := mAt_blk rfl
theorem a_Mo_takesToken_84 (D : Nat) (c : mC) (Q : mQ) : mAt (mRun D) 305 84 c Q = mWp (mRun D) 305 0 (fun pc c => mAt (mRun D) 305 pc c Q) Q bk_Mo_takesToken_84 c := mAt_blk rfl
theorem a_Mo_takesToken_95 (D : Nat) (c : mC) (Q : mQ) : mAt (mRun D) 305 95 c Q = mWp (mRun D) 305 96 (fun pc c => mAt (mRun D) 305 pc c Q) Q bk_Mo_takesToken_95 c := mAt_blk rfl
theorem a_Mo_takesToken_96 (D : Nat) (c : mC) (Q : mQ) : mAt (mRun D) 305 96 c Q = mWp (mRun D) 305 0 (fun pc c => mAt (mRun D) 305 pc c Q) Q bk_Mo_takesToken_96 c := mAt_blk rfl
theorem a_Mo_takesToken_97 (D : Nat) (c : mC) (Q : mQ) : mAt (mRun D) 305 97 c Q = mWp (mRun D) 305 0 (fun pc c => mAt (mRun D) 305 pc c Q) Q bk_Mo_takesToken_97 c := mAt_blk rfl
theorem a_Mo_takesToken_103 (D : Nat) (c : mC) (Q : mQ) : mAt (mRun D) 305 103 c Q = mWp (mRun D) 305 0 (fun pc c => mAt (mRun D) 305 pc c Q) Q bk_Mo_takesToken_103 c := mAt_blk rfl
theorem a_Mo_takesToken_113 (D : Nat) (c : mC) (Q : mQ) : mAt (mRun D) 305 113 c Q = mWp (mRun D) 305 0 (fun pc c => mAt (mRun D) 305 pc c Q) Q bk_Mo_takesToken_113 c := mAt_blk rfl
theorem e_Mo_takesFactor (D : Nat) (x0 x1 : mV) (I : mN) (S : mH) (Q : mQ) (h : mCs [x0, x1] ≤ 2) : mRun (D + 1) 306 [x0, x1] I S Q = mAt (mRun D) 306 0 ([some x0, some x1], [], I, S) Q := propext ⟨fun z => z.2, fun z => ⟨⟨h, Nat.le_of_ble_eq_true rfl⟩, z⟩⟩
theorem a_Mo_takesFactor_0 (D : Nat) (c : mC) (Q : mQ) : mAt (mRun D) 306 0 c Q = mWp (mRun D) 306 14 (fun pc c => mAt (mRun D) 306 pc c Q) Q bk_Mo_takesFactor_0 c := mAt_blk rfl
theorem a_Mo_takesFactor_14 (D : Nat) (c : mC) (Q : mQ) : mAt (mRun D) 306 14 c Q = mWp (mRun D) 306 0 (fun pc c => mAt (mRun D) 306 pc c Q) Q bk_Mo_takesFactor_14 c := mAt_blk rfl
theorem a_Mo_takesFactor_29 (D : Nat) (c : mC) (Q : mQ) : mAt (mRun D) 306 29 c Q = mWp (mRun D) 306 30 (fun pc c => mAt (mRun D) 306 pc c Q) Q bk_Mo_takesFactor_29 c := mAt_blk rfl
theorem a_Mo_takesFactor_30 (D : Nat) (c : mC) (Q : mQ) : mAt (mRun D) 306 30 c Q = mWp (mRun D) 306 0 (fun pc c => mAt (mRun D) 306 pc c Q) Q bk_Mo_takesFactor_30 c := mAt_blk rfl
theorem a_Mo_takesFactor_35 (D : Nat) (c : mC) (Q : mQ) : mAt (mRun D) 306 35 c Q = mWp (mRun D) 306 0 (fun pc c => mAt (mRun D) 306 pc c Q) Q bk_Mo_takesFactor_35 c := mAt_blk rfl
theorem a_Mo_takesFactor_49 (D : Nat) (c : mC) (Q : mQ) : mAt (mRun D) 306 49 c Q = mWp (mRun D) 306 0 (fun pc c => mAt (mRun D) 306 pc c Q) Q bk_Mo_takesFactor_49 c := mAt_blk rfl
theorem a_Mo_takesFactor_77 (D : Nat) (c : mC) (Q : mQ) : mAt (mRun D) 306 77 c Q = mWp (mRun D) 306 78 (fun pc c => mAt (mRun D) 306 pc c Q) Q bk_Mo_takesFactor_77 c := mAt_blk rfl
theorem a_Mo_takesFactor_78 (D : Nat) (c : mC) (Q : mQ) : mAt (mRun D) 306 78 c Q = mWp (mRun D) 306 0 (fun pc c => mAt (mRun D) 306 pc c Q) Q bk_Mo_takesFactor_78 c := mAt_blk rfl
theorem a_Mo_takesFactor_79 (D : Nat) (c : mC) (Q : mQ) : mAt (mRun D) 306 79 c Q = mWp (mRun D) 306 0 (fun pc c => mAt (mRun D) 306 pc c Q) Q bk_Mo_takesFactor_79 c := mAt_blk rfl
theorem a_Mo_takesFactor_88 (D : Nat) (c : mC) (Q : mQ) : mAt (mRun D) 306 88 c Q = mWp (mRun D) 306 0 (fun pc c => mAt (mRun D) 306 pc c Q) Q bk_Mo_takesFactor_88 c := mAt_blk rfl
theorem e_Mo_takesBehind (D : Nat) (x0 x1 : mV) (I : mN) (S : mH) (Q : mQ) (h : mCs [x0, x1] ≤ 2) : mRun (D + 1) 307 [x0, x1] I S Q = mAt (mRun D) 307 0 ([some x0, some x1], [], I, S) Q := propext ⟨fun z => z.2, fun z => ⟨⟨h, Nat.le_of_ble_eq_true rfl⟩, z⟩⟩
theorem a_Mo_takesBehind_0 (D : Nat) (c : mC) (Q : mQ) : mAt (mRun D) 307 0 c Q = mWp (mRun D) 307 14 (fun pc c => mAt (mRun D) 307 pc c Q) Q bk_Mo_takesBehind_0 c := mAt_blk rfl
theorem a_Mo_takesBehind_14 (D : Nat) (c : mC) (Q : mQ) : mAt (mRun D) 307 14 c Q = mWp (mRun D) 307 0 (fun pc c => mAt (mRun D) 307 pc c Q) Q bk_Mo_takesBehind_14 c := mAt_blk rfl
theorem a_Mo_takesBehind_31 (D : Nat) (c : mC) (Q : mQ) : mAt (mRun D) 307 31 c Q = mWp (mRun D) 307 0 (fun pc c => mAt (mRun D) 307 pc c Q) Q bk_Mo_takesBehind_31 c := mAt_blk rfl
theorem a_Mo_takesBehind_55 (D : Nat) (c : mC) (Q : mQ) : mAt (mRun D) 307 55 c Q = mWp (mRun D) 307 0 (fun pc c => mAt (mRun D) 307 pc c Q) Q bk_Mo_takesBehind_55 c := mAt_blk rfl
theorem a_Mo_takesBehind_87 (D : Nat) (c : mC) (Q : mQ) : mAt (mRun D) 307 87 c Q = mWp (mRun D) 307 88 (fun pc c => mAt (mRun D) 307 pc c Q) Q bk_Mo_takesBehind_87 c := mAt_blk rfl
theorem a_Mo_takesBehind_88 (D : Nat) (c : mC) (Q : mQ) : mAt (mRun D) 307 88 c Q = mWp (mRun D) 307 0 (fun pc c => mAt (mRun D) 307 pc c Q) Q bk_Mo_takesBehind_88 c := mAt_blk rfl
theorem e_Mo_closesIfs (D : Nat) (x0 x1 : mV) (I : mN) (S : mH) (Q : mQ) (h : mCs [x0, x1] ≤ 2) : mRun (D + 1) 308 [x0, x1] I S Q = mAt (mRun D) 308 0 ([some x0, some x1], [], I, S) Q := propext ⟨fun z => z.2, fun z => ⟨⟨h, Nat.le_of_ble_eq_true rfl⟩, z⟩⟩
theorem a_Mo_closesIfs_0 (D : Nat) (c : mC) (Q : mQ) : mAt (mRun D) 308 0 c Q = mWp (mRun D) 308 10 (fun pc c => mAt (mRun D) 308 pc c Q) Q bk_Mo_closesIfs_0 c := mAt_blk rfl
theorem a_Mo_closesIfs_10 (D : Nat) (c : mC) (Q : mQ) : mAt (mRun D) 308 10 c Q = mWp (mRun D) 308 0 (fun pc c => mAt (mRun D) 308 pc c Q) Q bk_Mo_closesIfs_10 c := mAt_blk rfl
theorem a_Mo_closesIfs_50 (D : Nat) (c : mC) (Q : mQ) : mAt (mRun D) 308 50 c Q = mWp (mRun D) 308 54 (fun pc c => mAt (mRun D) 308 pc c Q) Q bk_Mo_closesIfs_50 c := mAt_blk rfl
theorem a_Mo_closesIfs_54 (D : Nat) (c : mC) (Q : mQ) : mAt (mRun D) 308 54 c Q = mWp (mRun D) 308 0 (fun pc c => mAt (mRun D) 308 pc c Q) Q bk_Mo_closesIfs_54 c := mAt_blk rfl
theorem a_Mo_closesIfs_70 (D : Nat) (c : mC) (Q : mQ) : mAt (mRun D) 308 70 c Q = mWp (mRun D) 308 0 (fun pc c => mAt (mRun D) 308 pc c Q) Q bk_Mo_closesIfs_70 c := mAt_blk rfl
theorem e_Mo_goesOn (D : Nat) (x0 x1 x2 : mV) (I : mN) (S : mH) (Q : mQ) (h : mCs [x0, x1, x2] ≤ 3) : mRun (D + 1) 309 [x0, x1, x2] I S Q = mAt (mRun D) 309 0 ([some x0, some x1, some x2], [], I, S) Q := propext ⟨fun z => z.2, fun z => ⟨⟨h, Nat.le_of_ble_eq_true rfl⟩, z⟩⟩
theorem a_Mo_goesOn_0 (D : Nat) (c : mC) (Q : mQ) : mAt (mRun D) 309 0 c Q = mWp (mRun D) 309 0 (fun pc c => mAt (mRun D) 309 pc c Q) Q bk_Mo_goesOn_0 c := mAt_blk rfl
theorem e_Mo_closesBy (D : Nat) (x0 x1 x2 : mV) (I : mN) (S : mH) (Q : mQ) (h : mCs [x0, x1, x2] ≤ 3) : mRun (D + 1) 310 [x0, x1, x2] I S Q = mAt (mRun D) 310 0 ([some x0, some x1, some x2, none, none, none, none], [], I, S) Q := propext ⟨fun z => z.2, fun z => ⟨⟨h, Nat.le_of_ble_eq_true rfl⟩, z⟩⟩
theorem a_Mo_closesBy_0 (D : Nat) (c : mC) (Q : mQ) : mAt (mRun D) 310 0 c Q = mWp (mRun D) 310 0 (fun pc c => mAt (mRun D) 310 pc c Q) Q bk_Mo_closesBy_0 c := mAt_blk rfl
theorem a_Mo_closesBy_84 (D : Nat) (c : mC) (Q : mQ) : mAt (mRun D) 310 84 c Q = mWp (mRun D) 310 0 (fun pc c => mAt (mRun D) 310 pc c Q) Q bk_Mo_closesBy_84 c := mAt_blk rfl
theorem a_Mo_closesBy_106 (D : Nat) (c : mC) (Q : mQ) : mAt (mRun D) 310 106 c Q = mWp (mRun D) 310 107 (fun pc c => mAt (mRun D) 310 pc c Q) Q bk_Mo_closesBy_106 c := mAt_blk rfl
theorem a_Mo_closesBy_107 (D : Nat) (c : mC) (Q : mQ) : mAt (mRun D) 310 107 c Q = mWp (mRun D) 310 0 (fun pc c => mAt (mRun D) 310 pc c Q) Q bk_Mo_closesBy_107 c := mAt_blk rfl
theorem a_Mo_closesBy_108 (D : Nat) (c : mC) (Q : mQ) : mAt (mRun D) 310 108 c Q = mWp (mRun D) 310 0 (fun pc c => mAt (mRun D) 310 pc c Q) Q bk_Mo_closesBy_108 c := mAt_blk rfl
theorem a_Mo_closesBy_138 (D : Nat) (c : mC) (Q : mQ) : mAt (mRun D) 310 138 c Q = mWp (mRun D) 310 139 (fun pc c => mAt (mRun D) 310 pc c Q) Q bk_Mo_closesBy_138 c := mAt_blk rfl
theorem a_Mo_closesBy_139 (D : Nat) (c : mC) (Q : mQ) : mAt (mRun D) 310 139 c Q = mWp (mRun D) 310 0 (fun pc c => mAt (mRun D) 310 pc c Q) Q bk_Mo_closesBy_139 c := mAt_blk rfl
theorem a_Mo_closesBy_140 (D : Nat) (c : mC) (Q : mQ) : mAt (mRun D) 310 140 c Q = mWp (mRun D) 310 0 (fun pc c => mAt (mRun D) 310 pc c Q) Q bk_Mo_closesBy_140 c := mAt_blk rfl
theorem a_Mo_closesBy_166 (D : Nat) (c : mC) (Q : mQ) : mAt (mRun D) 310 166 c Q = mWp (mRun D) 310 167 (fun pc c => mAt (mRun D) 310 pc c Q) Q bk_Mo_closesBy_166 c := mAt_blk rfl
theorem a_Mo_closesBy_167 (D : Nat) (c : mC) (Q : mQ) : mAt (mRun D) 310 167 c Q = mWp (mRun D) 310 0 (fun pc c => mAt (mRun D) 310 pc c Q) Q bk_Mo_closesBy_167 c := mAt_blk rfl
theorem a_Mo_closesBy_168 (D : Nat) (c : mC) (Q : mQ) : mAt (mRun D) 310 168 c Q = mWp (mRun D) 310 0 (fun pc c => mAt (mRun D) 310 pc c Q) Q bk_Mo_closesBy_168 c := mAt_blk rfl
theorem a_Mo_closesBy_188 (D : Nat) (c : mC) (Q : mQ) : mAt (mRun D) 310 188 c Q = mWp (mRun D) 310 192 (fun pc c => mAt (mRun D) 310 pc c Q) Q bk_Mo_closesBy_188 c := mAt_blk rfl
theorem a_Mo_closesBy_192 (D : Nat) (c : mC) (Q : mQ) : mAt (mRun D) 310 192 c Q = mWp (mRun D) 310 0 (fun pc c => mAt (mRun D) 310 pc c Q) Q bk_Mo_closesBy_192 c := mAt_blk rfl
theorem a_Mo_closesBy_202 (D : Nat) (c : mC) (Q : mQ) : mAt (mRun D) 310 202 c Q = mWp (mRun D) 310 203 (fun pc c => mAt (mRun D) 310 pc c Q) Q bk_Mo_closesBy_202 c := mAt_blk rfl
theorem a_Mo_closesBy_203 (D : Nat) (c : mC) (Q : mQ) : mAt (mRun D) 310 203 c Q = mWp (mRun D) 310 0 (fun pc c => mAt (mRun D) 310 pc c Q) Q bk_Mo_closesBy_203 c := mAt_blk rfl
theorem a_Mo_closesBy_204 (D : Nat) (c : mC) (Q : mQ) : mAt (mRun D) 310 204 c Q = mWp (mRun D) 310 0 (fun pc c => mAt (mRun D) 310 pc c Q) Q bk_Mo_closesBy_204 c := mAt_blk rfl
theorem a_Mo_closesBy_224 (D : Nat) (c : mC) (Q : mQ) : mAt (mRun D) 310 224 c Q = mWp (mRun D) 310 228 (fun pc c => mAt (mRun D) 310 pc c Q) Q bk_Mo_closesBy_224 c := mAt_blk rfl
theorem a_Mo_closesBy_228 (D : Nat) (c : mC) (Q : mQ) : mAt (mRun D) 310 228 c Q = mWp (mRun D) 310 0 (fun pc c => mAt (mRun D) 310 pc c Q) Q bk_Mo_closesBy_228 c := mAt_blk rfl
theorem a_Mo_closesBy_238 (D : Nat) (c : mC) (Q : mQ) : mAt (mRun D) 310 238 c Q = mWp (mRun D) 310 239 (fun pc c => mAt (mRun D) 310 pc c Q) Q bk_Mo_closesBy_238 c := mAt_blk rfl
theorem a_Mo_closesBy_239 (D : Nat) (c : mC) (Q : mQ) : mAt (mRun D) 310 239 c Q = mWp (mRun D) 310 0 (fun pc c => mAt (mRun D) 310 pc c Q) Q bk_Mo_closesBy_239 c := mAt_blk rfl
theorem a_Mo_closesBy_240 (D : Nat) (c : mC) (Q : mQ) : mAt (mRun D) 310 240 c Q = mWp (mRun D) 310 0 (fun pc c => mAt (mRun D) 310 pc c Q) Q bk_Mo_closesBy_240 c := mAt_blk rfl
theorem a_Mo_closesBy_276 (D : Nat) (c : mC) (Q : mQ) : mAt (mRun D) 310 276 c Q = mWp (mRun D) 310 277 (fun pc c => mAt (mRun D) 310 pc c Q) Q bk_Mo_closesBy_276 c := mAt_blk rfl
theorem a_Mo_closesBy_277 (D : Nat) (c : mC) (Q : mQ) : mAt (mRun D) 310 277 c Q = mWp (mRun D) 310 0 (fun pc c => mAt (mRun D) 310 pc c Q) Q bk_Mo_closesBy_277 c := mAt_blk rfl
theorem a_Mo_closesBy_278 (D : Nat) (c : mC) (Q : mQ) : mAt (mRun D) 310 278 c Q = mWp (mRun D) 310 0 (fun pc c => mAt (mRun D) 310 pc c Q) Q bk_Mo_closesBy_278 c := mAt_blk rfl
theorem a_Mo_closesBy_328 (D : Nat) (c : mC) (Q : mQ) : mAt (mRun D) 310 328 c Q = mWp (mRun D) 310 329 (fun pc c => mAt (mRun D) 310 pc c Q) Q bk_Mo_closesBy_328 c := mAt_blk rfl
theorem a_Mo_closesBy_329 (D : Nat) (c : mC) (Q : mQ) : mAt (mRun D) 310 329 c Q = mWp (mRun D) 310 0 (fun pc c => mAt (mRun D) 310 pc c Q) Q bk_Mo_closesBy_329 c := mAt_blk rfl
theorem a_Mo_closesBy_330 (D : Nat) (c : mC) (Q : mQ) : mAt (mRun D) 310 330 c Q = mWp (mRun D) 310 0 (fun pc c => mAt (mRun D) 310 pc c Q) Q bk_Mo_closesBy_330 c := mAt_blk rfl
theorem a_Mo_closesBy_339 (D : Nat) (c : mC) (Q : mQ) : mAt (mRun D) 310 339 c Q = mWp (mRun D) 310 0 (fun pc c => mAt (mRun D) 310 pc c Q) Q bk_Mo_closesBy_339 c := mAt_blk rfl
theorem a_Mo_closesBy_370 (D : Nat) (c : mC) (Q : mQ) : mAt (mRun D) 310 370 c Q = mWp (mRun D) 310 0 (fun pc c => mAt (mRun D) 310 pc c Q) Q bk_Mo_closesBy_370 c := mAt_blk rfl
theorem a_Mo_closesBy_374 (D : Nat) (c : mC) (Q : mQ) : mAt (mRun D) 310 374 c Q = mWp (mRun D) 310 0 (fun pc c => mAt (mRun D) 310 pc c Q) Q bk_Mo_closesBy_374 c := mAt_blk rfl
theorem a_Mo_closesBy_394 (D : Nat) (c : mC) (Q : mQ) : mAt (mRun D) 310 394 c Q = mWp (mRun D) 310 0 (fun pc c => mAt (mRun D) 310 pc c Q) Q bk_Mo_closesBy_394 c := mAt_blk rfl
theorem a_Mo_closesBy_398 (D : Nat) (c : mC) (Q : mQ) : mAt (mRun D) 310 398 c Q = mWp (mRun D) 310 0 (fun pc c => mAt (mRun D) 310 pc c Q) Q bk_Mo_closesBy_398 c := mAt_blk rfl
theorem a_Mo_closesBy_410 (D : Nat) (c : mC) (Q : mQ) : mAt (mRun D) 310 410 c Q = mWp (mRun D) 310 411 (fun pc c => mAt (mRun D) 310 pc c Q) Q bk_Mo_closesBy_410 c := mAt_blk rfl
theorem a_Mo_closesBy_411 (D : Nat) (c : mC) (Q : mQ) : mAt (mRun D) 310 411 c Q = mWp (mRun D) 310 0 (fun pc c => mAt (mRun D) 310 pc c Q) Q bk_Mo_closesBy_411 c := mAt_blk rfl
theorem a_Mo_closesBy_430 (D : Nat) (c : mC) (Q : mQ) : mAt (mRun D) 310 430 c Q = mWp (mRun D) 310 431 (fun pc c => mAt (mRun D) 310 pc c Q) Q bk_Mo_closesBy_430 c := mAt_blk rfl
theorem a_Mo_closesBy_431 (D : Nat) (c : mC) (Q : mQ) : mAt (mRun D) 310 431 c Q = mWp (mRun D) 310 0 (fun pc c => mAt (mRun D) 310 pc c Q) Q bk_Mo_closesBy_431 c := mAt_blk rfl
theorem a_Mo_closesBy_440 (D : Nat) (c : mC) (Q : mQ) : mAt (mRun D) 310 440 c Q = mWp (mRun D) 310 0 (fun pc c => mAt (mRun D) 310 pc c Q) Q bk_Mo_closesBy_440 c := mAt_blk rfl
theorem a_Mo_closesBy_474 (D : Nat) (c : mC) (Q : mQ) : mAt (mRun D) 310 474 c Q = mWp (mRun D) 310 475 (fun pc c => mAt (mRun D) 310 pc c Q) Q bk_Mo_closesBy_474 c := mAt_blk rfl
theorem a_Mo_closesBy_475 (D : Nat) (c : mC) (Q : mQ) : mAt (mRun D) 310 475 c Q = mWp (mRun D) 310 0 (fun pc c => mAt (mRun D) 310 pc c Q) Q bk_Mo_closesBy_475 c := mAt_blk rfl
theorem a_Mo_closesBy_476 (D : Nat) (c : mC) (Q : mQ) : mAt (mRun D) 310 476 c Q = mWp (mRun D) 310 0 (fun pc c => mAt (mRun D) 310 pc c Q) Q bk_Mo_closesBy_476 c := mAt_blk rfl
theorem e_Mo_endsDecree (D : Nat) (x0 : mV) (I : mN) (S : mH) (Q : mQ) (h : mCs [x0] ≤ 1) : mRun (D + 1) 311 [x0] I S Q = mAt (mRun D) 311 0 ([some x0], [], I, S) Q := propext ⟨fun z => z.2, fun z => ⟨⟨h, Nat.le_of_ble_eq_true rfl⟩, z⟩⟩
theorem a_Mo_endsDecree_0 (D : Nat) (c : mC) (Q : mQ) : mAt (mRun D) 311 0 c Q = mWp (mRun D) 311 0 (fun pc c => mAt (mRun D) 311 pc c Q) Q bk_Mo_endsDecree_0 c := mAt_blk rfl
theorem a_Mo_endsDecree_18 (D : Nat) (c : mC) (Q : mQ) : mAt (mRun D) 311 18 c Q = mWp (mRun D) 311 0 (fun pc c => mAt (mRun D) 311 pc c Q) Q bk_Mo_endsDecree_18 c := mAt_blk rfl
theorem a_Mo_endsDecree_34 (D : Nat) (c : mC) (Q : mQ) : mAt (mRun D) 311 34 c Q = mWp (mRun D) 311 38 (fun pc c => mAt (mRun D) 311 pc c Q) Q bk_Mo_endsDecree_34 c := mAt_blk rfl
theorem a_Mo_endsDecree_38 (D : Nat) (c : mC) (Q : mQ) : mAt (mRun D) 311 38 c Q = mWp (mRun D) 311 0 (fun pc c => mAt (mRun D) 311 pc c Q) Q bk_Mo_endsDecree_38 c := mAt_blk rfl
theorem a_Mo_endsDecree_52 (D : Nat) (c : mC) (Q : mQ) : mAt (mRun D) 311 52 c Q = mWp (mRun D) 311 53 (fun pc c => mAt (mRun D) 311 pc c Q) Q bk_Mo_endsDecree_52 c := mAt_blk rfl
theorem a_Mo_endsDecree_53 (D : Nat) (c : mC) (Q : mQ) : mAt (mRun D) 311 53 c Q = mWp (mRun D) 311 0 (fun pc c => mAt (mRun D) 311 pc c Q) Q bk_Mo_endsDecree_53 c := mAt_blk rfl
theorem e_Mo_value (D : Nat) (x0 x1 x2 x3 x4 : mV) (I : mN) (S : mH) (Q : mQ) (h : mCs [x0, x1, x2, x3, x4] ≤ 5) : mRun (D + 1) 312 [x0, x1, x2, x3, x4] I S Q = mAt (mRun D) 312 0 ([some x0, some x1, some x2, some x3, some x4, none, none, none], [], I, S) Q := propext ⟨fun z => z.2, fun z => ⟨⟨h, Nat.le_of_ble_eq_true rfl⟩, z⟩⟩
theorem a_Mo_value_0 (D : Nat) (c : mC) (Q : mQ) : mAt (mRun D) 312 0 c Q = mWp (mRun D) 312 24 (fun pc c => mAt (mRun D) 312 pc c Q) Q bk_Mo_value_0 c := mAt_blk rfl
theorem a_Mo_value_24 (D : Nat) (c : mC) (Q : mQ) : mAt (mRun D) 312 24 c Q = mWp (mRun D) 312 0 (fun pc c => mAt (mRun D) 312 pc c Q) Q bk_Mo_value_24 c := mAt_blk rfl
theorem a_Mo_value_62 (D : Nat) (c : mC) (Q : mQ) : mAt (mRun D) 312 62 c Q = mWp (mRun D) 312 63 (fun pc c => mAt (mRun D) 312 pc c Q) Q bk_Mo_value_62 c := mAt_blk rfl
theorem a_Mo_value_63 (D : Nat) (c : mC) (Q : mQ) : mAt (mRun D) 312 63 c Q = mWp (mRun D) 312 0 (fun pc c => mAt (mRun D) 312 pc c Q) Q bk_Mo_value_63 c := mAt_blk rfl
theorem a_Mo_value_71 (D : Nat) (c : mC) (Q : mQ) : mAt (mRun D) 312 71 c Q = mWp (mRun D) 312 0 (fun pc c => mAt (mRun D) 312 pc c Q) Q bk_Mo_value_71 c := mAt_blk rfl
theorem a_Mo_value_90 (D : Nat) (c : mC) (Q : mQ) : mAt (mRun D) 312 90 c Q = mWp (mRun D) 312 91 (fun pc c => mAt (mRun D) 312 pc c Q) Q bk_Mo_value_90 c := mAt_blk rfl
theorem a_Mo_value_91 (D : Nat) (c : mC) (Q : mQ) : mAt (mRun D) 312 91 c Q = mWp (mRun D) 312 0 (fun pc c => mAt (mRun D) 312 pc c Q) Q bk_Mo_value_91 c := mAt_blk rfl
theorem e_Mo_decreeValue (D : Nat) (x0 x1 x2 x3 : mV) (I : mN) (S : mH) (Q : mQ) (h : mCs [x0, x1, x2, x3] ≤ 4) : mRun (D + 1) 313 [x0, x1, x2, x3] I S Q = mAt (mRun D) 313 0 ([some x0, some x1, some x2, some x3, none], [], I, S) Q := propext ⟨fun z => z.2, fun z => ⟨⟨h, Nat.le_of_ble_eq_true rfl⟩, z⟩⟩
theorem a_Mo_decreeValue_0 (D : Nat) (c : mC) (Q : mQ) : mAt (mRun D) 313 0 c Q = mWp (mRun D) 313 0 (fun pc c => mAt (mRun D) 313 pc c Q) Q bk_Mo_decreeValue_0 c := mAt_blk rfl
theorem a_Mo_decreeValue_22 (D : Nat) (c : mC) (Q : mQ) : mAt (mRun D) 313 22 c Q = mWp (mRun D) 313 23 (fun pc c => mAt (mRun D) 313 pc c Q) Q bk_Mo_decreeValue_22 c := mAt_blk rfl
theorem a_Mo_decreeValue_23 (D : Nat) (c : mC) (Q : mQ) : mAt (mRun D) 313 23 c Q = mWp (mRun D) 313 0 (fun pc c => mAt (mRun D) 313 pc c Q) Q bk_Mo_decreeValue_23 c := mAt_blk rfl
theorem a_Mo_decreeValue_60 (D : Nat) (c : mC) (Q : mQ) : mAt (mRun D) 313 60 c Q = mWp (mRun D) 313 61 (fun pc c => mAt (mRun D) 313 pc c Q) Q bk_Mo_decreeValue_60 c := mAt_blk rfl
theorem a_Mo_decreeValue_61 (D : Nat) (c : mC) (Q : mQ) : mAt (mRun D) 313 61 c Q = mWp (mRun D) 313 0 (fun pc c => mAt (mRun D) 313 pc c Q) Q bk_Mo_decreeValue_61 c := mAt_blk rfl
theorem a_Mo_decreeValue_81 (D : Nat) (c : mC) (Q : mQ) : mAt (mRun D) 313 81 c Q = mWp (mRun D) 313 82 (fun pc c => mAt (mRun D) 313 pc c Q) Q bk_Mo_decreeValue_81 c := mAt_blk rfl
theorem a_Mo_decreeValue_82 (D : Nat) (c : mC) (Q : mQ) : mAt (mRun D) 313 82 c Q = mWp (mRun D) 313 0 (fun pc c => mAt (mRun D) 313 pc c Q) Q bk_Mo_decreeValue_82 c := mAt_blk rfl
theorem e_Mo_textByte (D : Nat) (x0 x1 x2 x3 x4 x5 : mV) (I : mN) (S : mH) (Q : mQ) (h : mCs [x0, x1, x2, x3, x4, x5] ≤ 6) : mRun (D + 1) 314 [x0, x1, x2, x3, x4, x5] I S Q = mAt (mRun D) 314 0 ([some x0, some x1, some x2, some x3, some x4, some x5, none], [], I, S) Q := propext ⟨fun z => z.2, fun z => ⟨⟨h, Nat.le_of_ble_eq_true rfl⟩, z⟩⟩
theorem a_Mo_textByte_0 (D : Nat) (c : mC) (Q : mQ) : mAt (mRun D) 314 0 c Q = mWp (mRun D) 314 0 (fun pc c => mAt (mRun D) 314 pc c Q) Q bk_Mo_textByte_0 c := mAt_blk rfl
theorem a_Mo_textByte_10 (D : Nat) (c : mC) (Q : mQ) : mAt (mRun D) 314 10 c Q = mWp (mRun D) 314 0 (fun pc c => mAt (mRun D) 314 pc c Q) Q bk_Mo_textByte_10 c := mAt_blk rfl
theorem a_Mo_textByte_21 (D : Nat) (c : mC) (Q : mQ) : mAt (mRun D) 314 21 c Q = mWp (mRun D) 314 0 (fun pc c => mAt (mRun D) 314 pc c Q) Q bk_Mo_textByte_21 c := mAt_blk rfl
theorem a_Mo_textByte_32 (D : Nat) (c : mC) (Q : mQ) : mAt (mRun D) 314 32 c Q = mWp (mRun D) 314 0 (fun pc c => mAt (mRun D) 314 pc c Q) Q bk_Mo_textByte_32 c := mAt_blk rfl
theorem a_Mo_textByte_43 (D : Nat) (c : mC) (Q : mQ) : mAt (mRun D) 314 43 c Q = mWp (mRun D) 314 45 (fun pc c => mAt (mRun D) 314 pc c Q) Q bk_Mo_textByte_43 c := mAt_blk rfl
theorem a_Mo_textByte_45 (D : Nat) (c : mC) (Q : mQ) : mAt (mRun D) 314 45 c Q = mWp (mRun D) 314 0 (fun pc c => mAt (mRun D) 314 pc c Q) Q bk_Mo_textByte_45 c := mAt_blk rfl
theorem e_Mo_append (D : Nat) (x0 x1 x2 x3 x4 x5 : mV) (I : mN) (S : mH) (Q : mQ) (h : mCs [x0, x1, x2, x3, x4, x5] ≤ 6) : mRun (D + 1) 315 [x0, x1, x2, x3, x4, x5] I S Q = mAt (mRun D) 315 0 ([some x0, some x1, some x2, some x3, some x4, some x5, none, none, none], [], I, S) Q := propext ⟨fun z => z.2, fun z => ⟨⟨h, Nat.le_of_ble_eq_true rfl⟩, z⟩⟩
theorem a_Mo_append_0 (D : Nat) (c : mC) (Q : mQ) : mAt (mRun D) 315 0 c Q = mWp (mRun D) 315 6 (fun pc c => mAt (mRun D) 315 pc c Q) Q bk_Mo_append_0 c := mAt_blk rfl
theorem a_Mo_append_6 (D : Nat) (c : mC) (Q : mQ) : mAt (mRun D) 315 6 c Q = mWp (mRun D) 315 0 (fun pc c => mAt (mRun D) 315 pc c Q) Q bk_Mo_append_6 c := mAt_blk rfl
theorem a_Mo_append_34 (D : Nat) (c : mC) (Q : mQ) : mAt (mRun D) 315 34 c Q = mWp (mRun D) 315 35 (fun pc c => mAt (mRun D) 315 pc c Q) Q bk_Mo_append_34 c := mAt_blk rfl
theorem a_Mo_append_35 (D : Nat) (c : mC) (Q : mQ) : mAt (mRun D) 315 35 c Q = mWp (mRun D) 315 0 (fun pc c => mAt (mRun D) 315 pc c Q) Q bk_Mo_append_35 c := mAt_blk rfl
theorem a_Mo_append_44 (D : Nat) (c : mC) (Q : mQ) : mAt (mRun D) 315 44 c Q = mWp (mRun D) 315 0 (fun pc c => mAt (mRun D) 315 pc c Q) Q bk_Mo_append_44 c := mAt_blk rfl
theorem a_Mo_append_62 (D : Nat) (c : mC) (Q : mQ) : mAt (mRun D) 315 62 c Q = mWp (mRun D) 315 63 (fun pc c => mAt (mRun D) 315 pc c Q) Q bk_Mo_append_62 c := mAt_blk rfl
theorem a_Mo_append_63 (D : Nat) (c : mC) (Q : mQ) : mAt (mRun D) 315 63 c Q = mWp (mRun D) 315 0 (fun pc c => mAt (mRun D) 315 pc c Q) Q bk_Mo_append_63 c := mAt_blk rfl
theorem a_Mo_append_71 (D : Nat) (c : mC) (Q : mQ) : mAt (mRun D) 315 71 c Q = mWp (mRun D) 315 74 (fun pc c => mAt (mRun D) 315 pc c Q) Q bk_Mo_append_71 c := mAt_blk rfl
theorem a_Mo_append_74 (D : Nat) (c : mC) (Q : mQ) : mAt (mRun D) 315 74 c Q = mWp (mRun D) 315 0 (fun pc c => mAt (mRun D) 315 pc c Q) Q bk_Mo_append_74 c := mAt_blk rfl
theorem a_Mo_append_103 (D : Nat) (c : mC) (Q : mQ) : mAt (mRun D) 315 103 c Q = mWp (mRun D) 315 124 (fun pc c => mAt (mRun D) 315 pc c Q) Q bk_Mo_append_103 c := mAt_blk rfl
theorem a_Mo_append_124 (D : Nat) (c : mC) (Q : mQ) : mAt (mRun D) 315 124 c Q = mWp (mRun D) 315 0 (fun pc c => mAt (mRun D) 315 pc c Q) Q bk_Mo_append_124 c := mAt_blk rfl
theorem a_Mo_append_130 (D : Nat) (c : mC) (Q : mQ) : mAt (mRun D) 315 130 c Q = mWp (mRun D) 315 0 (fun pc c => mAt (mRun D) 315 pc c Q) Q bk_Mo_append_130 c := mAt_blk rfl
theorem e_Mo_clearText (D : Nat) (x0 : mV) (I : mN) (S : mH) (Q : mQ) (h : mCs [x0] ≤ 1) : mRun (D + 1) 316 [x0] I S Q = mAt (mRun D) 316 0 ([some x0, none], [], I, S) Q := propext ⟨fun z => z.2, fun z => ⟨⟨h, Nat.le_of_ble_eq_true rfl⟩, z⟩⟩
theorem a_Mo_clearText_0 (D : Nat) (c : mC) (Q : mQ) : mAt (mRun D) 316 0 c Q = mWp (mRun D) 316 0 (fun pc c => mAt (mRun D) 316 pc c Q) Q bk_Mo_clearText_0 c := mAt_blk rfl
theorem e_Mo_errorPosition (D : Nat) (x0 : mV) (I : mN) (S : mH) (Q : mQ) (h : mCs [x0] ≤ 1) : mRun (D + 1) 317 [x0] I S Q = mAt (mRun D) 317 0 ([some x0], [], I, S) Q := propext ⟨fun z => z.2, fun z => ⟨⟨h, Nat.le_of_ble_eq_true rfl⟩, z⟩⟩
theorem a_Mo_errorPosition_0 (D : Nat) (c : mC) (Q : mQ) : mAt (mRun D) 317 0 c Q = mWp (mRun D) 317 0 (fun pc c => mAt (mRun D) 317 pc c Q) Q bk_Mo_errorPosition_0 c := mAt_blk rfl
theorem e_Mo_isTextLetter (D : Nat) (x0 x1 : mV) (I : mN) (S : mH) (Q : mQ) (h : mCs [x0, x1] ≤ 2) : mRun (D + 1) 318 [x0, x1] I S Q = mAt (mRun D) 318 0 ([some x0, some x1], [], I, S) Q := propext ⟨fun z => z.2, fun z => ⟨⟨h, Nat.le_of_ble_eq_true rfl⟩, z⟩⟩
theorem a_Mo_isTextLetter_0 (D : Nat) (c : mC) (Q : mQ) : mAt (mRun D) 318 0 c Q = mWp (mRun D) 318 0 (fun pc c => mAt (mRun D) 318 pc c Q) Q bk_Mo_isTextLetter_0 c := mAt_blk rfl
theorem a_Mo_isTextLetter_28 (D : Nat) (c : mC) (Q : mQ) : mAt (mRun D) 318 28 c Q = mWp (mRun D) 318 29 (fun pc c => mAt (mRun D) 318 pc c Q) Q bk_Mo_isTextLetter_28 c := mAt_blk rfl
theorem a_Mo_isTextLetter_29 (D : Nat) (c : mC) (Q : mQ) : mAt (mRun D) 318 29 c Q = mWp (mRun D) 318 0 (fun pc c => mAt (mRun D) 318 pc c Q) Q bk_Mo_isTextLetter_29 c := mAt_blk rfl
theorem e_Mo_isTextDigit (D : Nat) (x0 x1 : mV) (I : mN) (S : mH) (Q : mQ) (h : mCs [x0, x1] ≤ 2) : mRun (D + 1) 319 [x0, x1] I S Q = mAt (mRun D) 319 0 ([some x0, some x1], [], I, S) Q := propext ⟨fun z => z.2, fun z => ⟨⟨h, Nat.le_of_ble_eq_true rfl⟩, z⟩⟩
theorem a_Mo_isTextDigit_0 (D : Nat) (c : mC) (Q : mQ) : mAt (mRun D) 319 0 c Q = mWp (mRun D) 319 0 (fun pc c => mAt (mRun D) 319 pc c Q) Q bk_Mo_isTextDigit_0 c := mAt_blk rfl
theorem a_Mo_isTextDigit_28 (D : Nat) (c : mC) (Q : mQ) : mAt (mRun D) 319 28 c Q = mWp (mRun D) 319 29 (fun pc c => mAt (mRun D) 319 pc c Q) Q bk_Mo_isTextDigit_28 c := mAt_blk rfl
theorem a_Mo_isTextDigit_29 (D : Nat) (c : mC) (Q : mQ) : mAt (mRun D) 319 29 c Q = mWp (mRun D) 319 0 (fun pc c => mAt (mRun D) 319 pc c Q) Q bk_Mo_isTextDigit_29 c := mAt_blk rfl
theorem e_Mo_nextToken (D : Nat) (x0 : mV) (I : mN) (S : mH) (Q : mQ) (h : mCs [x0] ≤ 1) : mRun (D + 1) 320 [x0] I S Q = mAt (mRun D) 320 0 ([some x0], [], I, S) Q := propext ⟨fun z => z.2, fun z => ⟨⟨h, Nat.le_of_ble_eq_true rfl⟩, z⟩⟩
theorem a_Mo_nextToken_0 (D : Nat) (c : mC) (Q : mQ) : mAt (mRun D) 320 0 c Q = mWp (mRun D) 320 0 (fun pc c => mAt (mRun D) 320 pc c Q) Q bk_Mo_nextToken_0 c := mAt_blk rfl
theorem a_Mo_nextToken_38 (D : Nat) (c : mC) (Q : mQ) : mAt (mRun D) 320 38 c Q = mWp (mRun D) 320 0 (fun pc c => mAt (mRun D) 320 pc c Q) Q bk_Mo_nextToken_38 c := mAt_blk rfl
theorem a_Mo_nextToken_70 (D : Nat) (c : mC) (Q : mQ) : mAt (mRun D) 320 70 c Q = mWp (mRun D) 320 81 (fun pc c => mAt (mRun D) 320 pc c Q) Q bk_Mo_nextToken_70 c := mAt_blk rfl
theorem a_Mo_nextToken_81 (D : Nat) (c : mC) (Q : mQ) : mAt (mRun D) 320 81 c Q = mWp (mRun D) 320 0 (fun pc c => mAt (mRun D) 320 pc c Q) Q bk_Mo_nextToken_81 c := mAt_blk rfl
theorem a_Mo_nextToken_105 (D : Nat) (c : mC) (Q : mQ) : mAt (mRun D) 320 105 c Q = mWp (mRun D) 320 0 (fun pc c => mAt (mRun D) 320 pc c Q) Q bk_Mo_nextToken_105 c := mAt_blk rfl
theorem a_Mo_nextToken_113 (D : Nat) (c : mC) (Q : mQ) : mAt (mRun D) 320 113 c Q = mWp (mRun D) 320 124 (fun pc c => mAt (mRun D) 320 pc c Q) Q bk_Mo_nextToken_113 c := mAt_blk rfl
theorem a_Mo_nextToken_124 (D : Nat) (c : mC) (Q : mQ) : mAt (mRun D) 320 124 c Q = mWp (mRun D) 320 0 (fun pc c => mAt (mRun D) 320 pc c Q) Q bk_Mo_nextToken_124 c := mAt_blk rfl
theorem a_Mo_nextToken_172 (D : Nat) (c : mC) (Q : mQ) : mAt (mRun D) 320 172 c Q = mWp (mRun D) 320 176 (fun pc c => mAt (mRun D) 320 pc c Q) Q bk_Mo_nextToken_172 c := mAt_blk rfl
theorem a_Mo_nextToken_176 (D : Nat) (c : mC) (Q : mQ) : mAt (mRun D) 320 176 c Q = mWp (mRun D) 320 0 (fun pc c => mAt (mRun D) 320 pc c Q) Q bk_Mo_nextToken_176 c := mAt_blk rfl
theorem a_Mo_nextToken_192 (D : Nat) (c : mC) (Q : mQ) : mAt (mRun D) 320 192 c Q = mWp (mRun D) 320 0 (fun pc c => mAt (mRun D) 320 pc c Q) Q bk_Mo_nextToken_192 c := mAt_blk rfl
theorem a_Mo_nextToken_210 (D : Nat) (c : mC) (Q : mQ) : mAt (mRun D) 320 210 c Q = mWp (mRun D) 320 211 (fun pc c => mAt (mRun D) 320 pc c Q) Q bk_Mo_nextToken_210 c := mAt_blk rfl
theorem a_Mo_nextToken_211 (D : Nat) (c : mC) (Q : mQ) : mAt (mRun D) 320 211 c Q = mWp (mRun D) 320 0 (fun pc c => mAt (mRun D) 320 pc c Q) Q bk_Mo_nextToken_211 c := mAt_blk rfl
theorem a_Mo_nextToken_217 (D : Nat) (c : mC) (Q : mQ) : mAt (mRun D) 320 217 c Q = mWp (mRun D) 320 251 (fun pc c => mAt (mRun D) 320 pc c Q) Q bk_Mo_nextToken_217 c := mAt_blk rfl
theorem a_Mo_nextToken_251 (D : Nat) (c : mC) (Q : mQ) : mAt (mRun D) 320 251 c Q = mWp (mRun D) 320 0 (fun pc c => mAt (mRun D) 320 pc c Q) Q bk_Mo_nextToken_251 c := mAt_blk rfl
theorem a_Mo_nextToken_255 (D : Nat) (c : mC) (Q : mQ) : mAt (mRun D) 320 255 c Q = mWp (mRun D) 320 256 (fun pc c => mAt (mRun D) 320 pc c Q) Q bk_Mo_nextToken_255 c := mAt_blk rfl
theorem a_Mo_nextToken_256 (D : Nat) (c : mC) (Q : mQ) : mAt (mRun D) 320 256 c Q = mWp (mRun D) 320 269 (fun pc c => mAt (mRun D) 320 pc c Q) Q bk_Mo_nextToken_256 c := mAt_blk rfl
theorem a_Mo_nextToken_269 (D : Nat) (c : mC) (Q : mQ) : mAt (mRun D) 320 269 c Q = mWp (mRun D) 320 0 (fun pc c => mAt (mRun D) 320 pc c Q) Q bk_Mo_nextToken_269 c := mAt_blk rfl
theorem e_Mo_signOf (D : Nat) (x0 : mV) (I : mN) (S : mH) (Q : mQ) (h : mCs [x0] ≤ 1) : mRun (D + 1) 321 [x0] I S Q = mAt (mRun D) 321 0 ([some x0, none], [], I, S) Q := propext ⟨fun z => z.2, fun z => ⟨⟨h, Nat.le_of_ble_eq_true rfl⟩, z⟩⟩
theorem a_Mo_signOf_0 (D : Nat) (c : mC) (Q : mQ) : mAt (mRun D) 321 0 c Q = mWp (mRun D) 321 2 (fun pc c => mAt (mRun D) 321 pc c Q) Q bk_Mo_signOf_0 c := mAt_blk rfl
theorem a_Mo_signOf_2 (D : Nat) (c : mC) (Q : mQ) : mAt (mRun D) 321 2 c Q = mWp (mRun D) 321 0 (fun pc c => mAt (mRun D) 321 pc c Q) Q bk_Mo_signOf_2 c := mAt_blk rfl
theorem a_Mo_signOf_29 (D : Nat) (c : mC) (Q : mQ) : mAt (mRun D) 321 29 c Q = mWp (mRun D) 321 0 (fun pc c => mAt (mRun D) 321 pc c Q) Q bk_Mo_signOf_29 c := mAt_blk rfl
theorem a_Mo_signOf_35 (D : Nat) (c : mC) (Q : mQ) : mAt (mRun D) 321 35 c Q = mWp (mRun D) 321 0 (fun pc c => mAt (mRun D) 321 pc c Q) Q bk_Mo_signOf_35 c := mAt_blk rfl
theorem e_Mo_isTextWord (D : Nat) (x0 x1 : mV) (I : mN) (S : mH) (Q : mQ) (h : mCs [x0, x1] ≤ 2) : mRun (D + 1) 322 [x0, x1] I S Q = mAt (mRun D) 322 0 ([some x0, some x1, none, none], [], I, S) Q := propext ⟨fun z => z.2, fun z => ⟨⟨h, Nat.le_of_ble_eq_true rfl⟩, z⟩⟩
theorem a_Mo_isTextWord_0 (D : Nat) (c : mC) (Q : mQ) : mAt (mRun D) 322 0 c Q = mWp (mRun D) 322 0 (fun pc c => mAt (mRun D) 322 pc c Q) Q bk_Mo_isTextWord_0 c := mAt_blk rfl
theorem a_Mo_isTextWord_28 (D : Nat) (c : mC) (Q : mQ) : mAt (mRun D) 322 28 c Q = mWp (mRun D) 322 29 (fun pc c => mAt (mRun D) 322 pc c Q) Q bk_Mo_isTextWord_28 c := mAt_blk rfl
theorem a_Mo_isTextWord_29 (D : Nat) (c : mC) (Q : mQ) : mAt (mRun D) 322 29 c Q = mWp (mRun D) 322 32 (fun pc c => mAt (mRun D) 322 pc c Q) Q bk_Mo_isTextWord_29 c := mAt_blk rfl
theorem a_Mo_isTextWord_32 (D : Nat) (c : mC) (Q : mQ) : mAt (mRun D) 322 32 c Q = mWp (mRun D) 322 0 (fun pc c => mAt (mRun D) 322 pc c Q) Q bk_Mo_isTextWord_32 c := mAt_blk rfl
theorem a_Mo_isTextWord_67 (D : Nat) (c : mC) (Q : mQ) : mAt (mRun D) 322 67 c Q = mWp (mRun D) 322 68 (fun pc c => mAt (mRun D) 322 pc c Q) Q bk_Mo_isTextWord_67 c := mAt_blk rfl
theorem a_Mo_isTextWord_68 (D : Nat) (c : mC) (Q : mQ) : mAt (mRun D) 322 68 c Q = mWp (mRun D) 322 0 (fun pc c => mAt (mRun D) 322 pc c Q) Q bk_Mo_isTextWord_68 c := mAt_blk rfl
theorem a_Mo_isTextWord_75 (D : Nat) (c : mC) (Q : mQ) : mAt (mRun D) 322 75 c Q = mWp (mRun D) 322 0 (fun pc c => mAt (mRun D) 322 pc c Q) Q bk_Mo_isTextWord_75 c := mAt_blk rfl
theorem e_Mo_isTextNumber (D : Nat) (x0 x1 x2 : mV) (I : mN) (S : mH) (Q : mQ) (h : mCs [x0, x1, x2] ≤ 3) : mRun (D + 1) 323 [x0, x1, x2] I S Q = mAt (mRun D) 323 0 ([some x0, some x1, some x2], [], I, S) Q := propext ⟨fun z => z.2, fun z => ⟨⟨h, Nat.le_of_ble_eq_true rfl⟩, z⟩⟩
theorem a_Mo_isTextNumber_0 (D : Nat) (c : mC) (Q : mQ) : mAt (mRun D) 323 0 c Q = mWp (mRun D) 323 0 (fun pc c => mAt (mRun D) 323 pc c Q) Q bk_Mo_isTextNumber_0 c := mAt_blk rfl
theorem a_Mo_isTextNumber_24 (D : Nat) (c : mC) (Q : mQ) : mAt (mRun D) 323 24 c Q = mWp (mRun D) 323 25 (fun pc c => mAt (mRun D) 323 pc c Q) Q bk_Mo_isTextNumber_24 c := mAt_blk rfl
theorem a_Mo_isTextNumber_25 (D : Nat) (c : mC) (Q : mQ) : mAt (mRun D) 323 25 c Q = mWp (mRun D) 323 0 (fun pc c => mAt (mRun D) 323 pc c Q) Q bk_Mo_isTextNumber_25 c := mAt_blk rfl
theorem e_Mo_takesNumber (D : Nat) (x0 x1 x2 : mV) (I : mN) (S : mH) (Q : mQ) (h : mCs [x0, x1, x2] ≤ 3) : mRun (D + 1) 324 [x0, x1, x2] I S Q = mAt (mRun D) 324 0 ([some x0, some x1, some x2], [], I, S) Q := propext ⟨fun z => z.2, fun z => ⟨⟨h, Nat.le_of_ble_eq_true rfl⟩, z⟩⟩
theorem a_Mo_takesNumber_0 (D : Nat) (c : mC) (Q : mQ) : mAt (mRun D) 324 0 c Q = mWp (mRun D) 324 0 (fun pc c => mAt (mRun D) 324 pc c Q) Q bk_Mo_takesNumber_0 c := mAt_blk rfl
theorem a_Mo_takesNumber_11 (D : Nat) (c : mC) (Q : mQ) : mAt (mRun D) 324 11 c Q = mWp (mRun D) 324 0 (fun pc c => mAt (mRun D) 324 pc c Q) Q bk_Mo_takesNumber_11 c := mAt_blk rfl
theorem e_Mo_takesStop (D : Nat) (x0 : mV) (I : mN) (S : mH) (Q : mQ) (h : mCs [x0] ≤ 1) : mRun (D + 1) 325 [x0] I S Q = mAt (mRun D) 325 0 ([some x0], [], I, S) Q := propext ⟨fun z => z.2, fun z => ⟨⟨h, Nat.le_of_ble_eq_true rfl⟩, z⟩⟩
theorem a_Mo_takesStop_0 (D : Nat) (c : mC) (Q : mQ) : mAt (mRun D) 325 0 c Q = mWp (mRun D) 325 17 (fun pc c => mAt (mRun D) 325 pc c Q) Q bk_Mo_takesStop_0 c := mAt_blk rfl
theorem a_Mo_takesStop_17 (D : Nat) (c : mC) (Q : mQ) : mAt (mRun D) 325 17 c Q = mWp (mRun D) 325 0 (fun pc c => mAt (mRun D) 325 pc c Q) Q bk_Mo_takesStop_17 c := mAt_blk rfl
theorem a_Mo_takesStop_19 (D : Nat) (c : mC) (Q : mQ) : mAt (mRun D) 325 19 c Q = mWp (mRun D) 325 0 (fun pc c => mAt (mRun D) 325 pc c Q) Q bk_Mo_takesStop_19 c := mAt_blk rfl
theorem e_Mo_wordOfToken (D : Nat) (x0 : mV) (I : mN) (S : mH) (Q : mQ) (h : mCs [x0] ≤ 1) : mRun (D + 1) 326 [x0] I S Q = mAt (mRun D) 326 0 ([some x0], [], I, S) Q := propext ⟨fun z => z.2, fun z => ⟨⟨h, Nat.le_of_ble_eq_true rfl⟩, z⟩⟩
theorem a_Mo_wordOfToken_0 (D : Nat) (c : mC) (Q : mQ) : mAt (mRun D) 326 0 c Q = mWp (mRun D) 326 0 (fun pc c => mAt (mRun D) 326 pc c Q) Q bk_Mo_wordOfToken_0 c := mAt_blk rfl
theorem a_Mo_wordOfToken_44 (D : Nat) (c : mC) (Q : mQ) : mAt (mRun D) 326 44 c Q = mWp (mRun D) 326 0 (fun pc c => mAt (mRun D) 326 pc c Q) Q bk_Mo_wordOfToken_44 c := mAt_blk rfl
theorem a_Mo_wordOfToken_48 (D : Nat) (c : mC) (Q : mQ) : mAt (mRun D) 326 48 c Q = mWp (mRun D) 326 0 (fun pc c => mAt (mRun D) 326 pc c Q) Q bk_Mo_wordOfToken_48 c := mAt_blk rfl
theorem a_Mo_wordOfToken_52 (D : Nat) (c : mC) (Q : mQ) : mAt (mRun D) 326 52 c Q = mWp (mRun D) 326 0 (fun pc c => mAt (mRun D) 326 pc c Q) Q bk_Mo_wordOfToken_52 c := mAt_blk rfl
theorem a_Mo_wordOfToken_56 (D : Nat) (c : mC) (Q : mQ) : mAt (mRun D) 326 56 c Q = mWp (mRun D) 326 0 (fun pc c => mAt (mRun D) 326 pc c Q) Q bk_Mo_wordOfToken_56 c := mAt_blk rfl
theorem a_Mo_wordOfToken_60 (D : Nat) (c : mC) (Q : mQ) : mAt (mRun D) 326 60 c Q = mWp (mRun D) 326 0 (fun pc c => mAt (mRun D) 326 pc c Q) Q bk_Mo_wordOfToken_60 c := mAt_blk rfl
theorem a_Mo_wordOfToken_64 (D : Nat) (c : mC) (Q : mQ) : mAt (mRun D) 326 64 c Q = mWp (mRun D) 326 0 (fun pc c => mAt (mRun D) 326 pc c Q) Q bk_Mo_wordOfToken_64 c := mAt_blk rfl
theorem a_Mo_wordOfToken_68 (D : Nat) (c : mC) (Q : mQ) : mAt (mRun D) 326 68 c Q = mWp (mRun D) 326 0 (fun pc c => mAt (mRun D) 326 pc c Q) Q bk_Mo_wordOfToken_68 c := mAt_blk rfl
theorem a_Mo_wordOfToken_72 (D : Nat) (c : mC) (Q : mQ) : mAt (mRun D) 326 72 c Q = mWp (mRun D) 326 0 (fun pc c => mAt (mRun D) 326 pc c Q) Q bk_Mo_wordOfToken_72 c := mAt_blk rfl
theorem e_Mo_tokenOfDecree (D : Nat) (x0 : mV) (I : mN) (S : mH) (Q : mQ) (h : mCs [x0] ≤ 1) : mRun (D + 1) 327 [x0] I S Q = mAt (mRun D) 327 0 ([some x0, none], [], I, S) Q := propext ⟨fun z => z.2, fun z => ⟨⟨h, Nat.le_of_ble_eq_true rfl⟩, z⟩⟩
theorem a_Mo_tokenOfDecree_0 (D : Nat) (c : mC) (Q : mQ) : mAt (mRun D) 327 0 c Q = mWp (mRun D) 327 0 (fun pc c => mAt (mRun D) 327 pc c Q) Q bk_Mo_tokenOfDecree_0 c := mAt_blk rfl
theorem a_Mo_tokenOfDecree_13 (D : Nat) (c : mC) (Q : mQ) : mAt (mRun D) 327 13 c Q = mWp (mRun D) 327 0 (fun pc c => mAt (mRun D) 327 pc c Q) Q bk_Mo_tokenOfDecree_13 c := mAt_blk rfl
theorem a_Mo_tokenOfDecree_29 (D : Nat) (c : mC) (Q : mQ) : mAt (mRun D) 327 29 c Q = mWp (mRun D) 327 33 (fun pc c => mAt (mRun D) 327 pc c Q) Q bk_Mo_tokenOfDecree_29 c := mAt_blk rfl
theorem a_Mo_tokenOfDecree_33 (D : Nat) (c : mC) (Q : mQ) : mAt (mRun D) 327 33 c Q = mWp (mRun D) 327 0 (fun pc c => mAt (mRun D) 327 pc c Q) Q bk_Mo_tokenOfDecree_33 c := mAt_blk rfl
theorem a_Mo_tokenOfDecree_53 (D : Nat) (c : mC) (Q : mQ) : mAt (mRun D) 327 53 c Q = mWp (mRun D) 327 0 (fun pc c => mAt (mRun D) 327 pc c Q) Q bk_Mo_tokenOfDecree_53 c := mAt_blk rfl
theorem a_Mo_tokenOfDecree_59 (D : Nat) (c : mC) (Q : mQ) : mAt (mRun D) 327 59 c Q = mWp (mRun D) 327 0 (fun pc c => mAt (mRun D) 327 pc c Q) Q bk_Mo_tokenOfDecree_59 c := mAt_blk rfl
theorem e_Mo_readsDecree (D : Nat) (x0 : mV) (I : mN) (S : mH) (Q : mQ) (h : mCs [x0] ≤ 1) : mRun (D + 1) 328 [x0] I S Q = mAt (mRun D) 328 0 ([some x0, none], [], I, S) Q := propext ⟨fun z => z.2, fun z => ⟨⟨h, Nat.le_of_ble_eq_true rfl⟩, z⟩⟩
theorem a_Mo_readsDecree_0 (D : Nat) (c : mC) (Q : mQ) : mAt (mRun D) 328 0 c Q = mWp (mRun D) 328 20 (fun pc c => mAt (mRun D) 328 pc c Q) Q bk_Mo_readsDecree_0 c := mAt_blk rfl
theorem a_Mo_readsDecree_20 (D : Nat) (c : mC) (Q : mQ) : mAt (mRun D) 328 20 c Q = mWp (mRun D) 328 0 (fun pc c => mAt (mRun D) 328 pc c Q) Q bk_Mo_readsDecree_20 c := mAt_blk rfl
theorem a_Mo_readsDecree_44 (D : Nat) (c : mC) (Q : mQ) : mAt (mRun D) 328 44 c Q = mWp (mRun D) 328 0 (fun pc c => mAt (mRun D) 328 pc c Q) Q bk_Mo_readsDecree_44 c := mAt_blk rfl
theorem a_Mo_readsDecree_76 (D : Nat) (c : mC) (Q : mQ) : mAt (mRun D) 328 76 c Q = mWp (mRun D) 328 0 (fun pc c => mAt (mRun D) 328 pc c Q) Q bk_Mo_readsDecree_76 c := mAt_blk rfl
theorem e_Mo_laysDecree (D : Nat) (x0 x1 x2 : mV) (I : mN) (S : mH) (Q : mQ) (h : mCs [x0, x1, x2] ≤ 3) : mRun (D + 1) 329 [x0, x1, x2] I S Q = mAt (mRun D) 329 0 ([some x0, some x1, some x2, none, none], [], I, S) Q := propext ⟨fun z => z.2, fun z => ⟨⟨h, Nat.le_of_ble_eq_true rfl⟩, z⟩⟩
theorem a_Mo_laysDecree_0 (D : Nat) (c : mC) (Q : mQ) : mAt (mRun D) 329 0 c Q = mWp (mRun D) 329 22 (fun pc c => mAt (mRun D) 329 pc c Q) Q bk_Mo_laysDecree_0 c := mAt_blk rfl
theorem a_Mo_laysDecree_22 (D : Nat) (c : mC) (Q : mQ) : mAt (mRun D) 329 22 c Q = mWp (mRun D) 329 0 (fun pc c => mAt (mRun D) 329 pc c Q) Q bk_Mo_laysDecree_22 c := mAt_blk rfl
theorem a_Mo_laysDecree_56 (D : Nat) (c : mC) (Q : mQ) : mAt (mRun D) 329 56 c Q = mWp (mRun D) 329 57 (fun pc c => mAt (mRun D) 329 pc c Q) Q bk_Mo_laysDecree_56 c := mAt_blk rfl
theorem a_Mo_laysDecree_57 (D : Nat) (c : mC) (Q : mQ) : mAt (mRun D) 329 57 c Q = mWp (mRun D) 329 0 (fun pc c => mAt (mRun D) 329 pc c Q) Q bk_Mo_laysDecree_57 c := mAt_blk rfl
theorem a_Mo_laysDecree_64 (D : Nat) (c : mC) (Q : mQ) : mAt (mRun D) 329 64 c Q = mWp (mRun D) 329 0 (fun pc c => mAt (mRun D) 329 pc c Q) Q bk_Mo_laysDecree_64 c := mAt_blk rfl
theorem e_Mo_setDecree (D : Nat) (x0 x1 : mV) (I : mN) (S : mH) (Q : mQ) (h : mCs [x0, x1] ≤ 2) : mRun (D + 1) 330 [x0, x1] I S Q = mAt (mRun D) 330 0 ([some x0, some x1, none, none], [], I, S) Q := propext ⟨fun z => z.2, fun z => ⟨⟨h, Nat.le_of_ble_eq_true rfl⟩, z⟩⟩
theorem a_Mo_setDecree_0 (D : Nat) (c : mC) (Q : mQ) : mAt (mRun D) 330 0 c Q = mWp (mRun D) 330 0 (fun pc c => mAt (mRun D) 330 pc c Q) Q bk_Mo_setDecree_0 c := mAt_blk rfl
theorem a_Mo_setDecree_38 (D : Nat) (c : mC) (Q : mQ) : mAt (mRun D) 330 38 c Q = mWp (mRun D) 330 39 (fun pc c => mAt (mRun D) 330 pc c Q) Q bk_Mo_setDecree_38 c := mAt_blk rfl
theorem a_Mo_setDecree_39 (D : Nat) (c : mC) (Q : mQ) : mAt (mRun D) 330 39 c Q = mWp (mRun D) 330 0 (fun pc c => mAt (mRun D) 330 pc c Q) Q bk_Mo_setDecree_39 c := mAt_blk rfl
theorem a_Mo_setDecree_47 (D : Nat) (c : mC) (Q : mQ) : mAt (mRun D) 330 47 c Q = mWp (mRun D) 330 82 (fun pc c => mAt (mRun D) 330 pc c Q) Q bk_Mo_setDecree_47 c := mAt_blk rfl
theorem a_Mo_setDecree_82 (D : Nat) (c : mC) (Q : mQ) : mAt (mRun D) 330 82 c Q = mWp (mRun D) 330 0 (fun pc c => mAt (mRun D) 330 pc c Q) Q bk_Mo_setDecree_82 c := mAt_blk rfl
theorem a_Mo_setDecree_86 (D : Nat) (c : mC) (Q : mQ) : mAt (mRun D) 330 86 c Q = mWp (mRun D) 330 87 (fun pc c => mAt (mRun D) 330 pc c Q) Q bk_Mo_setDecree_86 c := mAt_blk rfl
theorem a_Mo_setDecree_87 (D : Nat) (c : mC) (Q : mQ) : mAt (mRun D) 330 87 c Q = mWp (mRun D) 330 0 (fun pc c => mAt (mRun D) 330 pc c Q) Q bk_Mo_setDecree_87 c := mAt_blk rfl
theorem a_Mo_setDecree_97 (D : Nat) (c : mC) (Q : mQ) : mAt (mRun D) 330 97 c Q = mWp (mRun D) 330 101 (fun pc c => mAt (mRun D) 330 pc c Q) Q bk_Mo_setDecree_97 c := mAt_blk rfl
theorem a_Mo_setDecree_101 (D : Nat) (c : mC) (Q : mQ) : mAt (mRun D) 330 101 c Q = mWp (mRun D) 330 0 (fun pc c => mAt (mRun D) 330 pc c Q) Q bk_Mo_setDecree_101 c := mAt_blk rfl
theorem a_Mo_setDecree_119 (D : Nat) (c : mC) (Q : mQ) : mAt (mRun D) 330 119 c Q = mWp (mRun D) 330 0 (fun pc c => mAt (mRun D) 330 pc c Q) Q bk_Mo_setDecree_119 c := mAt_blk rfl
theorem e_Mo_readsPlace (D : Nat) (x0 : mV) (I : mN) (S : mH) (Q : mQ) (h : mCs [x0] ≤ 1) : mRun (D + 1) 331 [x0] I S Q = mAt (mRun D) 331 0 ([some x0, none], [], I, S) Q := propext ⟨fun z => z.2, fun z => ⟨⟨h, Nat.le_of_ble_eq_true rfl⟩, z⟩⟩
theorem a_Mo_readsPlace_0 (D : Nat) (c : mC) (Q : mQ) : mAt (mRun D) 331 0 c Q = mWp (mRun D) 331 0 (fun pc c => mAt (mRun D) 331 pc c Q) Q bk_Mo_readsPlace_0 c := mAt_blk rfl
theorem a_Mo_readsPlace_15 (D : Nat) (c : mC) (Q : mQ) : mAt (mRun D) 331 15 c Q = mWp (mRun D) 331 0 (fun pc c => mAt (mRun D) 331 pc c Q) Q bk_Mo_readsPlace_15 c := mAt_blk rfl
theorem a_Mo_readsPlace_31 (D : Nat) (c : mC) (Q : mQ) : mAt (mRun D) 331 31 c Q = mWp (mRun D) 331 0 (fun pc c => mAt (mRun D) 331 pc c Q) Q bk_Mo_readsPlace_31 c := mAt_blk rfl
theorem a_Mo_readsPlace_65 (D : Nat) (c : mC) (Q : mQ) : mAt (mRun D) 331 65 c Q = mWp (mRun D) 331 0 (fun pc c => mAt (mRun D) 331 pc c Q) Q bk_Mo_readsPlace_65 c := mAt_blk rfl
theorem e_Mo_readsReach (D : Nat) (x0 : mV) (I : mN) (S : mH) (Q : mQ) (h : mCs [x0] ≤ 1) : mRun (D + 1) 332 [x0] I S Q = mAt (mRun D) 332 0 ([some x0, none, none, none, none], [], I, S) Q := propext ⟨fun z => z.2, fun z => ⟨⟨h, Nat.le_of_ble_eq_true rfl⟩, z⟩⟩
theorem a_Mo_readsReach_0 (D : Nat) (c : mC) (Q : mQ) : mAt (mRun D) 332 0 c Q = mWp (mRun D) 332 0 (fun pc c => mAt (mRun D) 332 pc c Q) Q bk_Mo_readsReach_0 c := mAt_blk rfl
theorem a_Mo_readsReach_26 (D : Nat) (c : mC) (Q : mQ) : mAt (mRun D) 332 26 c Q = mWp (mRun D) 332 0 (fun pc c => mAt (mRun D) 332 pc c Q) Q bk_Mo_readsReach_26 c := mAt_blk rfl
theorem a_Mo_readsReach_48 (D : Nat) (c : mC) (Q : mQ) : mAt (mRun D) 332 48 c Q = mWp (mRun D) 332 77 (fun pc c => mAt (mRun D) 332 pc c Q) Q bk_Mo_readsReach_48 c := mAt_blk rfl
theorem a_Mo_readsReach_77 (D : Nat) (c : mC) (Q : mQ) : mAt (mRun D) 332 77 c Q = mWp (mRun D) 332 0 (fun pc c => mAt (mRun D) 332 pc c Q) Q bk_Mo_readsReach_77 c := mAt_blk rfl
theorem a_Mo_readsReach_79 (D : Nat) (c : mC) (Q : mQ) : mAt (mRun D) 332 79 c Q = mWp (mRun D) 332 0 (fun pc c => mAt (mRun D) 332 pc c Q) Q bk_Mo_readsReach_79 c := mAt_blk rfl
theorem a_Mo_readsReach_96 (D : Nat) (c : mC) (Q : mQ) : mAt (mRun D) 332 96 c Q = mWp (mRun D) 332 99 (fun pc c => mAt (mRun D) 332 pc c Q) Q bk_Mo_readsReach_96 c := mAt_blk rfl
theorem a_Mo_readsReach_99 (D : Nat) (c : mC) (Q : mQ) : mAt (mRun D) 332 99 c Q = mWp (mRun D) 332 0 (fun pc c => mAt (mRun D) 332 pc c Q) Q bk_Mo_readsReach_99 c := mAt_blk rfl
theorem a_Mo_readsReach_127 (D : Nat) (c : mC) (Q : mQ) : mAt (mRun D) 332 127 c Q = mWp (mRun D) 332 0 (fun pc c => mAt (mRun D) 332 pc c Q) Q bk_Mo_readsReach_127 c := mAt_blk rfl
theorem a_Mo_readsReach_138 (D : Nat) (c : mC) (Q : mQ) : mAt (mRun D) 332 138 c Q = mWp (mRun D) 332 0 (fun pc c => mAt (mRun D) 332 pc c Q) Q bk_Mo_readsReach_138 c := mAt_blk rfl
theorem e_Mo_readsWeeks (D : Nat) (x0 x1 : mV) (I : mN) (S : mH) (Q : mQ) (h : mCs [x0, x1] ≤ 2) : mRun (D + 1) 333 [x0, x1] I S Q = mAt (mRun D) 333 0 ([some x0, some x1, none], [], I, S) Q := propext ⟨fun z => z.2, fun z => ⟨⟨h, Nat.le_of_ble_eq_true rfl⟩, z⟩⟩
theorem a_Mo_readsWeeks_0 (D : Nat) (c : mC) (Q : mQ) : mAt (mRun D) 333 0 c Q = mWp (mRun D) 333 0 (fun pc c => mAt (mRun D) 333 pc c Q) Q bk_Mo_readsWeeks_0 c := mAt_blk rfl
theorem a_Mo_readsWeeks_26 (D : Nat) (c : mC) (Q : mQ) : mAt (mRun D) 333 26 c Q = mWp (mRun D) 333 0 (fun pc c => mAt (mRun D) 333 pc c Q) Q bk_Mo_readsWeeks_26 c := mAt_blk rfl
theorem a_Mo_readsWeeks_43 (D : Nat) (c : mC) (Q : mQ) : mAt (mRun D) 333 43 c Q = mWp (mRun D) 333 0 (fun pc c => mAt (mRun D) 333 pc c Q) Q bk_Mo_readsWeeks_43 c := mAt_blk rfl
theorem a_Mo_readsWeeks_60 (D : Nat) (c : mC) (Q : mQ) : mAt (mRun D) 333 60 c Q = mWp (mRun D) 333 0 (fun pc c => mAt (mRun D) 333 pc c Q) Q bk_Mo_readsWeeks_60 c := mAt_blk rfl
theorem e_Mo_readsRight (D : Nat) (x0 : mV) (I : mN) (S : mH) (Q : mQ) (h : mCs [x0] ≤ 1) : mRun (D + 1) 334 [x0] I S Q = mAt (mRun D) 334 0 ([some x0, none, none, none, none], [], I, S) Q := propext ⟨fun z => z.2, fun z => ⟨⟨h, Nat.le_of_ble_eq_true rfl⟩, z⟩⟩
theorem a_Mo_readsRight_0 (D : Nat) (c : mC) (Q : mQ) : mAt (mRun D) 334 0 c Q = mWp (mRun D) 334 0 (fun pc c => mAt (mRun D) 334 pc c Q) Q bk_Mo_readsRight_0 c := mAt_blk rfl
theorem a_Mo_readsRight_13 (D : Nat) (c : mC) (Q : mQ) : mAt (mRun D) 334 13 c Q = mWp (mRun D) 334 0 (fun pc c => mAt (mRun D) 334 pc c Q) Q bk_Mo_readsRight_13 c := mAt_blk rfl
theorem a_Mo_readsRight_35 (D : Nat) (c : mC) (Q : mQ) : mAt (mRun D) 334 35 c Q = mWp (mRun D) 334 0 (fun pc c => mAt (mRun D) 334 pc c Q) Q bk_Mo_readsRight_35 c := mAt_blk rfl
theorem a_Mo_readsRight_55 (D : Nat) (c : mC) (Q : mQ) : mAt (mRun D) 334 55 c Q = mWp (mRun D) 334 0 (fun pc c => mAt (mRun D) 334 pc c Q) Q bk_Mo_readsRight_55 c := mAt_blk rfl
theorem a_Mo_readsRight_72 (D : Nat) (c : mC) (Q : mQ) : mAt (mRun D) 334 72 c Q = mWp (mRun D) 334 89 (fun pc c => mAt (mRun D) 334 pc c Q) Q bk_Mo_readsRight_72 c := mAt_blk rfl
theorem a_Mo_readsRight_89 (D : Nat) (c : mC) (Q : mQ) : mAt (mRun D) 334 89 c Q = mWp (mRun D) 334 124 (fun pc c => mAt (mRun D) 334 pc c Q) Q bk_Mo_readsRight_89 c := mAt_blk rfl
theorem a_Mo_readsRight_124 (D : Nat) (c : mC) (Q : mQ) : mAt (mRun D) 334 124 c Q = mWp (mRun D) 334 0 (fun pc c => mAt (mRun D) 334 pc c Q) Q bk_Mo_readsRight_124 c := mAt_blk rfl
theorem a_Mo_readsRight_134 (D : Nat) (c : mC) (Q : mQ) : mAt (mRun D) 334 134 c Q = mWp (mRun D) 334 0 (fun pc c => mAt (mRun D) 334 pc c Q) Q bk_Mo_readsRight_134 c := mAt_blk rfl
theorem e_Mo_readsMore (D : Nat) (x0 x1 : mV) (I : mN) (S : mH) (Q : mQ) (h : mCs [x0, x1] ≤ 2) : mRun (D + 1) 335 [x0, x1] I S Q = mAt (mRun D) 335 0 ([some x0, some x1, none, none, none, none], [], I, S) Q := propext ⟨fun z => z.2, fun z => ⟨⟨h, Nat.le_of_ble_eq_true rfl⟩, z⟩⟩
theorem a_Mo_readsMore_0 (D : Nat) (c : mC) (Q : mQ) : mAt (mRun D) 335 0 c Q = mWp (mRun D) 335 0 (fun pc c => mAt (mRun D) 335 pc c Q) Q bk_Mo_readsMore_0 c := mAt_blk rfl
theorem a_Mo_readsMore_36 (D : Nat) (c : mC) (Q : mQ) : mAt (mRun D) 335 36 c Q = mWp (mRun D) 335 0 (fun pc c => mAt (mRun D) 335 pc c Q) Q bk_Mo_readsMore_36 c := mAt_blk rfl
theorem a_Mo_readsMore_50 (D : Nat) (c : mC) (Q : mQ) : mAt (mRun D) 335 50 c Q = mWp (mRun D) 335 0 (fun pc c => mAt (mRun D) 335 pc c Q) Q bk_Mo_readsMore_50 c := mAt_blk rfl
theorem a_Mo_readsMore_73 (D : Nat) (c : mC) (Q : mQ) : mAt (mRun D) 335 73 c Q = mWp (mRun D) 335 0 (fun pc c => mAt (mRun D) 335 pc c Q) Q bk_Mo_readsMore_73 c := mAt_blk rfl
theorem a_Mo_readsMore_84 (D : Nat) (c : mC) (Q : mQ) : mAt (mRun D) 335 84 c Q = mWp (mRun D) 335 0 (fun pc c => mAt (mRun D) 335 pc c Q) Q bk_Mo_readsMore_84 c := mAt_blk rfl
theorem a_Mo_readsMore_100 (D : Nat) (c : mC) (Q : mQ) : mAt (mRun D) 335 100 c Q = mWp (mRun D) 335 0 (fun pc c => mAt (mRun D) 335 pc c Q) Q bk_Mo_readsMore_100 c := mAt_blk rfl
theorem a_Mo_readsMore_117 (D : Nat) (c : mC) (Q : mQ) : mAt (mRun D) 335 117 c Q = mWp (mRun D) 335 0 (fun pc c => mAt (mRun D) 335 pc c Q) Q bk_Mo_readsMore_117 c := mAt_blk rfl
theorem a_Mo_readsMore_135 (D : Nat) (c : mC) (Q : mQ) : mAt (mRun D) 335 135 c Q = mWp (mRun D) 335 138 (fun pc c => mAt (mRun D) 335 pc c Q) Q bk_Mo_readsMore_135 c := mAt_blk rfl
theorem a_Mo_readsMore_138 (D : Nat) (c : mC) (Q : mQ) : mAt (mRun D) 335 138 c Q = mWp (mRun D) 335 0 (fun pc c => mAt (mRun D) 335 pc c Q) Q bk_Mo_readsMore_138 c := mAt_blk rfl
theorem a_Mo_readsMore_167 (D : Nat) (c : mC) (Q : mQ) : mAt (mRun D) 335 167 c Q = mWp (mRun D) 335 0 (fun pc c => mAt (mRun D) 335 pc c Q) Q bk_Mo_readsMore_167 c := mAt_blk rfl
theorem e_Mo_readsInflow (D : Nat) (x0 : mV) (I : mN) (S : mH) (Q : mQ) (h : mCs [x0] ≤ 1) : mRun (D + 1) 336 [x0] I S Q = mAt (mRun D) 336 0 ([some x0, none, none], [], I, S) Q := propext ⟨fun z => z.2, fun z => ⟨⟨h, Nat.le_of_ble_eq_true rfl⟩, z⟩⟩
theorem a_Mo_readsInflow_0 (D : Nat) (c : mC) (Q : mQ) : mAt (mRun D) 336 0 c Q = mWp (mRun D) 336 0 (fun pc c => mAt (mRun D) 336 pc c Q) Q bk_Mo_readsInflow_0 c := mAt_blk rfl
theorem a_Mo_readsInflow_15 (D : Nat) (c : mC) (Q : mQ) : mAt (mRun D) 336 15 c Q = mWp (mRun D) 336 0 (fun pc c => mAt (mRun D) 336 pc c Q) Q bk_Mo_readsInflow_15 c := mAt_blk rfl
theorem a_Mo_readsInflow_44 (D : Nat) (c : mC) (Q : mQ) : mAt (mRun D) 336 44 c Q = mWp (mRun D) 336 0 (fun pc c => mAt (mRun D) 336 pc c Q) Q bk_Mo_readsInflow_44 c := mAt_blk rfl
theorem a_Mo_readsInflow_66 (D : Nat) (c : mC) (Q : mQ) : mAt (mRun D) 336 66 c Q = mWp (mRun D) 336 78 (fun pc c => mAt (mRun D) 336 pc c Q) Q bk_Mo_readsInflow_66 c := mAt_blk rfl
theorem a_Mo_readsInflow_78 (D : Nat) (c : mC) (Q : mQ) : mAt (mRun D) 336 78 c Q = mWp (mRun D) 336 0 (fun pc c => mAt (mRun D) 336 pc c Q) Q bk_Mo_readsInflow_78 c := mAt_blk rfl
theorem a_Mo_readsInflow_104 (D : Nat) (c : mC) (Q : mQ) : mAt (mRun D) 336 104 c Q = mWp (mRun D) 336 0 (fun pc c => mAt (mRun D) 336 pc c Q) Q bk_Mo_readsInflow_104 c := mAt_blk rfl
theorem a_Mo_readsInflow_122 (D : Nat) (c : mC) (Q : mQ) : mAt (mRun D) 336 122 c Q = mWp (mRun D) 336 0 (fun pc c => mAt (mRun D) 336 pc c Q) Q bk_Mo_readsInflow_122 c := mAt_blk rfl
theorem e_Mo_readsStatement (D : Nat) (x0 : mV) (I : mN) (S : mH) (Q : mQ) (h : mCs [x0] ≤ 1) : mRun (D + 1) 337 [x0] I S Q = mAt (mRun D) 337 0 ([some x0], [], I, S) Q := propext ⟨fun z => z.2, fun z => ⟨⟨h, Nat.le_of_ble_eq_true rfl⟩, z⟩⟩
theorem a_Mo_readsStatement_0 (D : Nat) (c : mC) (Q : mQ) : mAt (mRun D) 337 0 c Q = mWp (mRun D) 337 0 (fun pc c => mAt (mRun D) 337 pc c Q) Q bk_Mo_readsStatement_0 c := mAt_blk rfl
theorem a_Mo_readsStatement_15 (D : Nat) (c : mC) (Q : mQ) : mAt (mRun D) 337 15 c Q = mWp (mRun D) 337 0 (fun pc c => mAt (mRun D) 337 pc c Q) Q bk_Mo_readsStatement_15 c := mAt_blk rfl
theorem a_Mo_readsStatement_30 (D : Nat) (c : mC) (Q : mQ) : mAt (mRun D) 337 30 c Q = mWp (mRun D) 337 0 (fun pc c => mAt (mRun D) 337 pc c Q) Q bk_Mo_readsStatement_30 c := mAt_blk rfl
theorem a_Mo_readsStatement_45 (D : Nat) (c : mC) (Q : mQ) : mAt (mRun D) 337 45 c Q = mWp (mRun D) 337 0 (fun pc c => mAt (mRun D) 337 pc c Q) Q bk_Mo_readsStatement_45 c := mAt_blk rfl
theorem a_Mo_readsStatement_66 (D : Nat) (c : mC) (Q : mQ) : mAt (mRun D) 337 66 c Q = mWp (mRun D) 337 67 (fun pc c => mAt (mRun D) 337 pc c Q) Q bk_Mo_readsStatement_66 c := mAt_blk rfl
theorem a_Mo_readsStatement_67 (D : Nat) (c : mC) (Q : mQ) : mAt (mRun D) 337 67 c Q = mWp (mRun D) 337 0 (fun pc c => mAt (mRun D) 337 pc c Q) Q bk_Mo_readsStatement_67 c := mAt_blk rfl
theorem e_Mo_readsBuffer (D : Nat) (x0 : mV) (I : mN) (S : mH) (Q : mQ) (h : mCs [x0] ≤ 1) : mRun (D + 1) 338 [x0] I S Q = mAt (mRun D) 338 0 ([some x0, none], [], I, S) Q := propext ⟨fun z => z.2, fun z => ⟨⟨h, Nat.le_of_ble_eq_true rfl⟩, z⟩⟩
theorem a_Mo_readsBuffer_0 (D : Nat) (c : mC) (Q : mQ) : mAt (mRun D) 338 0 c Q = mWp (mRun D) 338 2 (fun pc c => mAt (mRun D) 338 pc c Q) Q bk_Mo_readsBuffer_0 c := mAt_blk rfl
theorem a_Mo_readsBuffer_2 (D : Nat) (c : mC) (Q : mQ) : mAt (mRun D) 338 2 c Q = mWp (mRun D) 338 0 (fun pc c => mAt (mRun D) 338 pc c Q) Q bk_Mo_readsBuffer_2 c := mAt_blk rfl
theorem a_Mo_readsBuffer_22 (D : Nat) (c : mC) (Q : mQ) : mAt (mRun D) 338 22 c Q = mWp (mRun D) 338 52 (fun pc c => mAt (mRun D) 338 pc c Q) Q bk_Mo_readsBuffer_22 c := mAt_blk rfl
theorem a_Mo_readsBuffer_52 (D : Nat) (c : mC) (Q : mQ) : mAt (mRun D) 338 52 c Q = mWp (mRun D) 338 0 (fun pc c => mAt (mRun D) 338 pc c Q) Q bk_Mo_readsBuffer_52 c := mAt_blk rfl
theorem a_Mo_readsBuffer_81 (D : Nat) (c : mC) (Q : mQ) : mAt (mRun D) 338 81 c Q = mWp (mRun D) 338 82 (fun pc c => mAt (mRun D) 338 pc c Q) Q bk_Mo_readsBuffer_81 c := mAt_blk rfl
theorem a_Mo_readsBuffer_82 (D : Nat) (c : mC) (Q : mQ) : mAt (mRun D) 338 82 c Q = mWp (mRun D) 338 0 (fun pc c => mAt (mRun D) 338 pc c Q) Q bk_Mo_readsBuffer_82 c := mAt_blk rfl
theorem a_Mo_readsBuffer_86 (D : Nat) (c : mC) (Q : mQ) : mAt (mRun D) 338 86 c Q = mWp (mRun D) 338 0 (fun pc c => mAt (mRun D) 338 pc c Q) Q bk_Mo_readsBuffer_86 c := mAt_blk rfl
theorem a_Mo_readsBuffer_95 (D : Nat) (c : mC) (Q : mQ) : mAt (mRun D) 338 95 c Q = mWp (mRun D) 338 99 (fun pc c => mAt (mRun D) 338 pc c Q) Q bk_Mo_readsBuffer_95 c := mAt_blk rfl
theorem a_Mo_readsBuffer_99 (D : Nat) (c : mC) (Q : mQ) : mAt (mRun D) 338 99 c Q = mWp (mRun D) 338 0 (fun pc c => mAt (mRun D) 338 pc c Q) Q bk_Mo_readsBuffer_99 c := mAt_blk rfl
theorem e_Mo_copiesDraft (D : Nat) (x0 : mV) (I : mN) (S : mH) (Q : mQ) (h : mCs [x0] ≤ 1) : mRun (D + 1) 339 [x0] I S Q = mAt (mRun D) 339 0 ([some x0, none], [], I, S) Q := propext ⟨fun z => z.2, fun z => ⟨⟨h, Nat.le_of_ble_eq_true rfl⟩, z⟩⟩
theorem a_Mo_copiesDraft_0 (D : Nat) (c : mC) (Q : mQ) : mAt (mRun D) 339 0 c Q = mWp (mRun D) 339 2 (fun pc c => mAt (mRun D) 339 pc c Q) Q bk_Mo_copiesDraft_0 c := mAt_blk rfl
theorem a_Mo_copiesDraft_2 (D : Nat) (c : mC) (Q : mQ) : mAt (mRun D) 339 2 c Q = mWp (mRun D) 339 0 (fun pc c => mAt (mRun D) 339 pc c Q) Q bk_Mo_copiesDraft_2 c := mAt_blk rfl
theorem a_Mo_copiesDraft_27 (D : Nat) (c : mC) (Q : mQ) : mAt (mRun D) 339 27 c Q = mWp (mRun D) 339 0 (fun pc c => mAt (mRun D) 339 pc c Q) Q bk_Mo_copiesDraft_27 c := mAt_blk rfl
theorem e_Mo_readBasin (D : Nat) (x0 : mV) (I : mN) (S : mH) (Q : mQ) (h : mCs [x0] ≤ 1) : mRun (D + 1) 340 [x0] I S Q = mAt (mRun D) 340 0 ([some x0], [], I, S) Q := propext ⟨fun z => z.2, fun z => ⟨⟨h, Nat.le_of_ble_eq_true rfl⟩, z⟩⟩
theorem a_Mo_readBasin_0 (D : Nat) (c : mC) (Q : mQ) : mAt (mRun D) 340 0 c Q = mWp (mRun D) 340 0 (fun pc c => mAt (mRun D) 340 pc c Q) Q bk_Mo_readBasin_0 c := mAt_blk rfl
theorem a_Mo_readBasin_13 (D : Nat) (c : mC) (Q : mQ) : mAt (mRun D) 340 13 c Q = mWp (mRun D) 340 0 (fun pc c => mAt (mRun D) 340 pc c Q) Q bk_Mo_readBasin_13 c := mAt_blk rfl
theorem e_Mo_beginsBasin (D : Nat) (x0 : mV) (I : mN) (S : mH) (Q : mQ) (h : mCs [x0] ≤ 1) : mRun (D + 1) 341 [x0] I S Q = mAt (mRun D) 341 0 ([some x0, none, none], [], I, S) Q := propext ⟨fun z => z.2, fun z => ⟨⟨h, Nat.le_of_ble_eq_true rfl⟩, z⟩⟩
theorem a_Mo_beginsBasin_0 (D : Nat) (c : mC) (Q : mQ) : mAt (mRun D) 341 0 c Q = mWp (mRun D) 341 6 (fun pc c => mAt (mRun D) 341 pc c Q) Q bk_Mo_beginsBasin_0 c := mAt_blk rfl
theorem a_Mo_beginsBasin_6 (D : Nat) (c : mC) (Q : mQ) : mAt (mRun D) 341 6 c Q = mWp (mRun D) 341 0 (fun pc c => mAt (mRun D) 341 pc c Q) Q bk_Mo_beginsBasin_6 c := mAt_blk rfl
theorem a_Mo_beginsBasin_31 (D : Nat) (c : mC) (Q : mQ) : mAt (mRun D) 341 31 c Q = mWp (mRun D) 341 52 (fun pc c => mAt (mRun D) 341 pc c Q) Q bk_Mo_beginsBasin_31 c := mAt_blk rfl
theorem a_Mo_beginsBasin_52 (D : Nat) (c : mC) (Q : mQ) : mAt (mRun D) 341 52 c Q = mWp (mRun D) 341 0 (fun pc c => mAt (mRun D) 341 pc c Q) Q bk_Mo_beginsBasin_52 c := mAt_blk rfl
theorem e_Mo_writesByte (D : Nat) (x0 x1 : mV) (I : mN) (S : mH) (Q : mQ) (h : mCs [x0, x1] ≤ 2) : mRun (D + 1) 342 [x0, x1] I S Q = mAt (mRun D) 342 0 ([some x0, some x1], [], I, S) Q := propext ⟨fun z => z.2, fun z => ⟨⟨h, Nat.le_of_ble_eq_true rfl⟩, z⟩⟩
theorem a_Mo_writesByte_0 (D : Nat) (c : mC) (Q : mQ) : mAt (mRun D) 342 0 c Q = mWp (mRun D) 342 0 (fun pc c => mAt (mRun D) 342 pc c Q) Q bk_Mo_writesByte_0 c := mAt_blk rfl
theorem e_Mo_writesSpace (D : Nat) (x0 : mV) (I : mN) (S : mH) (Q : mQ) (h : mCs [x0] ≤ 1) : mRun (D + 1) 343 [x0] I S Q = mAt (mRun D) 343 0 ([some x0], [], I, S) Q := propext ⟨fun z => z.2, fun z => ⟨⟨h, Nat.le_of_ble_eq_true rfl⟩, z⟩⟩
theorem a_Mo_writesSpace_0 (D : Nat) (c : mC) (Q : mQ) : mAt (mRun D) 343 0 c Q = mWp (mRun D) 343 29 (fun pc c => mAt (mRun D) 343 pc c Q) Q bk_Mo_writesSpace_0 c := mAt_blk rfl
theorem a_Mo_writesSpace_29 (D : Nat) (c : mC) (Q : mQ) : mAt (mRun D) 343 29 c Q = mWp (mRun D) 343 0 (fun pc c => mAt (mRun D) 343 pc c Q) Q bk_Mo_writesSpace_29 c := mAt_blk rfl
theorem e_Mo_writesWord (D : Nat) (x0 x1 : mV) (I : mN) (S : mH) (Q : mQ) (h : mCs [x0, x1] ≤ 2) : mRun (D + 1) 344 [x0, x1] I S Q = mAt (mRun D) 344 0 ([some x0, some x1, none], [], I, S) Q := propext ⟨fun z => z.2, fun z => ⟨⟨h, Nat.le_of_ble_eq_true rfl⟩, z⟩⟩
theorem a_Mo_writesWord_0 (D : Nat) (c : mC) (Q : mQ) : mAt (mRun D) 344 0 c Q = mWp (mRun D) 344 6 (fun pc c => mAt (mRun D) 344 pc c Q) Q bk_Mo_writesWord_0 c := mAt_blk rfl
theorem a_Mo_writesWord_6 (D : Nat) (c : mC) (Q : mQ) : mAt (mRun D) 344 6 c Q = mWp (mRun D) 344 0 (fun pc c => mAt (mRun D) 344 pc c Q) Q bk_Mo_writesWord_6 c := mAt_blk rfl
theorem a_Mo_writesWord_29 (D : Nat) (c : mC) (Q : mQ) : mAt (mRun D) 344 29 c Q = mWp (mRun D) 344 0 (fun pc c => mAt (mRun D) 344 pc c Q) Q bk_Mo_writesWord_29 c := mAt_blk rfl
theorem e_Mo_writesNumber (D : Nat) (x0 x1 : mV) (I : mN) (S : mH) (Q : mQ) (h : mCs [x0, x1] ≤ 2) : mRun (D + 1) 345 [x0, x1] I S Q = mAt (mRun D) 345 0 ([some x0, some x1, none, none], [], I, S) Q := propext ⟨fun z => z.2, fun z => ⟨⟨h, Nat.le_of_ble_eq_true rfl⟩, z⟩⟩
theorem a_Mo_writesNumber_0 (D : Nat) (c : mC) (Q : mQ) : mAt (mRun D) 345 0 c Q = mWp (mRun D) 345 0 (fun pc c => mAt (mRun D) 345 pc c Q) Q bk_Mo_writesNumber_0 c := mAt_blk rfl
theorem a_Mo_writesNumber_17 (D : Nat) (c : mC) (Q : mQ) : mAt (mRun D) 345 17 c Q = mWp (mRun D) 345 0 (fun pc c => mAt (mRun D) 345 pc c Q) Q bk_Mo_writesNumber_17 c := mAt_blk rfl
theorem a_Mo_writesNumber_28 (D : Nat) (c : mC) (Q : mQ) : mAt (mRun D) 345 28 c Q = mWp (mRun D) 345 0 (fun pc c => mAt (mRun D) 345 pc c Q) Q bk_Mo_writesNumber_28 c := mAt_blk rfl
theorem a_Mo_writesNumber_39 (D : Nat) (c : mC) (Q : mQ) : mAt (mRun D) 345 39 c Q = mWp (mRun D) 345 40 (fun pc c => mAt (mRun D) 345 pc c Q) Q bk_Mo_writesNumber_39 c := mAt_blk rfl
theorem a_Mo_writesNumber_40 (D : Nat) (c : mC) (Q : mQ) : mAt (mRun D) 345 40 c Q = mWp (mRun D) 345 43 (fun pc c => mAt (mRun D) 345 pc c Q) Q bk_Mo_writesNumber_40 c := mAt_blk rfl
theorem a_Mo_writesNumber_43 (D : Nat) (c : mC) (Q : mQ) : mAt (mRun D) 345 43 c Q = mWp (mRun D) 345 0 (fun pc c => mAt (mRun D) 345 pc c Q) Q bk_Mo_writesNumber_43 c := mAt_blk rfl
theorem a_Mo_writesNumber_68 (D : Nat) (c : mC) (Q : mQ) : mAt (mRun D) 345 68 c Q = mWp (mRun D) 345 0 (fun pc c => mAt (mRun D) 345 pc c Q) Q bk_Mo_writesNumber_68 c := mAt_blk rfl
theorem e_Mo_writesToken (D : Nat) (x0 x1 : mV) (I : mN) (S : mH) (Q : mQ) (h : mCs [x0, x1] ≤ 2) : mRun (D + 1) 346 [x0, x1] I S Q = mAt (mRun D) 346 0 ([some x0, some x1], [], I, S) Q := propext ⟨fun z => z.2, fun z => ⟨⟨h, Nat.le_of_ble_eq_true rfl⟩, z⟩⟩
theorem a_Mo_writesToken_0 (D : Nat) (c : mC) (Q : mQ) : mAt (mRun D) 346 0 c Q = mWp (mRun D) 346 0 (fun pc c => mAt (mRun D) 346 pc c Q) Q bk_Mo_writesToken_0 c := mAt_blk rfl
theorem a_Mo_writesToken_15 (D : Nat) (c : mC) (Q : mQ) : mAt (mRun D) 346 15 c Q = mWp (mRun D) 346 0 (fun pc c => mAt (mRun D) 346 pc c Q) Q bk_Mo_writesToken_15 c := mAt_blk rfl
theorem a_Mo_writesToken_44 (D : Nat) (c : mC) (Q : mQ) : mAt (mRun D) 346 44 c Q = mWp (mRun D) 346 52 (fun pc c => mAt (mRun D) 346 pc c Q) Q bk_Mo_writesToken_44 c := mAt_blk rfl
theorem a_Mo_writesToken_52 (D : Nat) (c : mC) (Q : mQ) : mAt (mRun D) 346 52 c Q = mWp (mRun D) 346 0 (fun pc c => mAt (mRun D) 346 pc c Q) Q bk_Mo_writesToken_52 c := mAt_blk rfl
theorem e_Mo_writesReach (D : Nat) (x0 x1 : mV) (I : mN) (S : mH) (Q : mQ) (h : mCs [x0, x1] ≤ 2) : mRun (D + 1) 347 [x0, x1] I S Q = mAt (mRun D) 347 0 ([some x0, some x1, none], [], I, S) Q := propext ⟨fun z => z.2, fun z => ⟨⟨h, Nat.le_of_ble_eq_true rfl⟩, z⟩⟩
theorem a_Mo_writesReach_0 (D : Nat) (c : mC) (Q : mQ) : mAt (mRun D) 347 0 c Q = mWp (mRun D) 347 9 (fun pc c => mAt (mRun D) 347 pc c Q) Q bk_Mo_writesReach_0 c := mAt_blk rfl
theorem a_Mo_writesReach_9 (D : Nat) (c : mC) (Q : mQ) : mAt (mRun D) 347 9 c Q = mWp (mRun D) 347 0 (fun pc c => mAt (mRun D) 347 pc c Q) Q bk_Mo_writesReach_9 c := mAt_blk rfl
theorem a_Mo_writesReach_32 (D : Nat) (c : mC) (Q : mQ) : mAt (mRun D) 347 32 c Q = mWp (mRun D) 347 58 (fun pc c => mAt (mRun D) 347 pc c Q) Q bk_Mo_writesReach_32 c := mAt_blk rfl
theorem a_Mo_writesReach_58 (D : Nat) (c : mC) (Q : mQ) : mAt (mRun D) 347 58 c Q = mWp (mRun D) 347 0 (fun pc c => mAt (mRun D) 347 pc c Q) Q bk_Mo_writesReach_58 c := mAt_blk rfl
theorem a_Mo_writesReach_88 (D : Nat) (c : mC) (Q : mQ) : mAt (mRun D) 347 88 c Q = mWp (mRun D) 347 114 (fun pc c => mAt (mRun D) 347 pc c Q) Q bk_Mo_writesReach_88 c := mAt_blk rfl
theorem a_Mo_writesReach_114 (D : Nat) (c : mC) (Q : mQ) : mAt (mRun D) 347 114 c Q = mWp (mRun D) 347 0 (fun pc c => mAt (mRun D) 347 pc c Q) Q bk_Mo_writesReach_114 c := mAt_blk rfl
theorem a_Mo_writesReach_120 (D : Nat) (c : mC) (Q : mQ) : mAt (mRun D) 347 120 c Q = mWp (mRun D) 347 0 (fun pc c => mAt (mRun D) 347 pc c Q) Q bk_Mo_writesReach_120 c := mAt_blk rfl
theorem e_Mo_writesAsks (D : Nat) (x0 x1 : mV) (I : mN) (S : mH) (Q : mQ) (h : mCs [x0, x1] ≤ 2) : mRun (D + 1) 348 [x0, x1] I S Q = mAt (mRun D) 348 0 ([some x0, some x1, none, none, none], [], I, S) Q := propext ⟨fun z => z.2, fun z => ⟨⟨h, Nat.le_of_ble_eq_true rfl⟩, z⟩⟩
theorem a_Mo_writesAsks_0 (D : Nat) (c : mC) (Q : mQ) : mAt (mRun D) 348 0 c Q = mWp (mRun D) 348 2 (fun pc c => mAt (mRun D) 348 pc c Q) Q bk_Mo_writesAsks_0 c := mAt_blk rfl
theorem a_Mo_writesAsks_2 (D : Nat) (c : mC) (Q : mQ) : mAt (mRun D) 348 2 c Q = mWp (mRun D) 348 0 (fun pc c => mAt (mRun D) 348 pc c Q) Q bk_Mo_writesAsks_2 c := mAt_blk rfl
theorem a_Mo_writesAsks_48 (D : Nat) (c : mC) (Q : mQ) : mAt (mRun D) 348 48 c Q = mWp (mRun D) 348 51 (fun pc c => mAt (mRun D) 348 pc c Q) Q bk_Mo_writesAsks_48 c := mAt_blk rfl
theorem a_Mo_writesAsks_51 (D : Nat) (c : mC) (Q : mQ) : mAt (mRun D) 348 51 c Q = mWp (mRun D) 348 0 (fun pc c => mAt (mRun D) 348 pc c Q) Q bk_Mo_writesAsks_51 c := mAt_blk rfl
theorem a_Mo_writesAsks_84 (D : Nat) (c : mC) (Q : mQ) : mAt (mRun D) 348 84 c Q = mWp (mRun D) 348 107 (fun pc c => mAt (mRun D) 348 pc c Q) Q bk_Mo_writesAsks_84 c := mAt_blk rfl
theorem a_Mo_writesAsks_107 (D : Nat) (c : mC) (Q : mQ) : mAt (mRun D) 348 107 c Q = mWp (mRun D) 348 0 (fun pc c => mAt (mRun D) 348 pc c Q) Q bk_Mo_writesAsks_107 c := mAt_blk rfl
theorem a_Mo_writesAsks_113 (D : Nat) (c : mC) (Q : mQ) : mAt (mRun D) 348 113 c Q = mWp (mRun D) 348 0 (fun pc c => mAt (mRun D) 348 pc c Q) Q bk_Mo_writesAsks_113 c := mAt_blk rfl
theorem e_Mo_writesRight (D : Nat) (x0 x1 : mV) (I : mN) (S : mH) (Q : mQ) (h : mCs [x0, x1] ≤ 2) : mRun (D + 1) 349 [x0, x1] I S Q = mAt (mRun D) 349 0 ([some x0, some x1, none], [], I, S) Q := propext ⟨fun z => z.2, fun z => ⟨⟨h, Nat.le_of_ble_eq_true rfl⟩, z⟩⟩
theorem a_Mo_writesRight_0 (D : Nat) (c : mC) (Q : mQ) : mAt (mRun D) 349 0 c Q = mWp (mRun D) 349 0 (fun pc c => mAt (mRun D) 349 pc c Q) Q bk_Mo_writesRight_0 c := mAt_blk rfl
theorem a_Mo_writesRight_82 (D : Nat) (c : mC) (Q : mQ) : mAt (mRun D) 349 82 c Q = mWp (mRun D) 349 90 (fun pc c => mAt (mRun D) 349 pc c Q) Q bk_Mo_writesRight_82 c := mAt_blk rfl
theorem a_Mo_writesRight_90 (D : Nat) (c : mC) (Q : mQ) : mAt (mRun D) 349 90 c Q = mWp (mRun D) 349 93 (fun pc c => mAt (mRun D) 349 pc c Q) Q bk_Mo_writesRight_90 c := mAt_blk rfl
theorem a_Mo_writesRight_93 (D : Nat) (c : mC) (Q : mQ) : mAt (mRun D) 349 93 c Q = mWp (mRun D) 349 117 (fun pc c => mAt (mRun D) 349 pc c Q) Q bk_Mo_writesRight_93 c := mAt_blk rfl
theorem a_Mo_writesRight_117 (D : Nat) (c : mC) (Q : mQ) : mAt (mRun D) 349 117 c Q = mWp (mRun D) 349 119 (fun pc c => mAt (mRun D) 349 pc c Q) Q bk_Mo_writesRight_117 c := mAt_blk rfl
theorem a_Mo_writesRight_119 (D : Nat) (c : mC) (Q : mQ) : mAt (mRun D) 349 119 c Q = mWp (mRun D) 349 0 (fun pc c => mAt (mRun D) 349 pc c Q) Q bk_Mo_writesRight_119 c := mAt_blk rfl
theorem a_Mo_writesRight_153 (D : Nat) (c : mC) (Q : mQ) : mAt (mRun D) 349 153 c Q = mWp (mRun D) 349 0 (fun pc c => mAt (mRun D) 349 pc c Q) Q bk_Mo_writesRight_153 c := mAt_blk rfl
theorem e_Mo_writesInflow (D : Nat) (x0 x1 x2 : mV) (I : mN) (S : mH) (Q : mQ) (h : mCs [x0, x1, x2] ≤ 3) : mRun (D + 1) 350 [x0, x1, x2] I S Q = mAt (mRun D) 350 0 ([some x0, some x1, some x2, none, none, none], [], I, S) Q := propext ⟨fun z => z.2, fun z => ⟨⟨h, Nat.le_of_ble_eq_true rfl⟩, z⟩⟩
theorem a_Mo_writesInflow_0 (D : Nat) (c : mC) (Q : mQ) : mAt (mRun D) 350 0 c Q = mWp (mRun D) 350 19 (fun pc c => mAt (mRun D) 350 pc c Q) Q bk_Mo_writesInflow_0 c := mAt_blk rfl
theorem a_Mo_writesInflow_19 (D : Nat) (c : mC) (Q : mQ) : mAt (mRun D) 350 19 c Q = mWp (mRun D) 350 43 (fun pc c => mAt (mRun D) 350 pc c Q) Q bk_Mo_writesInflow_19 c := mAt_blk rfl
theorem a_Mo_writesInflow_43 (D : Nat) (c : mC) (Q : mQ) : mAt (mRun D) 350 43 c Q = mWp (mRun D) 350 0 (fun pc c => mAt (mRun D) 350 pc c Q) Q bk_Mo_writesInflow_43 c := mAt_blk rfl
theorem a_Mo_writesInflow_47 (D : Nat) (c : mC) (Q : mQ) : mAt (mRun D) 350 47 c Q = mWp (mRun D) 350 48 (fun pc c => mAt (mRun D) 350 pc c Q) Q bk_Mo_writesInflow_47 c := mAt_blk rfl
theorem a_Mo_writesInflow_48 (D : Nat) (c : mC) (Q : mQ) : mAt (mRun D) 350 48 c Q = mWp (mRun D) 350 0 (fun pc c => mAt (mRun D) 350 pc c Q) Q bk_Mo_writesInflow_48 c := mAt_blk rfl
theorem a_Mo_writesInflow_56 (D : Nat) (c : mC) (Q : mQ) : mAt (mRun D) 350 56 c Q = mWp (mRun D) 350 0 (fun pc c => mAt (mRun D) 350 pc c Q) Q bk_Mo_writesInflow_56 c := mAt_blk rfl
theorem a_Mo_writesInflow_62 (D : Nat) (c : mC) (Q : mQ) : mAt (mRun D) 350 62 c Q = mWp (mRun D) 350 82 (fun pc c => mAt (mRun D) 350 pc c Q) Q bk_Mo_writesInflow_62 c := mAt_blk rfl
theorem a_Mo_writesInflow_82 (D : Nat) (c : mC) (Q : mQ) : mAt (mRun D) 350 82 c Q = mWp (mRun D) 350 0 (fun pc c => mAt (mRun D) 350 pc c Q) Q bk_Mo_writesInflow_82 c := mAt_blk rfl
theorem a_Mo_writesInflow_108 (D : Nat) (c : mC) (Q : mQ) : mAt (mRun D) 350 108 c Q = mWp (mRun D) 350 0 (fun pc c => mAt (mRun D) 350 pc c Q) Q bk_Mo_writesInflow_108 c := mAt_blk rfl
theorem e_Mo_writeBasin (D : Nat) (x0 : mV) (I : mN) (S : mH) (Q : mQ) (h : mCs [x0] ≤ 1) : mRun (D + 1) 351 [x0] I S Q = mAt (mRun D) 351 0 ([some x0, none, none], [], I, S) Q := propext ⟨fun z => z.2, fun z => ⟨⟨h, Nat.le_of_ble_eq_true rfl⟩, z⟩⟩
theorem a_Mo_writeBasin_0 (D : Nat) (c : mC) (Q : mQ) : mAt (mRun D) 351 0 c Q = mWp (mRun D) 351 25 (fun pc c => mAt (mRun D) 351 pc c Q) Q bk_Mo_writeBasin_0 c := mAt_blk rfl
theorem a_Mo_writeBasin_25 (D : Nat) (c : mC) (Q : mQ) : mAt (mRun D) 351 25 c Q = mWp (mRun D) 351 0 (fun pc c => mAt (mRun D) 351 pc c Q) Q bk_Mo_writeBasin_25 c := mAt_blk rfl
theorem a_Mo_writeBasin_84 (D : Nat) (c : mC) (Q : mQ) : mAt (mRun D) 351 84 c Q = mWp (mRun D) 351 86 (fun pc c => mAt (mRun D) 351 pc c Q) Q bk_Mo_writeBasin_84 c := mAt_blk rfl
theorem a_Mo_writeBasin_86 (D : Nat) (c : mC) (Q : mQ) : mAt (mRun D) 351 86 c Q = mWp (mRun D) 351 0 (fun pc c => mAt (mRun D) 351 pc c Q) Q bk_Mo_writeBasin_86 c := mAt_blk rfl
theorem a_Mo_writeBasin_113 (D : Nat) (c : mC) (Q : mQ) : mAt (mRun D) 351 113 c Q = mWp (mRun D) 351 115 (fun pc c => mAt (mRun D) 351 pc c Q) Q bk_Mo_writeBasin_113 c := mAt_blk rfl
theorem a_Mo_writeBasin_115 (D : Nat) (c : mC) (Q : mQ) : mAt (mRun D) 351 115 c Q = mWp (mRun D) 351 0 (fun pc c => mAt (mRun D) 351 pc c Q) Q bk_Mo_writeBasin_115 c := mAt_blk rfl
theorem a_Mo_writeBasin_143 (D : Nat) (c : mC) (Q : mQ) : mAt (mRun D) 351 143 c Q = mWp (mRun D) 351 145 (fun pc c => mAt (mRun D) 351 pc c Q) Q bk_Mo_writeBasin_143 c := mAt_blk rfl
theorem a_Mo_writeBasin_145 (D : Nat) (c : mC) (Q : mQ) : mAt (mRun D) 351 145 c Q = mWp (mRun D) 351 152 (fun pc c => mAt (mRun D) 351 pc c Q) Q bk_Mo_writeBasin_145 c := mAt_blk rfl
theorem a_Mo_writeBasin_152 (D : Nat) (c : mC) (Q : mQ) : mAt (mRun D) 351 152 c Q = mWp (mRun D) 351 0 (fun pc c => mAt (mRun D) 351 pc c Q) Q bk_Mo_writeBasin_152 c := mAt_blk rfl
theorem a_Mo_writeBasin_174 (D : Nat) (c : mC) (Q : mQ) : mAt (mRun D) 351 174 c Q = mWp (mRun D) 351 0 (fun pc c => mAt (mRun D) 351 pc c Q) Q bk_Mo_writeBasin_174 c := mAt_blk rfl
theorem a_Mo_writeBasin_180 (D : Nat) (c : mC) (Q : mQ) : mAt (mRun D) 351 180 c Q = mWp (mRun D) 351 0 (fun pc c => mAt (mRun D) 351 pc c Q) Q bk_Mo_writeBasin_180 c := mAt_blk rfl
theorem e_Mo_writtenAt (D : Nat) (x0 x1 : mV) (I : mN) (S : mH) (Q : mQ) (h : mCs [x0, x1] ≤ 2) : mRun (D + 1) 352 [x0, x1] I S Q = mAt (mRun D) 352 0 ([some x0, some x1], [], I, S) Q := propext ⟨fun z => z.2, fun z => ⟨⟨h, Nat.le_of_ble_eq_true rfl⟩, z⟩⟩
theorem a_Mo_writtenAt_0 (D : Nat) (c : mC) (Q : mQ) : mAt (mRun D) 352 0 c Q = mWp (mRun D) 352 0 (fun pc c => mAt (mRun D) 352 pc c Q) Q bk_Mo_writtenAt_0 c := mAt_blk rfl
theorem a_Mo_writtenAt_27 (D : Nat) (c : mC) (Q : mQ) : mAt (mRun D) 352 27 c Q = mWp (mRun D) 352 28 (fun pc c => mAt (mRun D) 352 pc c Q) Q bk_Mo_writtenAt_27 c := mAt_blk rfl
theorem a_Mo_writtenAt_28 (D : Nat) (c : mC) (Q : mQ) : mAt (mRun D) 352 28 c Q = mWp (mRun D) 352 0 (fun pc c => mAt (mRun D) 352 pc c Q) Q bk_Mo_writtenAt_28 c := mAt_blk rfl
theorem e_Mo_beginsTrial (D : Nat) (x0 : mV) (I : mN) (S : mH) (Q : mQ) (h : mCs [x0] ≤ 1) : mRun (D + 1) 353 [x0] I S Q = mAt (mRun D) 353 0 ([some x0, none], [], I, S) Q := propext ⟨fun z => z.2, fun z => ⟨⟨h, Nat.le_of_ble_eq_true rfl⟩, z⟩⟩
theorem a_Mo_beginsTrial_0 (D : Nat) (c : mC) (Q : mQ) : mAt (mRun D) 353 0 c Q = mWp (mRun D) 353 2 (fun pc c => mAt (mRun D) 353 pc c Q) Q bk_Mo_beginsTrial_0 c := mAt_blk rfl
theorem a_Mo_beginsTrial_2 (D : Nat) (c : mC) (Q : mQ) : mAt (mRun D) 353 2 c Q = mWp (mRun D) 353 0 (fun pc c => mAt (mRun D) 353 pc c Q) Q bk_Mo_beginsTrial_2 c := mAt_blk rfl
theorem a_Mo_beginsTrial_27 (D : Nat) (c : mC) (Q : mQ) : mAt (mRun D) 353 27 c Q = mWp (mRun D) 353 0 (fun pc c => mAt (mRun D) 353 pc c Q) Q bk_Mo_beginsTrial_27 c := mAt_blk rfl
theorem e_Mo_leaseIn (D : Nat) (x0 x1 x2 x3 x4 x5 x6 : mV) (I : mN) (S : mH) (Q : mQ) (h : mCs [x0, x1, x2, x3, x4, x5, x6] ≤ 7) : mRun (D + 1) 354 [x0, x1, x2, x3, x4, x5, x6] I S Q = mAt (mRun D) 354 0 ([some x0, some x1, some x2, some x3, some x4, some x5, some x6, none, none, none, none], [], I, S) Q := propext ⟨fun z => z.2, fun z => ⟨⟨h, Nat.le_of_ble_eq_true rfl⟩, z⟩⟩
theorem a_Mo_leaseIn_0 (D : Nat) (c : mC) (Q : mQ) : mAt (mRun D) 354 0 c Q = mWp (mRun D) 354 63 (fun pc c => mAt (mRun D) 354 pc c Q) Q bk_Mo_leaseIn_0 c := mAt_blk rfl
theorem a_Mo_leaseIn_63 (D : Nat) (c : mC) (Q : mQ) : mAt (mRun D) 354 63 c Q = mWp (mRun D) 354 0 (fun pc c => mAt (mRun D) 354 pc c Q) Q bk_Mo_leaseIn_63 c := mAt_blk rfl
theorem a_Mo_leaseIn_103 (D : Nat) (c : mC) (Q : mQ) : mAt (mRun D) 354 103 c Q = mWp (mRun D) 354 0 (fun pc c => mAt (mRun D) 354 pc c Q) Q bk_Mo_leaseIn_103 c := mAt_blk rfl
theorem e_Mo_mayLease (D : Nat) (x0 x1 x2 x3 x4 : mV) (I : mN) (S : mH) (Q : mQ) (h : mCs [x0, x1, x2, x3, x4] ≤ 5) : mRun (D + 1) 355 [x0, x1, x2, x3, x4] I S Q = mAt (mRun D) 355 0 ([some x0, some x1, some x2, some x3, some x4, none, none, none], [], I, S) Q := propext ⟨fun z => z.2, fun z => ⟨⟨h, Nat.le_of_ble_eq_true rfl⟩, z⟩⟩
theorem a_Mo_mayLease_0 (D : Nat) (c : mC) (Q : mQ) : mAt (mRun D) 355 0 c Q = mWp (mRun D) 355 0 (fun pc c => mAt (mRun D) 355 pc c Q) Q bk_Mo_mayLease_0 c := mAt_blk rfl
theorem a_Mo_mayLease_60 (D : Nat) (c : mC) (Q : mQ) : mAt (mRun D) 355 60 c Q = mWp (mRun D) 355 61 (fun pc c => mAt (mRun D) 355 pc c Q) Q bk_Mo_mayLease_60 c := mAt_blk rfl
theorem a_Mo_mayLease_61 (D : Nat) (c : mC) (Q : mQ) : mAt (mRun D) 355 61 c Q = mWp (mRun D) 355 66 (fun pc c => mAt (mRun D) 355 pc c Q) Q bk_Mo_mayLease_61 c := mAt_blk rfl
theorem a_Mo_mayLease_66 (D : Nat) (c : mC) (Q : mQ) : mAt (mRun D) 355 66 c Q = mWp (mRun D) 355 0 (fun pc c => mAt (mRun D) 355 pc c Q) Q bk_Mo_mayLease_66 c := mAt_blk rfl
theorem a_Mo_mayLease_99 (D : Nat) (c : mC) (Q : mQ) : mAt (mRun D) 355 99 c Q = mWp (mRun D) 355 100 (fun pc c => mAt (mRun D) 355 pc c Q) Q bk_Mo_mayLease_99 c := mAt_blk rfl
theorem a_Mo_mayLease_100 (D : Nat) (c : mC) (Q : mQ) : mAt (mRun D) 355 100 c Q = mWp (mRun D) 355 0 (fun pc c => mAt (mRun D) 355 pc c Q) Q bk_Mo_mayLease_100 c := mAt_blk rfl
theorem a_Mo_mayLease_108 (D : Nat) (c : mC) (Q : mQ) : mAt (mRun D) 355 108 c Q = mWp (mRun D) 355 0 (fun pc c => mAt (mRun D) 355 pc c Q) Q bk_Mo_mayLease_108 c := mAt_blk rfl
theorem e_Mo_injuredBy (D : Nat) (x0 x1 x2 x3 x4 x5 : mV) (I : mN) (S : mH) (Q : mQ) (h : mCs [x0, x1, x2, x3, x4, x5] ≤ 6) : mRun (D + 1) 356 [x0, x1, x2, x3, x4, x5] I S Q = mAt (mRun D) 356 0 ([some x0, some x1, some x2, some x3, some x4, some x5, none, none, none, none], [], I, S) Q := propext ⟨fun z => z.2, fun z => ⟨⟨h, Nat.le_of_ble_eq_true rfl⟩, z⟩⟩
theorem a_Mo_injuredBy_0 (D : Nat) (c : mC) (Q : mQ) : mAt (mRun D) 356 0 c Q = mWp (mRun D) 356 24 (fun pc c => mAt (mRun D) 356 pc c Q) Q bk_Mo_injuredBy_0 c := mAt_blk rfl
theorem a_Mo_injuredBy_24 (D : Nat) (c : mC) (Q : mQ) : mAt (mRun D) 356 24 c Q = mWp (mRun D) 356 61 (fun pc c => mAt (mRun D) 356 pc c Q) Q bk_Mo_injuredBy_24 c := mAt_blk rfl
theorem a_Mo_injuredBy_61 (D : Nat) (c : mC) (Q : mQ) : mAt (mRun D) 356 61 c Q = mWp (mRun D) 356 76 (fun pc c => mAt (mRun D) 356 pc c Q) Q bk_Mo_injuredBy_61 c := mAt_blk rfl
theorem a_Mo_injuredBy_76 (D : Nat) (c : mC) (Q : mQ) : mAt (mRun D) 356 76 c Q = mWp (mRun D) 356 0 (fun pc c => mAt (mRun D) 356 pc c Q) Q bk_Mo_injuredBy_76 c := mAt_blk rfl
theorem a_Mo_injuredBy_121 (D : Nat) (c : mC) (Q : mQ) : mAt (mRun D) 356 121 c Q = mWp (mRun D) 356 0 (fun pc c => mAt (mRun D) 356 pc c Q) Q bk_Mo_injuredBy_121 c := mAt_blk rfl
theorem a_Mo_injuredBy_127 (D : Nat) (c : mC) (Q : mQ) : mAt (mRun D) 356 127 c Q = mWp (mRun D) 356 0 (fun pc c => mAt (mRun D) 356 pc c Q) Q bk_Mo_injuredBy_127 c := mAt_blk rfl
theorem a_Mo_injuredBy_133 (D : Nat) (c : mC) (Q : mQ) : mAt (mRun D) 356 133 c Q = mWp (mRun D) 356 0 (fun pc c => mAt (mRun D) 356 pc c Q) Q bk_Mo_injuredBy_133 c := mAt_blk rfl
theorem a_Mo_injuredBy_139 (D : Nat) (c : mC) (Q : mQ) : mAt (mRun D) 356 139 c Q = mWp (mRun D) 356 0 (fun pc c => mAt (mRun D) 356 pc c Q) Q bk_Mo_injuredBy_139 c := mAt_blk rfl
theorem e_Mo_isLeaseRange (D : Nat) (x0 x1 x2 x3 : mV) (I : mN) (S : mH) (Q : mQ) (h : mCs [x0, x1, x2, x3] ≤ 4) : mRun (D + 1) 357 [x0, x1, x2, x3] I S Q = mAt (mRun D) 357 0 ([some x0, some x1, some x2, some x3], [], I, S) Q := propext ⟨fun z => z.2, fun z => ⟨⟨h, Nat.le_of_ble_eq_true rfl⟩, z⟩⟩
theorem a_Mo_isLeaseRange_0 (D : Nat) (c : mC) (Q : mQ) : mAt (mRun D) 357 0 c Q = mWp (mRun D) 357 0 (fun pc c => mAt (mRun D) 357 pc c Q) Q bk_Mo_isLeaseRange_0 c := mAt_blk rfl
theorem a_Mo_isLeaseRange_34 (D : Nat) (c : mC) (Q : mQ) : mAt (mRun D) 357 34 c Q = mWp (mRun D) 357 35 (fun pc c => mAt (mRun D) 357 pc c Q) Q bk_Mo_isLeaseRange_34 c := mAt_blk rfl
theorem a_Mo_isLeaseRange_35 (D : Nat) (c : mC) (Q : mQ) : mAt (mRun D) 357 35 c Q = mWp (mRun D) 357 0 (fun pc c => mAt (mRun D) 357 pc c Q) Q bk_Mo_isLeaseRange_35 c := mAt_blk rfl
theorem e_Mo_lease (D : Nat) (x0 x1 x2 x3 x4 x5 : mV) (I : mN) (S : mH) (Q : mQ) (h : mCs [x0, x1, x2, x3, x4, x5] ≤ 6) : mRun (D + 1) 358 [x0, x1, x2, x3, x4, x5] I S Q = mAt (mRun D) 358 0 ([some x0, some x1, some x2, some x3, some x4, some x5, none, none, none], [], I, S) Q := propext ⟨fun z => z.2, fun z => ⟨⟨h, Nat.le_of_ble_eq_true rfl⟩, z⟩⟩
theorem a_Mo_lease_0 (D : Nat) (c : mC) (Q : mQ) : mAt (mRun D) 358 0 c Q = mWp (mRun D) 358 0 (fun pc c => mAt (mRun D) 358 pc c Q) Q bk_Mo_lease_0 c := mAt_blk rfl
theorem a_Mo_lease_26 (D : Nat) (c : mC) (Q : mQ) : mAt (mRun D) 358 26 c Q = mWp (mRun D) 358 27 (fun pc c => mAt (mRun D) 358 pc c Q) Q bk_Mo_lease_26 c := mAt_blk rfl
theorem a_Mo_lease_27 (D : Nat) (c : mC) (Q : mQ) : mAt (mRun D) 358 27 c Q = mWp (mRun D) 358 0 (fun pc c => mAt (mRun D) 358 pc c Q) Q bk_Mo_lease_27 c := mAt_blk rfl
theorem a_Mo_lease_82 (D : Nat) (c : mC) (Q : mQ) : mAt (mRun D) 358 82 c Q = mWp (mRun D) 358 83 (fun pc c => mAt (mRun D) 358 pc c Q) Q bk_Mo_lease_82 c := mAt_blk rfl
theorem a_Mo_lease_83 (D : Nat) (c : mC) (Q : mQ) : mAt (mRun D) 358 83 c Q = mWp (mRun D) 358 0 (fun pc c => mAt (mRun D) 358 pc c Q) Q bk_Mo_lease_83 c := mAt_blk rfl
theorem a_Mo_lease_100 (D : Nat) (c : mC) (Q : mQ) : mAt (mRun D) 358 100 c Q = mWp (mRun D) 358 0 (fun pc c => mAt (mRun D) 358 pc c Q) Q bk_Mo_lease_100 c := mAt_blk rfl
theorem e_Mo_injuredRight (D : Nat) (x0 x1 x2 x3 x4 x5 : mV) (I : mN) (S : mH) (Q : mQ) (h : mCs [x0, x1, x2, x3, x4, x5] ≤ 6) : mRun (D + 1) 359 [x0, x1, x2, x3, x4, x5] I S Q = mAt (mRun D) 359 0 ([some x0, some x1, some x2, some x3, some x4, some x5, none, none], [], I, S) Q := propext ⟨fun z => z.2, fun z => ⟨⟨h, Nat.le_of_ble_eq_true rfl⟩, z⟩⟩
theorem a_Mo_injuredRight_0 (D : Nat) (c : mC) (Q : mQ) : mAt (mRun D) 359 0 c Q = mWp (mRun D) 359 0 (fun pc c => mAt (mRun D) 359 pc c Q) Q bk_Mo_injuredRight_0 c := mAt_blk rfl
theorem a_Mo_injuredRight_26 (D : Nat) (c : mC) (Q : mQ) : mAt (mRun D) 359 26 c Q = mWp (mRun D) 359 27 (fun pc c => mAt (mRun D) 359 pc c Q) Q bk_Mo_injuredRight_26 c := mAt_blk rfl
theorem a_Mo_injuredRight_27 (D : Nat) (c : mC) (Q : mQ) : mAt (mRun D) 359 27 c Q = mWp (mRun D) 359 0 (fun pc c => mAt (mRun D) 359 pc c Q) Q bk_Mo_injuredRight_27 c := mAt_blk rfl
theorem a_Mo_injuredRight_72 (D : Nat) (c : mC) (Q : mQ) : mAt (mRun D) 359 72 c Q = mWp (mRun D) 359 73 (fun pc c => mAt (mRun D) 359 pc c Q) Q bk_Mo_injuredRight_72 c := mAt_blk rfl
theorem a_Mo_injuredRight_73 (D : Nat) (c : mC) (Q : mQ) : mAt (mRun D) 359 73 c Q = mWp (mRun D) 359 0 (fun pc c => mAt (mRun D) 359 pc c Q) Q bk_Mo_injuredRight_73 c := mAt_blk rfl
theorem a_Mo_injuredRight_93 (D : Nat) (c : mC) (Q : mQ) : mAt (mRun D) 359 93 c Q = mWp (mRun D) 359 94 (fun pc c => mAt (mRun D) 359 pc c Q) Q bk_Mo_injuredRight_93 c := mAt_blk rfl
theorem a_Mo_injuredRight_94 (D : Nat) (c : mC) (Q : mQ) : mAt (mRun D) 359 94 c Q = mWp (mRun D) 359 0 (fun pc c => mAt (mRun D) 359 pc c Q) Q bk_Mo_injuredRight_94 c := mAt_blk rfl
theorem e_Mo_greatestLease (D : Nat) (x0 x1 x2 x3 x4 : mV) (I : mN) (S : mH) (Q : mQ) (h : mCs [x0, x1, x2, x3, x4] ≤ 5) : mRun (D + 1) 360 [x0, x1, x2, x3, x4] I S Q = mAt (mRun D) 360 0 ([some x0, some x1, some x2, some x3, some x4, none, none], [], I, S) Q := propext ⟨fun z => z.2, fun z => ⟨⟨h, Nat.le_of_ble_eq_true rfl⟩, z⟩⟩
theorem a_Mo_greatestLease_0 (D : Nat) (c : mC) (Q : mQ) : mAt (mRun D) 360 0 c Q = mWp (mRun D) 360 0 (fun pc c => mAt (mRun D) 360 pc c Q) Q bk_Mo_greatestLease_0 c := mAt_blk rfl
theorem a_Mo_greatestLease_26 (D : Nat) (c : mC) (Q : mQ) : mAt (mRun D) 360 26 c Q = mWp (mRun D) 360 27 (fun pc c => mAt (mRun D) 360 pc c Q) Q bk_Mo_greatestLease_26 c := mAt_blk rfl
theorem a_Mo_greatestLease_27 (D : Nat) (c : mC) (Q : mQ) : mAt (mRun D) 360 27 c Q = mWp (mRun D) 360 0 (fun pc c => mAt (mRun D) 360 pc c Q) Q bk_Mo_greatestLease_27 c := mAt_blk rfl
theorem a_Mo_greatestLease_57 (D : Nat) (c : mC) (Q : mQ) : mAt (mRun D) 360 57 c Q = mWp (mRun D) 360 58 (fun pc c => mAt (mRun D) 360 pc c Q) Q bk_Mo_greatestLease_57 c := mAt_blk rfl
theorem a_Mo_greatestLease_58 (D : Nat) (c : mC) (Q : mQ) : mAt (mRun D) 360 58 c Q = mWp (mRun D) 360 0 (fun pc c => mAt (mRun D) 360 pc c Q) Q bk_Mo_greatestLease_58 c := mAt_blk rfl
theorem a_Mo_greatestLease_72 (D : Nat) (c : mC) (Q : mQ) : mAt (mRun D) 360 72 c Q = mWp (mRun D) 360 73 (fun pc c => mAt (mRun D) 360 pc c Q) Q bk_Mo_greatestLease_72 c := mAt_blk rfl
theorem a_Mo_greatestLease_73 (D : Nat) (c : mC) (Q : mQ) : mAt (mRun D) 360 73 c Q = mWp (mRun D) 360 0 (fun pc c => mAt (mRun D) 360 pc c Q) Q bk_Mo_greatestLease_73 c := mAt_blk rfl
theorem a_Mo_greatestLease_81 (D : Nat) (c : mC) (Q : mQ) : mAt (mRun D) 360 81 c Q = mWp (mRun D) 360 85 (fun pc c => mAt (mRun D) 360 pc c Q) Q bk_Mo_greatestLease_81 c := mAt_blk rfl
theorem a_Mo_greatestLease_85 (D : Nat) (c : mC) (Q : mQ) : mAt (mRun D) 360 85 c Q = mWp (mRun D) 360 0 (fun pc c => mAt (mRun D) 360 pc c Q) Q bk_Mo_greatestLease_85 c := mAt_blk rfl
theorem a_Mo_greatestLease_121 (D : Nat) (c : mC) (Q : mQ) : mAt (mRun D) 360 121 c Q = mWp (mRun D) 360 0 (fun pc c => mAt (mRun D) 360 pc c Q) Q bk_Mo_greatestLease_121 c := mAt_blk rfl
theorem a_Mo_greatestLease_127 (D : Nat) (c : mC) (Q : mQ) : mAt (mRun D) 360 127 c Q = mWp (mRun D) 360 0 (fun pc c => mAt (mRun D) 360 pc c Q) Q bk_Mo_greatestLease_127 c := mAt_blk rfl
theorem e_Mo_plansBoth (D : Nat) (x0 : mV) (I : mN) (S : mH) (Q : mQ) (h : mCs [x0] ≤ 1) : mRun (D + 1) 361 [x0] I S Q = mAt (mRun D) 361 0 ([some x0], [], I, S) Q := propext ⟨fun z => z.2, fun z => ⟨⟨h, Nat.le_of_ble_eq_true rfl⟩, z⟩⟩
theorem a_Mo_plansBoth_0 (D : Nat) (c : mC) (Q : mQ) : mAt (mRun D) 361 0 c Q = mWp (mRun D) 361 0 (fun pc c => mAt (mRun D) 361 pc c Q) Q bk_Mo_plansBoth_0 c := mAt_blk rfl
theorem e_Mo_rightOfRank (D : Nat) (x0 x1 : mV) (I : mN) (S : mH) (Q : mQ) (h : mCs [x0, x1] ≤ 2) : mRun (D + 1) 362 [x0, x1] I S Q = mAt (mRun D) 362 0 ([some x0, some x1, none, none, none], [], I, S) Q := propext ⟨fun z => z.2, fun z => ⟨⟨h, Nat.le_of_ble_eq_true rfl⟩, z⟩⟩
theorem a_Mo_rightOfRank_0 (D : Nat) (c : mC) (Q : mQ) : mAt (mRun D) 362 0 c Q = mWp (mRun D) 362 2 (fun pc c => mAt (mRun D) 362 pc c Q) Q bk_Mo_rightOfRank_0 c := mAt_blk rfl
theorem a_Mo_rightOfRank_2 (D : Nat) (c : mC) (Q : mQ) : mAt (mRun D) 362 2 c Q = mWp (mRun D) 362 17 (fun pc c => mAt (mRun D) 362 pc c Q) Q bk_Mo_rightOfRank_2 c := mAt_blk rfl
theorem a_Mo_rightOfRank_17 (D : Nat) (c : mC) (Q : mQ) : mAt (mRun D) 362 17 c Q = mWp (mRun D) 362 0 (fun pc c => mAt (mRun D) 362 pc c Q) Q bk_Mo_rightOfRank_17 c := mAt_blk rfl
theorem a_Mo_rightOfRank_52 (D : Nat) (c : mC) (Q : mQ) : mAt (mRun D) 362 52 c Q = mWp (mRun D) 362 53 (fun pc c => mAt (mRun D) 362 pc c Q) Q bk_Mo_rightOfRank_52 c := mAt_blk rfl
theorem a_Mo_rightOfRank_53 (D : Nat) (c : mC) (Q : mQ) : mAt (mRun D) 362 53 c Q = mWp (mRun D) 362 0 (fun pc c => mAt (mRun D) 362 pc c Q) Q bk_Mo_rightOfRank_53 c := mAt_blk rfl
theorem a_Mo_rightOfRank_61 (D : Nat) (c : mC) (Q : mQ) : mAt (mRun D) 362 61 c Q = mWp (mRun D) 362 0 (fun pc c => mAt (mRun D) 362 pc c Q) Q bk_Mo_rightOfRank_61 c := mAt_blk rfl
theorem a_Mo_rightOfRank_68 (D : Nat) (c : mC) (Q : mQ) : mAt (mRun D) 362 68 c Q = mWp (mRun D) 362 0 (fun pc c => mAt (mRun D) 362 pc c Q) Q bk_Mo_rightOfRank_68 c := mAt_blk rfl
theorem a_Mo_rightOfRank_74 (D : Nat) (c : mC) (Q : mQ) : mAt (mRun D) 362 74 c Q = mWp (mRun D) 362 0 (fun pc c => mAt (mRun D) 362 pc c Q) Q bk_Mo_rightOfRank_74 c := mAt_blk rfl
theorem e_Mo_mayBeOther (D : Nat) (x0 x1 x2 : mV) (I : mN) (S : mH) (Q : mQ) (h : mCs [x0, x1, x2] ≤ 3) : mRun (D + 1) 363 [x0, x1, x2] I S Q = mAt (mRun D) 363 0 ([some x0, some x1, some x2], [], I, S) Q := propext ⟨fun z => z.2, fun z => ⟨⟨h, Nat.le_of_ble_eq_true rfl⟩, z⟩⟩
theorem a_Mo_mayBeOther_0 (D : Nat) (c : mC) (Q : mQ) : mAt (mRun D) 363 0 c Q = mWp (mRun D) 363 0 (fun pc c => mAt (mRun D) 363 pc c Q) Q bk_Mo_mayBeOther_0 c := mAt_blk rfl
theorem a_Mo_mayBeOther_27 (D : Nat) (c : mC) (Q : mQ) : mAt (mRun D) 363 27 c Q = mWp (mRun D) 363 28 (fun pc c => mAt (mRun D) 363 pc c Q) Q bk_Mo_mayBeOther_27 c := mAt_blk rfl
theorem a_Mo_mayBeOther_28 (D : Nat) (c : mC) (Q : mQ) : mAt (mRun D) 363 28 c Q = mWp (mRun D) 363 0 (fun pc c => mAt (mRun D) 363 pc c Q) Q bk_Mo_mayBeOther_28 c := mAt_blk rfl
theorem e_Mo_helpedRight (D : Nat) (x0 x1 x2 : mV) (I : mN) (S : mH) (Q : mQ) (h : mCs [x0, x1, x2] ≤ 3) : mRun (D + 1) 364 [x0, x1, x2] I S Q = mAt (mRun D) 364 0 ([some x0, some x1, some x2, none, none, none], [], I, S) Q := propext ⟨fun z => z.2, fun z => ⟨⟨h, Nat.le_of_ble_eq_true rfl⟩, z⟩⟩
theorem a_Mo_helpedRight_0 (D : Nat) (c : mC) (Q : mQ) : mAt (mRun D) 364 0 c Q = mWp (mRun D) 364 0 (fun pc c => mAt (mRun D) 364 pc c Q) Q bk_Mo_helpedRight_0 c := mAt_blk rfl
theorem a_Mo_helpedRight_11 (D : Nat) (c : mC) (Q : mQ) : mAt (mRun D) 364 11 c Q = mWp (mRun D) 364 41 (fun pc c => mAt (mRun D) 364 pc c Q) Q bk_Mo_helpedRight_11 c := mAt_blk rfl
theorem a_Mo_helpedRight_41 (D : Nat) (c : mC) (Q : mQ) : mAt (mRun D) 364 41 c Q = mWp (mRun D) 364 66 (fun pc c => mAt (mRun D) 364 pc c Q) Q bk_Mo_helpedRight_41 c := mAt_blk rfl
theorem a_Mo_helpedRight_66 (D : Nat) (c : mC) (Q : mQ) : mAt (mRun D) 364 66 c Q = mWp (mRun D) 364 0 (fun pc c => mAt (mRun D) 364 pc c Q) Q bk_Mo_helpedRight_66 c := mAt_blk rfl
theorem a_Mo_helpedRight_105 (D : Nat) (c : mC) (Q : mQ) : mAt (mRun D) 364 105 c Q = mWp (mRun D) 364 0 (fun pc c => mAt (mRun D) 364 pc c Q) Q bk_Mo_helpedRight_105 c := mAt_blk rfl
theorem a_Mo_helpedRight_111 (D : Nat) (c : mC) (Q : mQ) : mAt (mRun D) 364 111 c Q = mWp (mRun D) 364 0 (fun pc c => mAt (mRun D) 364 pc c Q) Q bk_Mo_helpedRight_111 c := mAt_blk rfl
theorem a_Mo_helpedRight_117 (D : Nat) (c : mC) (Q : mQ) : mAt (mRun D) 364 117 c Q = mWp (mRun D) 364 0 (fun pc c => mAt (mRun D) 364 pc c Q) Q bk_Mo_helpedRight_117 c := mAt_blk rfl
theorem e_Mo_sumOfPlan (D : Nat) (x0 x1 x2 : mV) (I : mN) (S : mH) (Q : mQ) (h : mCs [x0, x1, x2] ≤ 3) : mRun (D + 1) 365 [x0, x1, x2] I S Q = mAt (mRun D) 365 0 ([some x0, some x1, some x2, none, none], [], I, S) Q := propext ⟨fun z => z.2, fun z => ⟨⟨h, Nat.le_of_ble_eq_true rfl⟩, z⟩⟩
theorem a_Mo_sumOfPlan_0 (D : Nat) (c : mC) (Q : mQ) : mAt (mRun D) 365 0 c Q = mWp (mRun D) 365 10 (fun pc c => mAt (mRun D) 365 pc c Q) Q bk_Mo_sumOfPlan_0 c := mAt_blk rfl
theorem a_Mo_sumOfPlan_10 (D : Nat) (c : mC) (Q : mQ) : mAt (mRun D) 365 10 c Q = mWp (mRun D) 365 0 (fun pc c => mAt (mRun D) 365 pc c Q) Q bk_Mo_sumOfPlan_10 c := mAt_blk rfl
theorem a_Mo_sumOfPlan_35 (D : Nat) (c : mC) (Q : mQ) : mAt (mRun D) 365 35 c Q = mWp (mRun D) 365 0 (fun pc c => mAt (mRun D) 365 pc c Q) Q bk_Mo_sumOfPlan_35 c := mAt_blk rfl
theorem e_Mo_closureCost (D : Nat) (x0 x1 x2 : mV) (I : mN) (S : mH) (Q : mQ) (h : mCs [x0, x1, x2] ≤ 3) : mRun (D + 1) 366 [x0, x1, x2] I S Q = mAt (mRun D) 366 0 ([some x0, some x1, some x2, none, none], [], I, S) Q := propext ⟨fun z => z.2, fun z => ⟨⟨h, Nat.le_of_ble_eq_true rfl⟩, z⟩⟩
theorem a_Mo_closureCost_0 (D : Nat) (c : mC) (Q : mQ) : mAt (mRun D) 366 0 c Q = mWp (mRun D) 366 0 (fun pc c => mAt (mRun D) 366 pc c Q) Q bk_Mo_closureCost_0 c := mAt_blk rfl
theorem a_Mo_closureCost_11 (D : Nat) (c : mC) (Q : mQ) : mAt (mRun D) 366 11 c Q = mWp (mRun D) 366 41 (fun pc c => mAt (mRun D) 366 pc c Q) Q bk_Mo_closureCost_11 c := mAt_blk rfl
theorem a_Mo_closureCost_41 (D : Nat) (c : mC) (Q : mQ) : mAt (mRun D) 366 41 c Q = mWp (mRun D) 366 0 (fun pc c => mAt (mRun D) 366 pc c Q) Q bk_Mo_closureCost_41 c := mAt_blk rfl
theorem a_Mo_closureCost_82 (D : Nat) (c : mC) (Q : mQ) : mAt (mRun D) 366 82 c Q = mWp (mRun D) 366 0 (fun pc c => mAt (mRun D) 366 pc c Q) Q bk_Mo_closureCost_82 c := mAt_blk rfl
theorem e_Mo_harm (D : Nat) (x0 x1 x2 : mV) (I : mN) (S : mH) (Q : mQ) (h : mCs [x0, x1, x2] ≤ 3) : mRun (D + 1) 367 [x0, x1, x2] I S Q = mAt (mRun D) 367 0 ([some x0, some x1, some x2, none], [], I, S) Q := propext ⟨fun z => z.2, fun z => ⟨⟨h, Nat.le_of_ble_eq_true rfl⟩, z⟩⟩
theorem a_Mo_harm_0 (D : Nat) (c : mC) (Q : mQ) : mAt (mRun D) 367 0 c Q = mWp (mRun D) 367 0 (fun pc c => mAt (mRun D) 367 pc c Q) Q bk_Mo_harm_0 c := mAt_blk rfl
theorem a_Mo_harm_27 (D : Nat) (c : mC) (Q : mQ) : mAt (mRun D) 367 27 c Q = mWp (mRun D) 367 28 (fun pc c => mAt (mRun D) 367 pc c Q) Q bk_Mo_harm_27 c := mAt_blk rfl
theorem a_Mo_harm_28 (D : Nat) (c : mC) (Q : mQ) : mAt (mRun D) 367 28 c Q = mWp (mRun D) 367 0 (fun pc c => mAt (mRun D) 367 pc c Q) Q bk_Mo_harm_28 c := mAt_blk rfl
theorem a_Mo_harm_37 (D : Nat) (c : mC) (Q : mQ) : mAt (mRun D) 367 37 c Q = mWp (mRun D) 367 38 (fun pc c => mAt (mRun D) 367 pc c Q) Q bk_Mo_harm_37 c := mAt_blk rfl
theorem a_Mo_harm_38 (D : Nat) (c : mC) (Q : mQ) : mAt (mRun D) 367 38 c Q = mWp (mRun D) 367 0 (fun pc c => mAt (mRun D) 367 pc c Q) Q bk_Mo_harm_38 c := mAt_blk rfl
theorem a_Mo_harm_46 (D : Nat) (c : mC) (Q : mQ) : mAt (mRun D) 367 46 c Q = mWp (mRun D) 367 57 (fun pc c => mAt (mRun D) 367 pc c Q) Q bk_Mo_harm_46 c := mAt_blk rfl
theorem a_Mo_harm_57 (D : Nat) (c : mC) (Q : mQ) : mAt (mRun D) 367 57 c Q = mWp (mRun D) 367 0 (fun pc c => mAt (mRun D) 367 pc c Q) Q bk_Mo_harm_57 c := mAt_blk rfl
theorem a_Mo_harm_88 (D : Nat) (c : mC) (Q : mQ) : mAt (mRun D) 367 88 c Q = mWp (mRun D) 367 0 (fun pc c => mAt (mRun D) 367 pc c Q) Q bk_Mo_harm_88 c := mAt_blk rfl
theorem e_Mo_meanShortage (D : Nat) (x0 : mV) (I : mN) (S : mH) (Q : mQ) (h : mCs [x0] ≤ 1) : mRun (D + 1) 368 [x0] I S Q = mAt (mRun D) 368 0 ([some x0, none, none, none, none], [], I, S) Q := propext ⟨fun z => z.2, fun z => ⟨⟨h, Nat.le_of_ble_eq_true rfl⟩, z⟩⟩
theorem a_Mo_meanShortage_0 (D : Nat) (c : mC) (Q : mQ) : mAt (mRun D) 368 0 c Q = mWp (mRun D) 368 11 (fun pc c => mAt (mRun D) 368 pc c Q) Q bk_Mo_meanShortage_0 c := mAt_blk rfl
theorem a_Mo_meanShortage_11 (D : Nat) (c : mC) (Q : mQ) : mAt (mRun D) 368 11 c Q = mWp (mRun D) 368 29 (fun pc c => mAt (mRun D) 368 pc c Q) Q bk_Mo_meanShortage_11 c := mAt_blk rfl
theorem a_Mo_meanShortage_29 (D : Nat) (c : mC) (Q : mQ) : mAt (mRun D) 368 29 c Q = mWp (mRun D) 368 0 (fun pc c => mAt (mRun D) 368 pc c Q) Q bk_Mo_meanShortage_29 c := mAt_blk rfl
theorem a_Mo_meanShortage_69 (D : Nat) (c : mC) (Q : mQ) : mAt (mRun D) 368 69 c Q = mWp (mRun D) 368 0 (fun pc c => mAt (mRun D) 368 pc c Q) Q bk_Mo_meanShortage_69 c := mAt_blk rfl
theorem a_Mo_meanShortage_75 (D : Nat) (c : mC) (Q : mQ) : mAt (mRun D) 368 75 c Q = mWp (mRun D) 368 0 (fun pc c => mAt (mRun D) 368 pc c Q) Q bk_Mo_meanShortage_75 c := mAt_blk rfl
theorem a_Mo_meanShortage_83 (D : Nat) (c : mC) (Q : mQ) : mAt (mRun D) 368 83 c Q = mWp (mRun D) 368 88 (fun pc c => mAt (mRun D) 368 pc c Q) Q bk_Mo_meanShortage_83 c := mAt_blk rfl
theorem a_Mo_meanShortage_88 (D : Nat) (c : mC) (Q : mQ) : mAt (mRun D) 368 88 c Q = mWp (mRun D) 368 0 (fun pc c => mAt (mRun D) 368 pc c Q) Q bk_Mo_meanShortage_88 c := mAt_blk rfl
theorem e_Mo_servedShare (D : Nat) (x0 : mV) (I : mN) (S : mH) (Q : mQ) (h : mCs [x0] ≤ 1) : mRun (D + 1) 369 [x0] I S Q = mAt (mRun D) 369 0 ([some x0, none, none, none, none], [], I, S) Q := propext ⟨fun z => z.2, fun z => ⟨⟨h, Nat.le_of_ble_eq_true rfl⟩, z⟩⟩
theorem a_Mo_servedShare_0 (D : Nat) (c : mC) (Q : mQ) : mAt (mRun D) 369 0 c Q = mWp (mRun D) 369 11 (fun pc c => mAt (mRun D) 369 pc c Q) Q bk_Mo_servedShare_0 c := mAt_blk rfl
theorem a_Mo_servedShare_11 (D : Nat) (c : mC) (Q : mQ) : mAt (mRun D) 369 11 c Q = mWp (mRun D) 369 24 (fun pc c => mAt (mRun D) 369 pc c Q) Q bk_Mo_servedShare_11 c := mAt_blk rfl
theorem a_Mo_servedShare_24 (D : Nat) (c : mC) (Q : mQ) : mAt (mRun D) 369 24 c Q = mWp (mRun D) 369 0 (fun pc c => mAt (mRun D) 369 pc c Q) Q bk_Mo_servedShare_24 c := mAt_blk rfl
theorem a_Mo_servedShare_63 (D : Nat) (c : mC) (Q : mQ) : mAt (mRun D) 369 63 c Q = mWp (mRun D) 369 0 (fun pc c => mAt (mRun D) 369 pc c Q) Q bk_Mo_servedShare_63 c := mAt_blk rfl
theorem a_Mo_servedShare_69 (D : Nat) (c : mC) (Q : mQ) : mAt (mRun D) 369 69 c Q = mWp (mRun D) 369 0 (fun pc c => mAt (mRun D) 369 pc c Q) Q bk_Mo_servedShare_69 c := mAt_blk rfl
theorem a_Mo_servedShare_77 (D : Nat) (c : mC) (Q : mQ) : mAt (mRun D) 369 77 c Q = mWp (mRun D) 369 82 (fun pc c => mAt (mRun D) 369 pc c Q) Q bk_Mo_servedShare_77 c := mAt_blk rfl
theorem a_Mo_servedShare_82 (D : Nat) (c : mC) (Q : mQ) : mAt (mRun D) 369 82 c Q = mWp (mRun D) 369 0 (fun pc c => mAt (mRun D) 369 pc c Q) Q bk_Mo_servedShare_82 c := mAt_blk rfl
theorem e_Mo_errors (D : Nat) (x0 : mV) (I : mN) (S : mH) (Q : mQ) (h : mCs [x0] ≤ 1) : mRun (D + 1) 370 [x0] I S Q = mAt (mRun D) 370 0 ([some x0], [], I, S) Q := propext ⟨fun z => z.2, fun z => ⟨⟨h, Nat.le_of_ble_eq_true rfl⟩, z⟩⟩
theorem a_Mo_errors_0 (D : Nat) (c : mC) (Q : mQ) : mAt (mRun D) 370 0 c Q = mWp (mRun D) 370 0 (fun pc c => mAt (mRun D) 370 pc c Q) Q bk_Mo_errors_0 c := mAt_blk rfl
theorem e_La_append (D : Nat) (x0 x1 x2 x3 x4 x5 x6 : mV) (I : mN) (S : mH) (Q : mQ) (h : mCs [x0, x1, x2, x3, x4, x5, x6] ≤ 7) : mRun (D + 1) 371 [x0, x1, x2, x3, x4, x5, x6] I S Q = mAt (mRun D) 371 0 ([some x0, some x1, some x2, some x3, some x4, some x5, some x6, none], [], I, S) Q := propext ⟨fun z => z.2, fun z => ⟨⟨h, Nat.le_of_ble_eq_true rfl⟩, z⟩⟩
theorem a_La_append_0 (D : Nat) (c : mC) (Q : mQ) : mAt (mRun D) 371 0 c Q = mWp (mRun D) 371 0 (fun pc c => mAt (mRun D) 371 pc c Q) Q bk_La_append_0 c := mAt_blk rfl
theorem a_La_append_19 (D : Nat) (c : mC) (Q : mQ) : mAt (mRun D) 371 19 c Q = mWp (mRun D) 371 0 (fun pc c => mAt (mRun D) 371 pc c Q) Q bk_La_append_19 c := mAt_blk rfl
theorem a_La_append_23 (D : Nat) (c : mC) (Q : mQ) : mAt (mRun D) 371 23 c Q = mWp (mRun D) 371 0 (fun pc c => mAt (mRun D) 371 pc c Q) Q bk_La_append_23 c := mAt_blk rfl
theorem e_La_readBasin (D : Nat) (x0 x1 : mV) (I : mN) (S : mH) (Q : mQ) (h : mCs [x0, x1] ≤ 2) : mRun (D + 1) 372 [x0, x1] I S Q = mAt (mRun D) 372 0 ([some x0, some x1, none], [], I, S) Q := propext ⟨fun z => z.2, fun z => ⟨⟨h, Nat.le_of_ble_eq_true rfl⟩, z⟩⟩
theorem a_La_readBasin_0 (D : Nat) (c : mC) (Q : mQ) : mAt (mRun D) 372 0 c Q = mWp (mRun D) 372 0 (fun pc c => mAt (mRun D) 372 pc c Q) Q bk_La_readBasin_0 c := mAt_blk rfl
theorem a_La_readBasin_11 (D : Nat) (c : mC) (Q : mQ) : mAt (mRun D) 372 11 c Q = mWp (mRun D) 372 0 (fun pc c => mAt (mRun D) 372 pc c Q) Q bk_La_readBasin_11 c := mAt_blk rfl
theorem a_La_readBasin_14 (D : Nat) (c : mC) (Q : mQ) : mAt (mRun D) 372 14 c Q = mWp (mRun D) 372 0 (fun pc c => mAt (mRun D) 372 pc c Q) Q bk_La_readBasin_14 c := mAt_blk rfl
theorem e_La_writtenAt (D : Nat) (x0 x1 x2 : mV) (I : mN) (S : mH) (Q : mQ) (h : mCs [x0, x1, x2] ≤ 3) : mRun (D + 1) 373 [x0, x1, x2] I S Q = mAt (mRun D) 373 0 ([some x0, some x1, some x2, none], [], I, S) Q := propext ⟨fun z => z.2, fun z => ⟨⟨h, Nat.le_of_ble_eq_true rfl⟩, z⟩⟩
theorem a_La_writtenAt_0 (D : Nat) (c : mC) (Q : mQ) : mAt (mRun D) 373 0 c Q = mWp (mRun D) 373 0 (fun pc c => mAt (mRun D) 373 pc c Q) Q bk_La_writtenAt_0 c := mAt_blk rfl
theorem a_La_writtenAt_12 (D : Nat) (c : mC) (Q : mQ) : mAt (mRun D) 373 12 c Q = mWp (mRun D) 373 0 (fun pc c => mAt (mRun D) 373 pc c Q) Q bk_La_writtenAt_12 c := mAt_blk rfl
theorem a_La_writtenAt_15 (D : Nat) (c : mC) (Q : mQ) : mAt (mRun D) 373 15 c Q = mWp (mRun D) 373 0 (fun pc c => mAt (mRun D) 373 pc c Q) Q bk_La_writtenAt_15 c := mAt_blk rfl
theorem e_La_addPlace (D : Nat) (x0 x1 x2 x3 : mV) (I : mN) (S : mH) (Q : mQ) (h : mCs [x0, x1, x2, x3] ≤ 4) : mRun (D + 1) 374 [x0, x1, x2, x3] I S Q = mAt (mRun D) 374 0 ([some x0, some x1, some x2, some x3, none], [], I, S) Q := propext ⟨fun z => z.2, fun z => ⟨⟨h, Nat.le_of_ble_eq_true rfl⟩, z⟩⟩
theorem a_La_addPlace_0 (D : Nat) (c : mC) (Q : mQ) : mAt (mRun D) 374 0 c Q = mWp (mRun D) 374 0 (fun pc c => mAt (mRun D) 374 pc c Q) Q bk_La_addPlace_0 c := mAt_blk rfl
theorem a_La_addPlace_13 (D : Nat) (c : mC) (Q : mQ) : mAt (mRun D) 374 13 c Q = mWp (mRun D) 374 0 (fun pc c => mAt (mRun D) 374 pc c Q) Q bk_La_addPlace_13 c := mAt_blk rfl
theorem a_La_addPlace_17 (D : Nat) (c : mC) (Q : mQ) : mAt (mRun D) 374 17 c Q = mWp (mRun D) 374 0 (fun pc c => mAt (mRun D) 374 pc c Q) Q bk_La_addPlace_17 c := mAt_blk rfl
theorem a_La_addPlace_21 (D : Nat) (c : mC) (Q : mQ) : mAt (mRun D) 374 21 c Q = mWp (mRun D) 374 0 (fun pc c => mAt (mRun D) 374 pc c Q) Q bk_La_addPlace_21 c := mAt_blk rfl
theorem e_La_addReach (D : Nat) (x0 x1 x2 x3 x4 x5 : mV) (I : mN) (S : mH) (Q : mQ) (h : mCs [x0, x1, x2, x3, x4, x5] ≤ 6) : mRun (D + 1) 375 [x0, x1, x2, x3, x4, x5] I S Q = mAt (mRun D) 375 0 ([some x0, some x1, some x2, some x3, some x4, some x5, none], [], I, S) Q := propext ⟨fun z => z.2, fun z => ⟨⟨h, Nat.le_of_ble_eq_true rfl⟩, z⟩⟩
theorem a_La_addReach_0 (D : Nat) (c : mC) (Q : mQ) : mAt (mRun D) 375 0 c Q = mWp (mRun D) 375 0 (fun pc c => mAt (mRun D) 375 pc c Q) Q bk_La_addReach_0 c := mAt_blk rfl
theorem a_La_addReach_17 (D : Nat) (c : mC) (Q : mQ) : mAt (mRun D) 375 17 c Q = mWp (mRun D) 375 0 (fun pc c => mAt (mRun D) 375 pc c Q) Q bk_La_addReach_17 c := mAt_blk rfl
theorem a_La_addReach_21 (D : Nat) (c : mC) (Q : mQ) : mAt (mRun D) 375 21 c Q = mWp (mRun D) 375 0 (fun pc c => mAt (mRun D) 375 pc c Q) Q bk_La_addReach_21 c := mAt_blk rfl
theorem a_La_addReach_25 (D : Nat) (c : mC) (Q : mQ) : mAt (mRun D) 375 25 c Q = mWp (mRun D) 375 0 (fun pc c => mAt (mRun D) 375 pc c Q) Q bk_La_addReach_25 c := mAt_blk rfl
theorem a_La_addReach_29 (D : Nat) (c : mC) (Q : mQ) : mAt (mRun D) 375 29 c Q = mWp (mRun D) 375 0 (fun pc c => mAt (mRun D) 375 pc c Q) Q bk_La_addReach_29 c := mAt_blk rfl
theorem e_La_setCapacity (D : Nat) (x0 x1 x2 x3 x4 : mV) (I : mN) (S : mH) (Q : mQ) (h : mCs [x0, x1, x2, x3, x4] ≤ 5) : mRun (D + 1) 376 [x0, x1, x2, x3, x4] I S Q = mAt (mRun D) 376 0 ([some x0, some x1, some x2, some x3, some x4, none], [], I, S) Q := propext ⟨fun z => z.2, fun z => ⟨⟨h, Nat.le_of_ble_eq_true rfl⟩, z⟩⟩
theorem a_La_setCapacity_0 (D : Nat) (c : mC) (Q : mQ) : mAt (mRun D) 376 0 c Q = mWp (mRun D) 376 0 (fun pc c => mAt (mRun D) 376 pc c Q) Q bk_La_setCapacity_0 c := mAt_blk rfl
theorem a_La_setCapacity_15 (D : Nat) (c : mC) (Q : mQ) : mAt (mRun D) 376 15 c Q = mWp (mRun D) 376 0 (fun pc c => mAt (mRun D) 376 pc c Q) Q bk_La_setCapacity_15 c := mAt_blk rfl
theorem a_La_setCapacity_19 (D : Nat) (c : mC) (Q : mQ) : mAt (mRun D) 376 19 c Q = mWp (mRun D) 376 0 (fun pc c => mAt (mRun D) 376 pc c Q) Q bk_La_setCapacity_19 c := mAt_blk rfl
theorem a_La_setCapacity_23 (D : Nat) (c : mC) (Q : mQ) : mAt (mRun D) 376 23 c Q = mWp (mRun D) 376 0 (fun pc c => mAt (mRun D) 376 pc c Q) Q bk_La_setCapacity_23 c := mAt_blk rfl
theorem a_La_setCapacity_27 (D : Nat) (c : mC) (Q : mQ) : mAt (mRun D) 376 27 c Q = mWp (mRun D) 376 0 (fun pc c => mAt (mRun D) 376 pc c Q) Q bk_La_setCapacity_27 c := mAt_blk rfl
theorem e_La_addRight (D : Nat) (x0 x1 x2 x3 x4 : mV) (I : mN) (S : mH) (Q : mQ) (h : mCs [x0, x1, x2, x3, x4] ≤ 5) : mRun (D + 1) 377 [x0, x1, x2, x3, x4] I S Q = mAt (mRun D) 377 0 ([some x0, some x1, some x2, some x3, some x4, none], [], I, S) Q := propext ⟨fun z => z.2, fun z => ⟨⟨h, Nat.le_of_ble_eq_true rfl⟩, z⟩⟩
theorem a_La_addRight_0 (D : Nat) (c : mC) (Q : mQ) : mAt (mRun D) 377 0 c Q = mWp (mRun D) 377 0 (fun pc c => mAt (mRun D) 377 pc c Q) Q bk_La_addRight_0 c := mAt_blk rfl
theorem a_La_addRight_15 (D : Nat) (c : mC) (Q : mQ) : mAt (mRun D) 377 15 c Q = mWp (mRun D) 377 0 (fun pc c => mAt (mRun D) 377 pc c Q) Q bk_La_addRight_15 c := mAt_blk rfl
theorem a_La_addRight_19 (D : Nat) (c : mC) (Q : mQ) : mAt (mRun D) 377 19 c Q = mWp (mRun D) 377 0 (fun pc c => mAt (mRun D) 377 pc c Q) Q bk_La_addRight_19 c := mAt_blk rfl
theorem a_La_addRight_23 (D : Nat) (c : mC) (Q : mQ) : mAt (mRun D) 377 23 c Q = mWp (mRun D) 377 0 (fun pc c => mAt (mRun D) 377 pc c Q) Q bk_La_addRight_23 c := mAt_blk rfl
theorem a_La_addRight_27 (D : Nat) (c : mC) (Q : mQ) : mAt (mRun D) 377 27 c Q = mWp (mRun D) 377 0 (fun pc c => mAt (mRun D) 377 pc c Q) Q bk_La_addRight_27 c := mAt_blk rfl
theorem e_La_setAsk (D : Nat) (x0 x1 x2 x3 x4 x5 : mV) (I : mN) (S : mH) (Q : mQ) (h : mCs [x0, x1, x2, x3, x4, x5] ≤ 6) : mRun (D + 1) 378 [x0, x1, x2, x3, x4, x5] I S Q = mAt (mRun D) 378 0 ([some x0, some x1, some x2, some x3, some x4, some x5, none], [], I, S) Q := propext ⟨fun z => z.2, fun z => ⟨⟨h, Nat.le_of_ble_eq_true rfl⟩, z⟩⟩
theorem a_La_setAsk_0 (D : Nat) (c : mC) (Q : mQ) : mAt (mRun D) 378 0 c Q = mWp (mRun D) 378 0 (fun pc c => mAt (mRun D) 378 pc c Q) Q bk_La_setAsk_0 c := mAt_blk rfl
theorem a_La_setAsk_17 (D : Nat) (c : mC) (Q : mQ) : mAt (mRun D) 378 17 c Q = mWp (mRun D) 378 0 (fun pc c => mAt (mRun D) 378 pc c Q) Q bk_La_setAsk_17 c := mAt_blk rfl
theorem a_La_setAsk_21 (D : Nat) (c : mC) (Q : mQ) : mAt (mRun D) 378 21 c Q = mWp (mRun D) 378 0 (fun pc c => mAt (mRun D) 378 pc c Q) Q bk_La_setAsk_21 c := mAt_blk rfl
theorem a_La_setAsk_25 (D : Nat) (c : mC) (Q : mQ) : mAt (mRun D) 378 25 c Q = mWp (mRun D) 378 0 (fun pc c => mAt (mRun D) 378 pc c Q) Q bk_La_setAsk_25 c := mAt_blk rfl
theorem a_La_setAsk_29 (D : Nat) (c : mC) (Q : mQ) : mAt (mRun D) 378 29 c Q = mWp (mRun D) 378 0 (fun pc c => mAt (mRun D) 378 pc c Q) Q bk_La_setAsk_29 c := mAt_blk rfl
theorem e_La_setDecree (D : Nat) (x0 x1 x2 : mV) (I : mN) (S : mH) (Q : mQ) (h : mCs [x0, x1, x2] ≤ 3) : mRun (D + 1) 379 [x0, x1, x2] I S Q = mAt (mRun D) 379 0 ([some x0, some x1, some x2, none], [], I, S) Q := propext ⟨fun z => z.2, fun z => ⟨⟨h, Nat.le_of_ble_eq_true rfl⟩, z⟩⟩
theorem a_La_setDecree_0 (D : Nat) (c : mC) (Q : mQ) : mAt (mRun D) 379 0 c Q = mWp (mRun D) 379 0 (fun pc c => mAt (mRun D) 379 pc c Q) Q bk_La_setDecree_0 c := mAt_blk rfl
theorem a_La_setDecree_12 (D : Nat) (c : mC) (Q : mQ) : mAt (mRun D) 379 12 c Q = mWp (mRun D) 379 0 (fun pc c => mAt (mRun D) 379 pc c Q) Q bk_La_setDecree_12 c := mAt_blk rfl
theorem a_La_setDecree_15 (D : Nat) (c : mC) (Q : mQ) : mAt (mRun D) 379 15 c Q = mWp (mRun D) 379 0 (fun pc c => mAt (mRun D) 379 pc c Q) Q bk_La_setDecree_15 c := mAt_blk rfl
theorem a_La_setDecree_18 (D : Nat) (c : mC) (Q : mQ) : mAt (mRun D) 379 18 c Q = mWp (mRun D) 379 0 (fun pc c => mAt (mRun D) 379 pc c Q) Q bk_La_setDecree_18 c := mAt_blk rfl
theorem a_La_setDecree_21 (D : Nat) (c : mC) (Q : mQ) : mAt (mRun D) 379 21 c Q = mWp (mRun D) 379 0 (fun pc c => mAt (mRun D) 379 pc c Q) Q bk_La_setDecree_21 c := mAt_blk rfl
theorem e_La_abandon (D : Nat) (x0 x1 x2 : mV) (I : mN) (S : mH) (Q : mQ) (h : mCs [x0, x1, x2] ≤ 3) : mRun (D + 1) 380 [x0, x1, x2] I S Q = mAt (mRun D) 380 0 ([some x0, some x1, some x2, none], [], I, S) Q := propext ⟨fun z => z.2, fun z => ⟨⟨h, Nat.le_of_ble_eq_true rfl⟩, z⟩⟩
theorem a_La_abandon_0 (D : Nat) (c : mC) (Q : mQ) : mAt (mRun D) 380 0 c Q = mWp (mRun D) 380 0 (fun pc c => mAt (mRun D) 380 pc c Q) Q bk_La_abandon_0 c := mAt_blk rfl
theorem a_La_abandon_12 (D : Nat) (c : mC) (Q : mQ) : mAt (mRun D) 380 12 c Q = mWp (mRun D) 380 0 (fun pc c => mAt (mRun D) 380 pc c Q) Q bk_La_abandon_12 c := mAt_blk rfl
theorem a_La_abandon_15 (D : Nat) (c : mC) (Q : mQ) : mAt (mRun D) 380 15 c Q = mWp (mRun D) 380 0 (fun pc c => mAt (mRun D) 380 pc c Q) Q bk_La_abandon_15 c := mAt_blk rfl
theorem a_La_abandon_18 (D : Nat) (c : mC) (Q : mQ) : mAt (mRun D) 380 18 c Q = mWp (mRun D) 380 0 (fun pc c => mAt (mRun D) 380 pc c Q) Q bk_La_abandon_18 c := mAt_blk rfl
theorem e_La_fund (D : Nat) (x0 x1 x2 x3 : mV) (I : mN) (S : mH) (Q : mQ) (h : mCs [x0, x1, x2, x3] ≤ 4) : mRun (D + 1) 381 [x0, x1, x2, x3] I S Q = mAt (mRun D) 381 0 ([some x0, some x1, some x2, some x3, none], [], I, S) Q := propext ⟨fun z => z.2, fun z => ⟨⟨h, Nat.le_of_ble_eq_true rfl⟩, z⟩⟩
theorem a_La_fund_0 (D : Nat) (c : mC) (Q : mQ) : mAt (mRun D) 381 0 c Q = mWp (mRun D) 381 0 (fun pc c => mAt (mRun D) 381 pc c Q) Q bk_La_fund_0 c := mAt_blk rfl
theorem a_La_fund_13 (D : Nat) (c : mC) (Q : mQ) : mAt (mRun D) 381 13 c Q = mWp (mRun D) 381 0 (fun pc c => mAt (mRun D) 381 pc c Q) Q bk_La_fund_13 c := mAt_blk rfl
theorem a_La_fund_17 (D : Nat) (c : mC) (Q : mQ) : mAt (mRun D) 381 17 c Q = mWp (mRun D) 381 0 (fun pc c => mAt (mRun D) 381 pc c Q) Q bk_La_fund_17 c := mAt_blk rfl
theorem a_La_fund_21 (D : Nat) (c : mC) (Q : mQ) : mAt (mRun D) 381 21 c Q = mWp (mRun D) 381 0 (fun pc c => mAt (mRun D) 381 pc c Q) Q bk_La_fund_21 c := mAt_blk rfl
theorem a_La_fund_25 (D : Nat) (c : mC) (Q : mQ) : mAt (mRun D) 381 25 c Q = mWp (mRun D) 381 0 (fun pc c => mAt (mRun D) 381 pc c Q) Q bk_La_fund_25 c := mAt_blk rfl
theorem e_La_lease (D : Nat) (x0 x1 x2 x3 x4 x5 x6 : mV) (I : mN) (S : mH) (Q : mQ) (h : mCs [x0, x1, x2, x3, x4, x5, x6] ≤ 7) : mRun (D + 1) 382 [x0, x1, x2, x3, x4, x5, x6] I S Q = mAt (mRun D) 382 0 ([some x0, some x1, some x2, some x3, some x4, some x5, some x6, none], [], I, S) Q := propext ⟨fun z => z.2, fun z => ⟨⟨h, Nat.le_of_ble_eq_true rfl⟩, z⟩⟩
theorem a_La_lease_0 (D : Nat) (c : mC) (Q : mQ) : mAt (mRun D) 382 0 c Q = mWp (mRun D) 382 0 (fun pc c => mAt (mRun D) 382 pc c Q) Q bk_La_lease_0 c := mAt_blk rfl
theorem a_La_lease_19 (D : Nat) (c : mC) (Q : mQ) : mAt (mRun D) 382 19 c Q = mWp (mRun D) 382 0 (fun pc c => mAt (mRun D) 382 pc c Q) Q bk_La_lease_19 c := mAt_blk rfl
theorem a_La_lease_23 (D : Nat) (c : mC) (Q : mQ) : mAt (mRun D) 382 23 c Q = mWp (mRun D) 382 0 (fun pc c => mAt (mRun D) 382 pc c Q) Q bk_La_lease_23 c := mAt_blk rfl
theorem a_La_lease_27 (D : Nat) (c : mC) (Q : mQ) : mAt (mRun D) 382 27 c Q = mWp (mRun D) 382 0 (fun pc c => mAt (mRun D) 382 pc c Q) Q bk_La_lease_27 c := mAt_blk rfl
theorem a_La_lease_31 (D : Nat) (c : mC) (Q : mQ) : mAt (mRun D) 382 31 c Q = mWp (mRun D) 382 0 (fun pc c => mAt (mRun D) 382 pc c Q) Q bk_La_lease_31 c := mAt_blk rfl
theorem e_La_setInflow (D : Nat) (x0 x1 x2 x3 x4 x5 : mV) (I : mN) (S : mH) (Q : mQ) (h : mCs [x0, x1, x2, x3, x4, x5] ≤ 6) : mRun (D + 1) 383 [x0, x1, x2, x3, x4, x5] I S Q = mAt (mRun D) 383 0 ([some x0, some x1, some x2, some x3, some x4, some x5, none], [], I, S) Q := propext ⟨fun z => z.2, fun z => ⟨⟨h, Nat.le_of_ble_eq_true rfl⟩, z⟩⟩
theorem a_La_setInflow_0 (D : Nat) (c : mC) (Q : mQ) : mAt (mRun D) 383 0 c Q = mWp (mRun D) 383 0 (fun pc c => mAt (mRun D) 383 pc c Q) Q bk_La_setInflow_0 c := mAt_blk rfl
theorem a_La_setInflow_17 (D : Nat) (c : mC) (Q : mQ) : mAt (mRun D) 383 17 c Q = mWp (mRun D) 383 0 (fun pc c => mAt (mRun D) 383 pc c Q) Q bk_La_setInflow_17 c := mAt_blk rfl
theorem a_La_setInflow_21 (D : Nat) (c : mC) (Q : mQ) : mAt (mRun D) 383 21 c Q = mWp (mRun D) 383 0 (fun pc c => mAt (mRun D) 383 pc c Q) Q bk_La_setInflow_21 c := mAt_blk rfl
theorem a_La_setInflow_25 (D : Nat) (c : mC) (Q : mQ) : mAt (mRun D) 383 25 c Q = mWp (mRun D) 383 0 (fun pc c => mAt (mRun D) 383 pc c Q) Q bk_La_setInflow_25 c := mAt_blk rfl
theorem a_La_setInflow_29 (D : Nat) (c : mC) (Q : mQ) : mAt (mRun D) 383 29 c Q = mWp (mRun D) 383 0 (fun pc c => mAt (mRun D) 383 pc c Q) Q bk_La_setInflow_29 c := mAt_blk rfl
theorem e_La_gauge (D : Nat) (x0 x1 x2 x3 : mV) (I : mN) (S : mH) (Q : mQ) (h : mCs [x0, x1, x2, x3] ≤ 4) : mRun (D + 1) 384 [x0, x1, x2, x3] I S Q = mAt (mRun D) 384 0 ([some x0, some x1, some x2, some x3, none], [], I, S) Q := propext ⟨fun z => z.2, fun z => ⟨⟨h, Nat.le_of_ble_eq_true rfl⟩, z⟩⟩
theorem a_La_gauge_0 (D : Nat) (c : mC) (Q : mQ) : mAt (mRun D) 384 0 c Q = mWp (mRun D) 384 0 (fun pc c => mAt (mRun D) 384 pc c Q) Q bk_La_gauge_0 c := mAt_blk rfl
theorem a_La_gauge_13 (D : Nat) (c : mC) (Q : mQ) : mAt (mRun D) 384 13 c Q = mWp (mRun D) 384 0 (fun pc c => mAt (mRun D) 384 pc c Q) Q bk_La_gauge_13 c := mAt_blk rfl
theorem a_La_gauge_17 (D : Nat) (c : mC) (Q : mQ) : mAt (mRun D) 384 17 c Q = mWp (mRun D) 384 0 (fun pc c => mAt (mRun D) 384 pc c Q) Q bk_La_gauge_17 c := mAt_blk rfl
theorem a_La_gauge_21 (D : Nat) (c : mC) (Q : mQ) : mAt (mRun D) 384 21 c Q = mWp (mRun D) 384 0 (fun pc c => mAt (mRun D) 384 pc c Q) Q bk_La_gauge_21 c := mAt_blk rfl
theorem a_La_gauge_25 (D : Nat) (c : mC) (Q : mQ) : mAt (mRun D) 384 25 c Q = mWp (mRun D) 384 0 (fun pc c => mAt (mRun D) 384 pc c Q) Q bk_La_gauge_25 c := mAt_blk rfl
theorem e_La_measure (D : Nat) (x0 x1 x2 x3 : mV) (I : mN) (S : mH) (Q : mQ) (h : mCs [x0, x1, x2, x3] ≤ 4) : mRun (D + 1) 385 [x0, x1, x2, x3] I S Q = mAt (mRun D) 385 0 ([some x0, some x1, some x2, some x3, none], [], I, S) Q := propext ⟨fun z => z.2, fun z => ⟨⟨h, Nat.le_of_ble_eq_true rfl⟩, z⟩⟩
theorem a_La_measure_0 (D : Nat) (c : mC) (Q : mQ) : mAt (mRun D) 385 0 c Q = mWp (mRun D) 385 0 (fun pc c => mAt (mRun D) 385 pc c Q) Q bk_La_measure_0 c := mAt_blk rfl
theorem a_La_measure_13 (D : Nat) (c : mC) (Q : mQ) : mAt (mRun D) 385 13 c Q = mWp (mRun D) 385 0 (fun pc c => mAt (mRun D) 385 pc c Q) Q bk_La_measure_13 c := mAt_blk rfl
theorem a_La_measure_17 (D : Nat) (c : mC) (Q : mQ) : mAt (mRun D) 385 17 c Q = mWp (mRun D) 385 0 (fun pc c => mAt (mRun D) 385 pc c Q) Q bk_La_measure_17 c := mAt_blk rfl
theorem a_La_measure_21 (D : Nat) (c : mC) (Q : mQ) : mAt (mRun D) 385 21 c Q = mWp (mRun D) 385 0 (fun pc c => mAt (mRun D) 385 pc c Q) Q bk_La_measure_21 c := mAt_blk rfl
theorem a_La_measure_25 (D : Nat) (c : mC) (Q : mQ) : mAt (mRun D) 385 25 c Q = mWp (mRun D) 385 0 (fun pc c => mAt (mRun D) 385 pc c Q) Q bk_La_measure_25 c := mAt_blk rfl
theorem e_La_passWeek (D : Nat) (x0 x1 : mV) (I : mN) (S : mH) (Q : mQ) (h : mCs [x0, x1] ≤ 2) : mRun (D + 1) 386 [x0, x1] I S Q = mAt (mRun D) 386 0 ([some x0, some x1, none], [], I, S) Q := propext ⟨fun z => z.2, fun z => ⟨⟨h, Nat.le_of_ble_eq_true rfl⟩, z⟩⟩
theorem a_La_passWeek_0 (D : Nat) (c : mC) (Q : mQ) : mAt (mRun D) 386 0 c Q = mWp (mRun D) 386 0 (fun pc c => mAt (mRun D) 386 pc c Q) Q bk_La_passWeek_0 c := mAt_blk rfl
theorem a_La_passWeek_11 (D : Nat) (c : mC) (Q : mQ) : mAt (mRun D) 386 11 c Q = mWp (mRun D) 386 0 (fun pc c => mAt (mRun D) 386 pc c Q) Q bk_La_passWeek_11 c := mAt_blk rfl
theorem a_La_passWeek_14 (D : Nat) (c : mC) (Q : mQ) : mAt (mRun D) 386 14 c Q = mWp (mRun D) 386 0 (fun pc c => mAt (mRun D) 386 pc c Q) Q bk_La_passWeek_14 c := mAt_blk rfl
theorem e_La_createBranch (D : Nat) (x0 x1 : mV) (I : mN) (S : mH) (Q : mQ) (h : mCs [x0, x1] ≤ 2) : mRun (D + 1) 387 [x0, x1] I S Q = mAt (mRun D) 387 0 ([some x0, some x1, none], [], I, S) Q := propext ⟨fun z => z.2, fun z => ⟨⟨h, Nat.le_of_ble_eq_true rfl⟩, z⟩⟩
theorem a_La_createBranch_0 (D : Nat) (c : mC) (Q : mQ) : mAt (mRun D) 387 0 c Q = mWp (mRun D) 387 0 (fun pc c => mAt (mRun D) 387 pc c Q) Q bk_La_createBranch_0 c := mAt_blk rfl
theorem a_La_createBranch_11 (D : Nat) (c : mC) (Q : mQ) : mAt (mRun D) 387 11 c Q = mWp (mRun D) 387 0 (fun pc c => mAt (mRun D) 387 pc c Q) Q bk_La_createBranch_11 c := mAt_blk rfl
theorem a_La_createBranch_14 (D : Nat) (c : mC) (Q : mQ) : mAt (mRun D) 387 14 c Q = mWp (mRun D) 387 0 (fun pc c => mAt (mRun D) 387 pc c Q) Q bk_La_createBranch_14 c := mAt_blk rfl
theorem e_La_switchBranch (D : Nat) (x0 x1 x2 : mV) (I : mN) (S : mH) (Q : mQ) (h : mCs [x0, x1, x2] ≤ 3) : mRun (D + 1) 388 [x0, x1, x2] I S Q = mAt (mRun D) 388 0 ([some x0, some x1, some x2, none], [], I, S) Q := propext ⟨fun z => z.2, fun z => ⟨⟨h, Nat.le_of_ble_eq_true rfl⟩, z⟩⟩
theorem a_La_switchBranch_0 (D : Nat) (c : mC) (Q : mQ) : mAt (mRun D) 388 0 c Q = mWp (mRun D) 388 0 (fun pc c => mAt (mRun D) 388 pc c Q) Q bk_La_switchBranch_0 c := mAt_blk rfl
theorem a_La_switchBranch_12 (D : Nat) (c : mC) (Q : mQ) : mAt (mRun D) 388 12 c Q = mWp (mRun D) 388 0 (fun pc c => mAt (mRun D) 388 pc c Q) Q bk_La_switchBranch_12 c := mAt_blk rfl
theorem a_La_switchBranch_15 (D : Nat) (c : mC) (Q : mQ) : mAt (mRun D) 388 15 c Q = mWp (mRun D) 388 0 (fun pc c => mAt (mRun D) 388 pc c Q) Q bk_La_switchBranch_15 c := mAt_blk rfl
theorem e_La_difference (D : Nat) (x0 x1 x2 : mV) (I : mN) (S : mH) (Q : mQ) (h : mCs [x0, x1, x2] ≤ 3) : mRun (D + 1) 389 [x0, x1, x2] I S Q = mAt (mRun D) 389 0 ([some x0, some x1, some x2, none], [], I, S) Q := propext ⟨fun z => z.2, fun z => ⟨⟨h, Nat.le_of_ble_eq_true rfl⟩, z⟩⟩
theorem a_La_difference_0 (D : Nat) (c : mC) (Q : mQ) : mAt (mRun D) 389 0 c Q = mWp (mRun D) 389 0 (fun pc c => mAt (mRun D) 389 pc c Q) Q bk_La_difference_0 c := mAt_blk rfl
theorem a_La_difference_12 (D : Nat) (c : mC) (Q : mQ) : mAt (mRun D) 389 12 c Q = mWp (mRun D) 389 0 (fun pc c => mAt (mRun D) 389 pc c Q) Q bk_La_difference_12 c := mAt_blk rfl
theorem a_La_difference_15 (D : Nat) (c : mC) (Q : mQ) : mAt (mRun D) 389 15 c Q = mWp (mRun D) 389 0 (fun pc c => mAt (mRun D) 389 pc c Q) Q bk_La_difference_15 c := mAt_blk rfl
theorem e_La_capacityAt (D : Nat) (x0 x1 x2 x3 : mV) (I : mN) (S : mH) (Q : mQ) (h : mCs [x0, x1, x2, x3] ≤ 4) : mRun (D + 1) 390 [x0, x1, x2, x3] I S Q = mAt (mRun D) 390 0 ([some x0, some x1, some x2, some x3, none], [], I, S) Q := propext ⟨fun z => z.2, fun z => ⟨⟨h, Nat.le_of_ble_eq_true rfl⟩, z⟩⟩
theorem a_La_capacityAt_0 (D : Nat) (c : mC) (Q : mQ) : mAt (mRun D) 390 0 c Q = mWp (mRun D) 390 0 (fun pc c => mAt (mRun D) 390 pc c Q) Q bk_La_capacityAt_0 c := mAt_blk rfl
theorem a_La_capacityAt_13 (D : Nat) (c : mC) (Q : mQ) : mAt (mRun D) 390 13 c Q = mWp (mRun D) 390 0 (fun pc c => mAt (mRun D) 390 pc c Q) Q bk_La_capacityAt_13 c := mAt_blk rfl
theorem a_La_capacityAt_17 (D : Nat) (c : mC) (Q : mQ) : mAt (mRun D) 390 17 c Q = mWp (mRun D) 390 0 (fun pc c => mAt (mRun D) 390 pc c Q) Q bk_La_capacityAt_17 c := mAt_blk rfl
theorem a_La_capacityAt_21 (D : Nat) (c : mC) (Q : mQ) : mAt (mRun D) 390 21 c Q = mWp (mRun D) 390 0 (fun pc c => mAt (mRun D) 390 pc c Q) Q bk_La_capacityAt_21 c := mAt_blk rfl
theorem e_La_inflowAt (D : Nat) (x0 x1 x2 x3 x4 : mV) (I : mN) (S : mH) (Q : mQ) (h : mCs [x0, x1, x2, x3, x4] ≤ 5) : mRun (D + 1) 391 [x0, x1, x2, x3, x4] I S Q = mAt (mRun D) 391 0 ([some x0, some x1, some x2, some x3, some x4, none], [], I, S) Q := propext ⟨fun z => z.2, fun z => ⟨⟨h, Nat.le_of_ble_eq_true rfl⟩, z⟩⟩
theorem a_La_inflowAt_0 (D : Nat) (c : mC) (Q : mQ) : mAt (mRun D) 391 0 c Q = mWp (mRun D) 391 0 (fun pc c => mAt (mRun D) 391 pc c Q) Q bk_La_inflowAt_0 c := mAt_blk rfl
theorem a_La_inflowAt_15 (D : Nat) (c : mC) (Q : mQ) : mAt (mRun D) 391 15 c Q = mWp (mRun D) 391 0 (fun pc c => mAt (mRun D) 391 pc c Q) Q bk_La_inflowAt_15 c := mAt_blk rfl
theorem a_La_inflowAt_19 (D : Nat) (c : mC) (Q : mQ) : mAt (mRun D) 391 19 c Q = mWp (mRun D) 391 0 (fun pc c => mAt (mRun D) 391 pc c Q) Q bk_La_inflowAt_19 c := mAt_blk rfl
theorem a_La_inflowAt_23 (D : Nat) (c : mC) (Q : mQ) : mAt (mRun D) 391 23 c Q = mWp (mRun D) 391 0 (fun pc c => mAt (mRun D) 391 pc c Q) Q bk_La_inflowAt_23 c := mAt_blk rfl
theorem e_La_askedAt (D : Nat) (x0 x1 x2 x3 x4 : mV) (I : mN) (S : mH) (Q : mQ) (h : mCs [x0, x1, x2, x3, x4] ≤ 5) : mRun (D + 1) 392 [x0, x1, x2, x3, x4] I S Q = mAt (mRun D) 392 0 ([some x0, some x1, some x2, some x3, some x4, none], [], I, S) Q := propext ⟨fun z => z.2, fun z => ⟨⟨h, Nat.le_of_ble_eq_true rfl⟩, z⟩⟩
theorem a_La_askedAt_0 (D : Nat) (c : mC) (Q : mQ) : mAt (mRun D) 392 0 c Q = mWp (mRun D) 392 0 (fun pc c => mAt (mRun D) 392 pc c Q) Q bk_La_askedAt_0 c := mAt_blk rfl
theorem a_La_askedAt_15 (D : Nat) (c : mC) (Q : mQ) : mAt (mRun D) 392 15 c Q = mWp (mRun D) 392 0 (fun pc c => mAt (mRun D) 392 pc c Q) Q bk_La_askedAt_15 c := mAt_blk rfl
theorem a_La_askedAt_19 (D : Nat) (c : mC) (Q : mQ) : mAt (mRun D) 392 19 c Q = mWp (mRun D) 392 0 (fun pc c => mAt (mRun D) 392 pc c Q) Q bk_La_askedAt_19 c := mAt_blk rfl
theorem a_La_askedAt_23 (D : Nat) (c : mC) (Q : mQ) : mAt (mRun D) 392 23 c Q = mWp (mRun D) 392 0 (fun pc c => mAt (mRun D) 392 pc c Q) Q bk_La_askedAt_23 c := mAt_blk rfl
theorem e_La_decreeValue (D : Nat) (x0 x1 x2 x3 x4 : mV) (I : mN) (S : mH) (Q : mQ) (h : mCs [x0, x1, x2, x3, x4] ≤ 5) : mRun (D + 1) 393 [x0, x1, x2, x3, x4] I S Q = mAt (mRun D) 393 0 ([some x0, some x1, some x2, some x3, some x4, none], [], I, S) Q := propext ⟨fun z => z.2, fun z => ⟨⟨h, Nat.le_of_ble_eq_true rfl⟩, z⟩⟩
theorem a_La_decreeValue_0 (D : Nat) (c : mC) (Q : mQ) : mAt (mRun D) 393 0 c Q = mWp (mRun D) 393 0 (fun pc c => mAt (mRun D) 393 pc c Q) Q bk_La_decreeValue_0 c := mAt_blk rfl
theorem a_La_decreeValue_15 (D : Nat) (c : mC) (Q : mQ) : mAt (mRun D) 393 15 c Q = mWp (mRun D) 393 0 (fun pc c => mAt (mRun D) 393 pc c Q) Q bk_La_decreeValue_15 c := mAt_blk rfl
theorem a_La_decreeValue_19 (D : Nat) (c : mC) (Q : mQ) : mAt (mRun D) 393 19 c Q = mWp (mRun D) 393 0 (fun pc c => mAt (mRun D) 393 pc c Q) Q bk_La_decreeValue_19 c := mAt_blk rfl
theorem a_La_decreeValue_23 (D : Nat) (c : mC) (Q : mQ) : mAt (mRun D) 393 23 c Q = mWp (mRun D) 393 0 (fun pc c => mAt (mRun D) 393 pc c Q) Q bk_La_decreeValue_23 c := mAt_blk rfl
theorem a_La_decreeValue_27 (D : Nat) (c : mC) (Q : mQ) : mAt (mRun D) 393 27 c Q = mWp (mRun D) 393 0 (fun pc c => mAt (mRun D) 393 pc c Q) Q bk_La_decreeValue_27 c := mAt_blk rfl
theorem e_La_rankOf (D : Nat) (x0 x1 x2 : mV) (I : mN) (S : mH) (Q : mQ) (h : mCs [x0, x1, x2] ≤ 3) : mRun (D + 1) 394 [x0, x1, x2] I S Q = mAt (mRun D) 394 0 ([some x0, some x1, some x2, none], [], I, S) Q := propext ⟨fun z => z.2, fun z => ⟨⟨h, Nat.le_of_ble_eq_true rfl⟩, z⟩⟩
theorem a_La_rankOf_0 (D : Nat) (c : mC) (Q : mQ) : mAt (mRun D) 394 0 c Q = mWp (mRun D) 394 0 (fun pc c => mAt (mRun D) 394 pc c Q) Q bk_La_rankOf_0 c := mAt_blk rfl
theorem a_La_rankOf_12 (D : Nat) (c : mC) (Q : mQ) : mAt (mRun D) 394 12 c Q = mWp (mRun D) 394 0 (fun pc c => mAt (mRun D) 394 pc c Q) Q bk_La_rankOf_12 c := mAt_blk rfl
theorem a_La_rankOf_15 (D : Nat) (c : mC) (Q : mQ) : mAt (mRun D) 394 15 c Q = mWp (mRun D) 394 0 (fun pc c => mAt (mRun D) 394 pc c Q) Q bk_La_rankOf_15 c := mAt_blk rfl
theorem e_La_lessorOf (D : Nat) (x0 x1 x2 : mV) (I : mN) (S : mH) (Q : mQ) (h : mCs [x0, x1, x2] ≤ 3) : mRun (D + 1) 395 [x0, x1, x2] I S Q = mAt (mRun D) 395 0 ([some x0, some x1, some x2, none], [], I, S) Q := propext ⟨fun z => z.2, fun z => ⟨⟨h, Nat.le_of_ble_eq_true rfl⟩, z⟩⟩
theorem a_La_lessorOf_0 (D : Nat) (c : mC) (Q : mQ) : mAt (mRun D) 395 0 c Q = mWp (mRun D) 395 0 (fun pc c => mAt (mRun D) 395 pc c Q) Q bk_La_lessorOf_0 c := mAt_blk rfl
theorem a_La_lessorOf_12 (D : Nat) (c : mC) (Q : mQ) : mAt (mRun D) 395 12 c Q = mWp (mRun D) 395 0 (fun pc c => mAt (mRun D) 395 pc c Q) Q bk_La_lessorOf_12 c := mAt_blk rfl
theorem a_La_lessorOf_15 (D : Nat) (c : mC) (Q : mQ) : mAt (mRun D) 395 15 c Q = mWp (mRun D) 395 0 (fun pc c => mAt (mRun D) 395 pc c Q) Q bk_La_lessorOf_15 c := mAt_blk rfl
theorem e_La_balance (D : Nat) (x0 x1 x2 : mV) (I : mN) (S : mH) (Q : mQ) (h : mCs [x0, x1, x2] ≤ 3) : mRun (D + 1) 396 [x0, x1, x2] I S Q = mAt (mRun D) 396 0 ([some x0, some x1, some x2, none], [], I, S) Q := propext ⟨fun z => z.2, fun z => ⟨⟨h, Nat.le_of_ble_eq_true rfl⟩, z⟩⟩
theorem a_La_balance_0 (D : Nat) (c : mC) (Q : mQ) : mAt (mRun D) 396 0 c Q = mWp (mRun D) 396 0 (fun pc c => mAt (mRun D) 396 pc c Q) Q bk_La_balance_0 c := mAt_blk rfl
theorem a_La_balance_12 (D : Nat) (c : mC) (Q : mQ) : mAt (mRun D) 396 12 c Q = mWp (mRun D) 396 0 (fun pc c => mAt (mRun D) 396 pc c Q) Q bk_La_balance_12 c := mAt_blk rfl
theorem a_La_balance_15 (D : Nat) (c : mC) (Q : mQ) : mAt (mRun D) 396 15 c Q = mWp (mRun D) 396 0 (fun pc c => mAt (mRun D) 396 pc c Q) Q bk_La_balance_15 c := mAt_blk rfl
theorem e_La_amountAt (D : Nat) (x0 x1 x2 x3 x4 : mV) (I : mN) (S : mH) (Q : mQ) (h : mCs [x0, x1, x2, x3, x4] ≤ 5) : mRun (D + 1) 397 [x0, x1, x2, x3, x4] I S Q = mAt (mRun D) 397 0 ([some x0, some x1, some x2, some x3, some x4, none], [], I, S) Q := propext ⟨fun z => z.2, fun z => ⟨⟨h, Nat.le_of_ble_eq_true rfl⟩, z⟩⟩
theorem a_La_amountAt_0 (D : Nat) (c : mC) (Q : mQ) : mAt (mRun D) 397 0 c Q = mWp (mRun D) 397 0 (fun pc c => mAt (mRun D) 397 pc c Q) Q bk_La_amountAt_0 c := mAt_blk rfl
theorem a_La_amountAt_15 (D : Nat) (c : mC) (Q : mQ) : mAt (mRun D) 397 15 c Q = mWp (mRun D) 397 0 (fun pc c => mAt (mRun D) 397 pc c Q) Q bk_La_amountAt_15 c := mAt_blk rfl
theorem a_La_amountAt_19 (D : Nat) (c : mC) (Q : mQ) : mAt (mRun D) 397 19 c Q = mWp (mRun D) 397 0 (fun pc c => mAt (mRun D) 397 pc c Q) Q bk_La_amountAt_19 c := mAt_blk rfl
theorem a_La_amountAt_23 (D : Nat) (c : mC) (Q : mQ) : mAt (mRun D) 397 23 c Q = mWp (mRun D) 397 0 (fun pc c => mAt (mRun D) 397 pc c Q) Q bk_La_amountAt_23 c := mAt_blk rfl
theorem e_La_total (D : Nat) (x0 x1 x2 : mV) (I : mN) (S : mH) (Q : mQ) (h : mCs [x0, x1, x2] ≤ 3) : mRun (D + 1) 398 [x0, x1, x2] I S Q = mAt (mRun D) 398 0 ([some x0, some x1, some x2, none], [], I, S) Q := propext ⟨fun z => z.2, fun z => ⟨⟨h, Nat.le_of_ble_eq_true rfl⟩, z⟩⟩
theorem a_La_total_0 (D : Nat) (c : mC) (Q : mQ) : mAt (mRun D) 398 0 c Q = mWp (mRun D) 398 0 (fun pc c => mAt (mRun D) 398 pc c Q) Q bk_La_total_0 c := mAt_blk rfl
theorem a_La_total_12 (D : Nat) (c : mC) (Q : mQ) : mAt (mRun D) 398 12 c Q = mWp (mRun D) 398 0 (fun pc c => mAt (mRun D) 398 pc c Q) Q bk_La_total_12 c := mAt_blk rfl
theorem a_La_total_15 (D : Nat) (c : mC) (Q : mQ) : mAt (mRun D) 398 15 c Q = mWp (mRun D) 398 0 (fun pc c => mAt (mRun D) 398 pc c Q) Q bk_La_total_15 c := mAt_blk rfl
theorem e_La_shortage (D : Nat) (x0 x1 x2 x3 : mV) (I : mN) (S : mH) (Q : mQ) (h : mCs [x0, x1, x2, x3] ≤ 4) : mRun (D + 1) 399 [x0, x1, x2, x3] I S Q = mAt (mRun D) 399 0 ([some x0, some x1, some x2, some x3, none], [], I, S) Q := propext ⟨fun z => z.2, fun z => ⟨⟨h, Nat.le_of_ble_eq_true rfl⟩, z⟩⟩
theorem a_La_shortage_0 (D : Nat) (c : mC) (Q : mQ) : mAt (mRun D) 399 0 c Q = mWp (mRun D) 399 0 (fun pc c => mAt (mRun D) 399 pc c Q) Q bk_La_shortage_0 c := mAt_blk rfl
theorem a_La_shortage_13 (D : Nat) (c : mC) (Q : mQ) : mAt (mRun D) 399 13 c Q = mWp (mRun D) 399 0 (fun pc c => mAt (mRun D) 399 pc c Q) Q bk_La_shortage_13 c := mAt_blk rfl
theorem a_La_shortage_17 (D : Nat) (c : mC) (Q : mQ) : mAt (mRun D) 399 17 c Q = mWp (mRun D) 399 0 (fun pc c => mAt (mRun D) 399 pc c Q) Q bk_La_shortage_17 c := mAt_blk rfl
theorem a_La_shortage_21 (D : Nat) (c : mC) (Q : mQ) : mAt (mRun D) 399 21 c Q = mWp (mRun D) 399 0 (fun pc c => mAt (mRun D) 399 pc c Q) Q bk_La_shortage_21 c := mAt_blk rfl
theorem e_La_sent (D : Nat) (x0 x1 x2 x3 : mV) (I : mN) (S : mH) (Q : mQ) (h : mCs [x0, x1, x2, x3] ≤ 4) : mRun (D + 1) 400 [x0, x1, x2, x3] I S Q = mAt (mRun D) 400 0 ([some x0, some x1, some x2, some x3, none], [], I, S) Q := propext ⟨fun z => z.2, fun z => ⟨⟨h, Nat.le_of_ble_eq_true rfl⟩, z⟩⟩
theorem a_La_sent_0 (D : Nat) (c : mC) (Q : mQ) : mAt (mRun D) 400 0 c Q = mWp (mRun D) 400 0 (fun pc c => mAt (mRun D) 400 pc c Q) Q bk_La_sent_0 c := mAt_blk rfl
theorem a_La_sent_13 (D : Nat) (c : mC) (Q : mQ) : mAt (mRun D) 400 13 c Q = mWp (mRun D) 400 0 (fun pc c => mAt (mRun D) 400 pc c Q) Q bk_La_sent_13 c := mAt_blk rfl
theorem a_La_sent_17 (D : Nat) (c : mC) (Q : mQ) : mAt (mRun D) 400 17 c Q = mWp (mRun D) 400 0 (fun pc c => mAt (mRun D) 400 pc c Q) Q bk_La_sent_17 c := mAt_blk rfl
theorem a_La_sent_21 (D : Nat) (c : mC) (Q : mQ) : mAt (mRun D) 400 21 c Q = mWp (mRun D) 400 0 (fun pc c => mAt (mRun D) 400 pc c Q) Q bk_La_sent_21 c := mAt_blk rfl
theorem e_La_storageAt (D : Nat) (x0 x1 x2 x3 : mV) (I : mN) (S : mH) (Q : mQ) (h : mCs [x0, x1, x2, x3] ≤ 4) : mRun (D + 1) 401 [x0, x1, x2, x3] I S Q = mAt (mRun D) 401 0 ([some x0, some x1, some x2, some x3, none], [], I, S) Q := propext ⟨fun z => z.2, fun z => ⟨⟨h, Nat.le_of_ble_eq_true rfl⟩, z⟩⟩
theorem a_La_storageAt_0 (D : Nat) (c : mC) (Q : mQ) : mAt (mRun D) 401 0 c Q = mWp (mRun D) 401 0 (fun pc c => mAt (mRun D) 401 pc c Q) Q bk_La_storageAt_0 c := mAt_blk rfl
theorem a_La_storageAt_13 (D : Nat) (c : mC) (Q : mQ) : mAt (mRun D) 401 13 c Q = mWp (mRun D) 401 0 (fun pc c => mAt (mRun D) 401 pc c Q) Q bk_La_storageAt_13 c := mAt_blk rfl
theorem a_La_storageAt_17 (D : Nat) (c : mC) (Q : mQ) : mAt (mRun D) 401 17 c Q = mWp (mRun D) 401 0 (fun pc c => mAt (mRun D) 401 pc c Q) Q bk_La_storageAt_17 c := mAt_blk rfl
theorem a_La_storageAt_21 (D : Nat) (c : mC) (Q : mQ) : mAt (mRun D) 401 21 c Q = mWp (mRun D) 401 0 (fun pc c => mAt (mRun D) 401 pc c Q) Q bk_La_storageAt_21 c := mAt_blk rfl
theorem e_La_runOff (D : Nat) (x0 x1 x2 x3 : mV) (I : mN) (S : mH) (Q : mQ) (h : mCs [x0, x1, x2, x3] ≤ 4) : mRun (D + 1) 402 [x0, x1, x2, x3] I S Q = mAt (mRun D) 402 0 ([some x0, some x1, some x2, some x3, none], [], I, S) Q := propext ⟨fun z => z.2, fun z => ⟨⟨h, Nat.le_of_ble_eq_true rfl⟩, z⟩⟩
theorem a_La_runOff_0 (D : Nat) (c : mC) (Q : mQ) : mAt (mRun D) 402 0 c Q = mWp (mRun D) 402 0 (fun pc c => mAt (mRun D) 402 pc c Q) Q bk_La_runOff_0 c := mAt_blk rfl
theorem a_La_runOff_13 (D : Nat) (c : mC) (Q : mQ) : mAt (mRun D) 402 13 c Q = mWp (mRun D) 402 0 (fun pc c => mAt (mRun D) 402 pc c Q) Q bk_La_runOff_13 c := mAt_blk rfl
theorem a_La_runOff_17 (D : Nat) (c : mC) (Q : mQ) : mAt (mRun D) 402 17 c Q = mWp (mRun D) 402 0 (fun pc c => mAt (mRun D) 402 pc c Q) Q bk_La_runOff_17 c := mAt_blk rfl
theorem a_La_runOff_21 (D : Nat) (c : mC) (Q : mQ) : mAt (mRun D) 402 21 c Q = mWp (mRun D) 402 0 (fun pc c => mAt (mRun D) 402 pc c Q) Q bk_La_runOff_21 c := mAt_blk rfl
theorem e_La_witnessSize (D : Nat) (x0 x1 x2 x3 : mV) (I : mN) (S : mH) (Q : mQ) (h : mCs [x0, x1, x2, x3] ≤ 4) : mRun (D + 1) 403 [x0, x1, x2, x3] I S Q = mAt (mRun D) 403 0 ([some x0, some x1, some x2, some x3, none], [], I, S) Q := propext ⟨fun z => z.2, fun z => ⟨⟨h, Nat.le_of_ble_eq_true rfl⟩, z⟩⟩
theorem a_La_witnessSize_0 (D : Nat) (c : mC) (Q : mQ) : mAt (mRun D) 403 0 c Q = mWp (mRun D) 403 0 (fun pc c => mAt (mRun D) 403 pc c Q) Q bk_La_witnessSize_0 c := mAt_blk rfl
theorem a_La_witnessSize_13 (D : Nat) (c : mC) (Q : mQ) : mAt (mRun D) 403 13 c Q = mWp (mRun D) 403 0 (fun pc c => mAt (mRun D) 403 pc c Q) Q bk_La_witnessSize_13 c := mAt_blk rfl
theorem a_La_witnessSize_17 (D : Nat) (c : mC) (Q : mQ) : mAt (mRun D) 403 17 c Q = mWp (mRun D) 403 0 (fun pc c => mAt (mRun D) 403 pc c Q) Q bk_La_witnessSize_17 c := mAt_blk rfl
theorem a_La_witnessSize_21 (D : Nat) (c : mC) (Q : mQ) : mAt (mRun D) 403 21 c Q = mWp (mRun D) 403 0 (fun pc c => mAt (mRun D) 403 pc c Q) Q bk_La_witnessSize_21 c := mAt_blk rfl
theorem a_La_witnessSize_25 (D : Nat) (c : mC) (Q : mQ) : mAt (mRun D) 403 25 c Q = mWp (mRun D) 403 0 (fun pc c => mAt (mRun D) 403 pc c Q) Q bk_La_witnessSize_25 c := mAt_blk rfl
theorem e_La_markWitness (D : Nat) (x0 x1 x2 x3 : mV) (I : mN) (S : mH) (Q : mQ) (h : mCs [x0, x1, x2, x3] ≤ 4) : mRun (D + 1) 404 [x0, x1, x2, x3] I S Q = mAt (mRun D) 404 0 ([some x0, some x1, some x2, some x3, none], [], I, S) Q := propext ⟨fun z => z.2, fun z => ⟨⟨h, Nat.le_of_ble_eq_true rfl⟩, z⟩⟩
theorem a_La_markWitness_0 (D : Nat) (c : mC) (Q : mQ) : mAt (mRun D) 404 0 c Q = mWp (mRun D) 404 0 (fun pc c => mAt (mRun D) 404 pc c Q) Q bk_La_markWitness_0 c := mAt_blk rfl
theorem a_La_markWitness_13 (D : Nat) (c : mC) (Q : mQ) : mAt (mRun D) 404 13 c Q = mWp (mRun D) 404 0 (fun pc c => mAt (mRun D) 404 pc c Q) Q bk_La_markWitness_13 c := mAt_blk rfl
theorem a_La_markWitness_17 (D : Nat) (c : mC) (Q : mQ) : mAt (mRun D) 404 17 c Q = mWp (mRun D) 404 0 (fun pc c => mAt (mRun D) 404 pc c Q) Q bk_La_markWitness_17 c := mAt_blk rfl
theorem a_La_markWitness_21 (D : Nat) (c : mC) (Q : mQ) : mAt (mRun D) 404 21 c Q = mWp (mRun D) 404 0 (fun pc c => mAt (mRun D) 404 pc c Q) Q bk_La_markWitness_21 c := mAt_blk rfl
theorem a_La_markWitness_25 (D : Nat) (c : mC) (Q : mQ) : mAt (mRun D) 404 25 c Q = mWp (mRun D) 404 0 (fun pc c => mAt (mRun D) 404 pc c Q) Q bk_La_markWitness_25 c := mAt_blk rfl
theorem e_La_mark (D : Nat) (x0 x1 x2 x3 x4 : mV) (I : mN) (S : mH) (Q : mQ) (h : mCs [x0, x1, x2, x3, x4] ≤ 5) : mRun (D + 1) 405 [x0, x1, x2, x3, x4] I S Q = mAt (mRun D) 405 0 ([some x0, some x1, some x2, some x3, some x4, none], [], I, S) Q := propext ⟨fun z => z.2, fun z => ⟨⟨h, Nat.le_of_ble_eq_true rfl⟩, z⟩⟩
theorem a_La_mark_0 (D : Nat) (c : mC) (Q : mQ) : mAt (mRun D) 405 0 c Q = mWp (mRun D) 405 0 (fun pc c => mAt (mRun D) 405 pc c Q) Q bk_La_mark_0 c := mAt_blk rfl
theorem a_La_mark_17 (D : Nat) (c : mC) (Q : mQ) : mAt (mRun D) 405 17 c Q = mWp (mRun D) 405 18 (fun pc c => mAt (mRun D) 405 pc c Q) Q bk_La_mark_17 c := mAt_blk rfl
theorem a_La_mark_18 (D : Nat) (c : mC) (Q : mQ) : mAt (mRun D) 405 18 c Q = mWp (mRun D) 405 0 (fun pc c => mAt (mRun D) 405 pc c Q) Q bk_La_mark_18 c := mAt_blk rfl
theorem a_La_mark_22 (D : Nat) (c : mC) (Q : mQ) : mAt (mRun D) 405 22 c Q = mWp (mRun D) 405 0 (fun pc c => mAt (mRun D) 405 pc c Q) Q bk_La_mark_22 c := mAt_blk rfl
theorem a_La_mark_26 (D : Nat) (c : mC) (Q : mQ) : mAt (mRun D) 405 26 c Q = mWp (mRun D) 405 0 (fun pc c => mAt (mRun D) 405 pc c Q) Q bk_La_mark_26 c := mAt_blk rfl
theorem a_La_mark_30 (D : Nat) (c : mC) (Q : mQ) : mAt (mRun D) 405 30 c Q = mWp (mRun D) 405 0 (fun pc c => mAt (mRun D) 405 pc c Q) Q bk_La_mark_30 c := mAt_blk rfl
theorem e_La_isMarked (D : Nat) (x0 x1 x2 x3 : mV) (I : mN) (S : mH) (Q : mQ) (h : mCs [x0, x1, x2, x3] ≤ 4) : mRun (D + 1) 406 [x0, x1, x2, x3] I S Q = mAt (mRun D) 406 0 ([some x0, some x1, some x2, some x3, none], [], I, S) Q := propext ⟨fun z => z.2, fun z => ⟨⟨h, Nat.le_of_ble_eq_true rfl⟩, z⟩⟩
theorem a_La_isMarked_0 (D : Nat) (c : mC) (Q : mQ) : mAt (mRun D) 406 0 c Q = mWp (mRun D) 406 0 (fun pc c => mAt (mRun D) 406 pc c Q) Q bk_La_isMarked_0 c := mAt_blk rfl
theorem a_La_isMarked_15 (D : Nat) (c : mC) (Q : mQ) : mAt (mRun D) 406 15 c Q = mWp (mRun D) 406 16 (fun pc c => mAt (mRun D) 406 pc c Q) Q bk_La_isMarked_15 c := mAt_blk rfl
theorem a_La_isMarked_16 (D : Nat) (c : mC) (Q : mQ) : mAt (mRun D) 406 16 c Q = mWp (mRun D) 406 0 (fun pc c => mAt (mRun D) 406 pc c Q) Q bk_La_isMarked_16 c := mAt_blk rfl
theorem a_La_isMarked_20 (D : Nat) (c : mC) (Q : mQ) : mAt (mRun D) 406 20 c Q = mWp (mRun D) 406 0 (fun pc c => mAt (mRun D) 406 pc c Q) Q bk_La_isMarked_20 c := mAt_blk rfl
theorem a_La_isMarked_24 (D : Nat) (c : mC) (Q : mQ) : mAt (mRun D) 406 24 c Q = mWp (mRun D) 406 0 (fun pc c => mAt (mRun D) 406 pc c Q) Q bk_La_isMarked_24 c := mAt_blk rfl
theorem a_La_isMarked_28 (D : Nat) (c : mC) (Q : mQ) : mAt (mRun D) 406 28 c Q = mWp (mRun D) 406 0 (fun pc c => mAt (mRun D) 406 pc c Q) Q bk_La_isMarked_28 c := mAt_blk rfl
theorem e_La_takenInMarks (D : Nat) (x0 x1 x2 x3 : mV) (I : mN) (S : mH) (Q : mQ) (h : mCs [x0, x1, x2, x3] ≤ 4) : mRun (D + 1) 407 [x0, x1, x2, x3] I S Q = mAt (mRun D) 407 0 ([some x0, some x1, some x2, some x3, none], [], I, S) Q := propext ⟨fun z => z.2, fun z => ⟨⟨h, Nat.le_of_ble_eq_true rfl⟩, z⟩⟩
theorem a_La_takenInMarks_0 (D : Nat) (c : mC) (Q : mQ) : mAt (mRun D) 407 0 c Q = mWp (mRun D) 407 0 (fun pc c => mAt (mRun D) 407 pc c Q) Q bk_La_takenInMarks_0 c := mAt_blk rfl
theorem a_La_takenInMarks_13 (D : Nat) (c : mC) (Q : mQ) : mAt (mRun D) 407 13 c Q = mWp (mRun D) 407 0 (fun pc c => mAt (mRun D) 407 pc c Q) Q bk_La_takenInMarks_13 c := mAt_blk rfl
theorem a_La_takenInMarks_17 (D : Nat) (c : mC) (Q : mQ) : mAt (mRun D) 407 17 c Q = mWp (mRun D) 407 0 (fun pc c => mAt (mRun D) 407 pc c Q) Q bk_La_takenInMarks_17 c := mAt_blk rfl
theorem a_La_takenInMarks_21 (D : Nat) (c : mC) (Q : mQ) : mAt (mRun D) 407 21 c Q = mWp (mRun D) 407 0 (fun pc c => mAt (mRun D) 407 pc c Q) Q bk_La_takenInMarks_21 c := mAt_blk rfl
theorem a_La_takenInMarks_25 (D : Nat) (c : mC) (Q : mQ) : mAt (mRun D) 407 25 c Q = mWp (mRun D) 407 0 (fun pc c => mAt (mRun D) 407 pc c Q) Q bk_La_takenInMarks_25 c := mAt_blk rfl
theorem e_La_helpedRight (D : Nat) (x0 x1 x2 x3 : mV) (I : mN) (S : mH) (Q : mQ) (h : mCs [x0, x1, x2, x3] ≤ 4) : mRun (D + 1) 408 [x0, x1, x2, x3] I S Q = mAt (mRun D) 408 0 ([some x0, some x1, some x2, some x3, none], [], I, S) Q := propext ⟨fun z => z.2, fun z => ⟨⟨h, Nat.le_of_ble_eq_true rfl⟩, z⟩⟩
theorem a_La_helpedRight_0 (D : Nat) (c : mC) (Q : mQ) : mAt (mRun D) 408 0 c Q = mWp (mRun D) 408 0 (fun pc c => mAt (mRun D) 408 pc c Q) Q bk_La_helpedRight_0 c := mAt_blk rfl
theorem a_La_helpedRight_13 (D : Nat) (c : mC) (Q : mQ) : mAt (mRun D) 408 13 c Q = mWp (mRun D) 408 0 (fun pc c => mAt (mRun D) 408 pc c Q) Q bk_La_helpedRight_13 c := mAt_blk rfl
theorem a_La_helpedRight_17 (D : Nat) (c : mC) (Q : mQ) : mAt (mRun D) 408 17 c Q = mWp (mRun D) 408 0 (fun pc c => mAt (mRun D) 408 pc c Q) Q bk_La_helpedRight_17 c := mAt_blk rfl
theorem a_La_helpedRight_21 (D : Nat) (c : mC) (Q : mQ) : mAt (mRun D) 408 21 c Q = mWp (mRun D) 408 0 (fun pc c => mAt (mRun D) 408 pc c Q) Q bk_La_helpedRight_21 c := mAt_blk rfl
theorem a_La_helpedRight_25 (D : Nat) (c : mC) (Q : mQ) : mAt (mRun D) 408 25 c Q = mWp (mRun D) 408 0 (fun pc c => mAt (mRun D) 408 pc c Q) Q bk_La_helpedRight_25 c := mAt_blk rfl
theorem e_La_closureCost (D : Nat) (x0 x1 x2 x3 : mV) (I : mN) (S : mH) (Q : mQ) (h : mCs [x0, x1, x2, x3] ≤ 4) : mRun (D + 1) 409 [x0, x1, x2, x3] I S Q = mAt (mRun D) 409 0 ([some x0, some x1, some x2, some x3, none], [], I, S) Q := propext ⟨fun z => z.2, fun z => ⟨⟨h, Nat.le_of_ble_eq_true rfl⟩, z⟩⟩
theorem a_La_closureCost_0 (D : Nat) (c : mC) (Q : mQ) : mAt (mRun D) 409 0 c Q = mWp (mRun D) 409 0 (fun pc c => mAt (mRun D) 409 pc c Q) Q bk_La_closureCost_0 c := mAt_blk rfl
theorem a_La_closureCost_13 (D : Nat) (c : mC) (Q : mQ) : mAt (mRun D) 409 13 c Q = mWp (mRun D) 409 0 (fun pc c => mAt (mRun D) 409 pc c Q) Q bk_La_closureCost_13 c := mAt_blk rfl
theorem a_La_closureCost_17 (D : Nat) (c : mC) (Q : mQ) : mAt (mRun D) 409 17 c Q = mWp (mRun D) 409 0 (fun pc c => mAt (mRun D) 409 pc c Q) Q bk_La_closureCost_17 c := mAt_blk rfl
theorem a_La_closureCost_21 (D : Nat) (c : mC) (Q : mQ) : mAt (mRun D) 409 21 c Q = mWp (mRun D) 409 0 (fun pc c => mAt (mRun D) 409 pc c Q) Q bk_La_closureCost_21 c := mAt_blk rfl
theorem a_La_closureCost_25 (D : Nat) (c : mC) (Q : mQ) : mAt (mRun D) 409 25 c Q = mWp (mRun D) 409 0 (fun pc c => mAt (mRun D) 409 pc c Q) Q bk_La_closureCost_25 c := mAt_blk rfl
theorem e_La_harm (D : Nat) (x0 x1 x2 x3 : mV) (I : mN) (S : mH) (Q : mQ) (h : mCs [x0, x1, x2, x3] ≤ 4) : mRun (D + 1) 410 [x0, x1, x2, x3] I S Q = mAt (mRun D) 410 0 ([some x0, some x1, some x2, some x3, none], [], I, S) Q := propext ⟨fun z => z.2, fun z => ⟨⟨h, Nat.le_of_ble_eq_true rfl⟩, z⟩⟩
theorem a_La_harm_0 (D : Nat) (c : mC) (Q : mQ) : mAt (mRun D) 410 0 c Q = mWp (mRun D) 410 0 (fun pc c => mAt (mRun D) 410 pc c Q) Q bk_La_harm_0 c := mAt_blk rfl
theorem a_La_harm_13 (D : Nat) (c : mC) (Q : mQ) : mAt (mRun D) 410 13 c Q = mWp (mRun D) 410 0 (fun pc c => mAt (mRun D) 410 pc c Q) Q bk_La_harm_13 c := mAt_blk rfl
theorem a_La_harm_17 (D : Nat) (c : mC) (Q : mQ) : mAt (mRun D) 410 17 c Q = mWp (mRun D) 410 0 (fun pc c => mAt (mRun D) 410 pc c Q) Q bk_La_harm_17 c := mAt_blk rfl
theorem a_La_harm_21 (D : Nat) (c : mC) (Q : mQ) : mAt (mRun D) 410 21 c Q = mWp (mRun D) 410 0 (fun pc c => mAt (mRun D) 410 pc c Q) Q bk_La_harm_21 c := mAt_blk rfl
theorem e_La_injuredRight (D : Nat) (x0 x1 x2 x3 x4 x5 x6 : mV) (I : mN) (S : mH) (Q : mQ) (h : mCs [x0, x1, x2, x3, x4, x5, x6] ≤ 7) : mRun (D + 1) 411 [x0, x1, x2, x3, x4, x5, x6] I S Q = mAt (mRun D) 411 0 ([some x0, some x1, some x2, some x3, some x4, some x5, some x6, none], [], I, S) Q := propext ⟨fun z => z.2, fun z => ⟨⟨h, Nat.le_of_ble_eq_true rfl⟩, z⟩⟩
theorem a_La_injuredRight_0 (D : Nat) (c : mC) (Q : mQ) : mAt (mRun D) 411 0 c Q = mWp (mRun D) 411 0 (fun pc c => mAt (mRun D) 411 pc c Q) Q bk_La_injuredRight_0 c := mAt_blk rfl
theorem a_La_injuredRight_19 (D : Nat) (c : mC) (Q : mQ) : mAt (mRun D) 411 19 c Q = mWp (mRun D) 411 0 (fun pc c => mAt (mRun D) 411 pc c Q) Q bk_La_injuredRight_19 c := mAt_blk rfl
theorem a_La_injuredRight_23 (D : Nat) (c : mC) (Q : mQ) : mAt (mRun D) 411 23 c Q = mWp (mRun D) 411 0 (fun pc c => mAt (mRun D) 411 pc c Q) Q bk_La_injuredRight_23 c := mAt_blk rfl
theorem a_La_injuredRight_27 (D : Nat) (c : mC) (Q : mQ) : mAt (mRun D) 411 27 c Q = mWp (mRun D) 411 0 (fun pc c => mAt (mRun D) 411 pc c Q) Q bk_La_injuredRight_27 c := mAt_blk rfl
theorem a_La_injuredRight_31 (D : Nat) (c : mC) (Q : mQ) : mAt (mRun D) 411 31 c Q = mWp (mRun D) 411 0 (fun pc c => mAt (mRun D) 411 pc c Q) Q bk_La_injuredRight_31 c := mAt_blk rfl
theorem e_La_greatestLease (D : Nat) (x0 x1 x2 x3 x4 x5 : mV) (I : mN) (S : mH) (Q : mQ) (h : mCs [x0, x1, x2, x3, x4, x5] ≤ 6) : mRun (D + 1) 412 [x0, x1, x2, x3, x4, x5] I S Q = mAt (mRun D) 412 0 ([some x0, some x1, some x2, some x3, some x4, some x5, none], [], I, S) Q := propext ⟨fun z => z.2, fun z => ⟨⟨h, Nat.le_of_ble_eq_true rfl⟩, z⟩⟩
theorem a_La_greatestLease_0 (D : Nat) (c : mC) (Q : mQ) : mAt (mRun D) 412 0 c Q = mWp (mRun D) 412 0 (fun pc c => mAt (mRun D) 412 pc c Q) Q bk_La_greatestLease_0 c := mAt_blk rfl
theorem a_La_greatestLease_17 (D : Nat) (c : mC) (Q : mQ) : mAt (mRun D) 412 17 c Q = mWp (mRun D) 412 0 (fun pc c => mAt (mRun D) 412 pc c Q) Q bk_La_greatestLease_17 c := mAt_blk rfl
theorem a_La_greatestLease_21 (D : Nat) (c : mC) (Q : mQ) : mAt (mRun D) 412 21 c Q = mWp (mRun D) 412 0 (fun pc c => mAt (mRun D) 412 pc c Q) Q bk_La_greatestLease_21 c := mAt_blk rfl
theorem a_La_greatestLease_25 (D : Nat) (c : mC) (Q : mQ) : mAt (mRun D) 412 25 c Q = mWp (mRun D) 412 0 (fun pc c => mAt (mRun D) 412 pc c Q) Q bk_La_greatestLease_25 c := mAt_blk rfl
theorem a_La_greatestLease_29 (D : Nat) (c : mC) (Q : mQ) : mAt (mRun D) 412 29 c Q = mWp (mRun D) 412 0 (fun pc c => mAt (mRun D) 412 pc c Q) Q bk_La_greatestLease_29 c := mAt_blk rfl
theorem e_La_law (D : Nat) (x0 : mV) (I : mN) (S : mH) (Q : mQ) (h : mCs [x0] ≤ 1) : mRun (D + 1) 413 [x0] I S Q = mAt (mRun D) 413 0 ([some x0, none, none, none, none, none, none, none, none], [], I, S) Q := propext ⟨fun z => z.2, fun z => ⟨⟨h, Nat.le_of_ble_eq_true rfl⟩, z⟩⟩
theorem a_La_law_0 (D : Nat) (c : mC) (Q : mQ) : mAt (mRun D) 413 0 c Q = mWp (mRun D) 413 23 (fun pc c => mAt (mRun D) 413 pc c Q) Q bk_La_law_0 c := mAt_blk rfl
theorem a_La_law_23 (D : Nat) (c : mC) (Q : mQ) : mAt (mRun D) 413 23 c Q = mWp (mRun D) 413 0 (fun pc c => mAt (mRun D) 413 pc c Q) Q bk_La_law_23 c := mAt_blk rfl
theorem a_La_law_284 (D : Nat) (c : mC) (Q : mQ) : mAt (mRun D) 413 284 c Q = mWp (mRun D) 413 0 (fun pc c => mAt (mRun D) 413 pc c Q) Q bk_La_law_284 c := mAt_blk rfl
theorem a_La_law_368 (D : Nat) (c : mC) (Q : mQ) : mAt (mRun D) 413 368 c Q = mWp (mRun D) 413 0 (fun pc c => mAt (mRun D) 413 pc c Q) Q bk_La_law_368 c := mAt_blk rfl
theorem a_La_law_385 (D : Nat) (c : mC) (Q : mQ) : mAt (mRun D) 413 385 c Q = mWp (mRun D) 413 0 (fun pc c => mAt (mRun D) 413 pc c Q) Q bk_La_law_385 c := mAt_blk rfl
theorem a_La_law_388 (D : Nat) (c : mC) (Q : mQ) : mAt (mRun D) 413 388 c Q = mWp (mRun D) 413 0 (fun pc c => mAt (mRun D) 413 pc c Q) Q bk_La_law_388 c := mAt_blk rfl
theorem a_La_law_401 (D : Nat) (c : mC) (Q : mQ) : mAt (mRun D) 413 401 c Q = mWp (mRun D) 413 0 (fun pc c => mAt (mRun D) 413 pc c Q) Q bk_La_law_401 c := mAt_blk rfl
theorem a_La_law_425 (D : Nat) (c : mC) (Q : mQ) : mAt (mRun D) 413 425 c Q = mWp (mRun D) 413 0 (fun pc c => mAt (mRun D) 413 pc c Q) Q bk_La_law_425 c := mAt_blk rfl
theorem a_La_law_442 (D : Nat) (c : mC) (Q : mQ) : mAt (mRun D) 413 442 c Q = mWp (mRun D) 413 0 (fun pc c => mAt (mRun D) 413 pc c Q) Q bk_La_law_442 c := mAt_blk rfl
theorem a_La_law_445 (D : Nat) (c : mC) (Q : mQ) : mAt (mRun D) 413 445 c Q = mWp (mRun D) 413 0 (fun pc c => mAt (mRun D) 413 pc c Q) Q bk_La_law_445 c := mAt_blk rfl
theorem a_La_law_458 (D : Nat) (c : mC) (Q : mQ) : mAt (mRun D) 413 458 c Q = mWp (mRun D) 413 0 (fun pc c => mAt (mRun D) 413 pc c Q) Q bk_La_law_458 c := mAt_blk rfl
theorem a_La_law_471 (D : Nat) (c : mC) (Q : mQ) : mAt (mRun D) 413 471 c Q = mWp (mRun D) 413 0 (fun pc c => mAt (mRun D) 413 pc c Q) Q bk_La_law_471 c := mAt_blk rfl
theorem a_La_law_507 (D : Nat) (c : mC) (Q : mQ) : mAt (mRun D) 413 507 c Q = mWp (mRun D) 413 0 (fun pc c => mAt (mRun D) 413 pc c Q) Q bk_La_law_507 c := mAt_blk rfl
theorem a_La_law_524 (D : Nat) (c : mC) (Q : mQ) : mAt (mRun D) 413 524 c Q = mWp (mRun D) 413 0 (fun pc c => mAt (mRun D) 413 pc c Q) Q bk_La_law_524 c := mAt_blk rfl
theorem a_La_law_527 (D : Nat) (c : mC) (Q : mQ) : mAt (mRun D) 413 527 c Q = mWp (mRun D) 413 0 (fun pc c => mAt (mRun D) 413 pc c Q) Q bk_La_law_527 c := mAt_blk rfl
theorem a_La_law_575 (D : Nat) (c : mC) (Q : mQ) : mAt (mRun D) 413 575 c Q = mWp (mRun D) 413 0 (fun pc c => mAt (mRun D) 413 pc c Q) Q bk_La_law_575 c := mAt_blk rfl
theorem a_La_law_592 (D : Nat) (c : mC) (Q : mQ) : mAt (mRun D) 413 592 c Q = mWp (mRun D) 413 0 (fun pc c => mAt (mRun D) 413 pc c Q) Q bk_La_law_592 c := mAt_blk rfl
theorem a_La_law_595 (D : Nat) (c : mC) (Q : mQ) : mAt (mRun D) 413 595 c Q = mWp (mRun D) 413 0 (fun pc c => mAt (mRun D) 413 pc c Q) Q bk_La_law_595 c := mAt_blk rfl
theorem a_La_law_667 (D : Nat) (c : mC) (Q : mQ) : mAt (mRun D) 413 667 c Q = mWp (mRun D) 413 0 (fun pc c => mAt (mRun D) 413 pc c Q) Q bk_La_law_667 c := mAt_blk rfl
theorem a_La_law_684 (D : Nat) (c : mC) (Q : mQ) : mAt (mRun D) 413 684 c Q = mWp (mRun D) 413 0 (fun pc c => mAt (mRun D) 413 pc c Q) Q bk_La_law_684 c := mAt_blk rfl
theorem a_La_law_687 (D : Nat) (c : mC) (Q : mQ) : mAt (mRun D) 413 687 c Q = mWp (mRun D) 413 0 (fun pc c => mAt (mRun D) 413 pc c Q) Q bk_La_law_687 c := mAt_blk rfl
theorem a_La_law_747 (D : Nat) (c : mC) (Q : mQ) : mAt (mRun D) 413 747 c Q = mWp (mRun D) 413 0 (fun pc c => mAt (mRun D) 413 pc c Q) Q bk_La_law_747 c := mAt_blk rfl
theorem a_La_law_764 (D : Nat) (c : mC) (Q : mQ) : mAt (mRun D) 413 764 c Q = mWp (mRun D) 413 0 (fun pc c => mAt (mRun D) 413 pc c Q) Q bk_La_law_764 c := mAt_blk rfl
theorem a_La_law_767 (D : Nat) (c : mC) (Q : mQ) : mAt (mRun D) 413 767 c Q = mWp (mRun D) 413 0 (fun pc c => mAt (mRun D) 413 pc c Q) Q bk_La_law_767 c := mAt_blk rfl
theorem a_La_law_827 (D : Nat) (c : mC) (Q : mQ) : mAt (mRun D) 413 827 c Q = mWp (mRun D) 413 0 (fun pc c => mAt (mRun D) 413 pc c Q) Q bk_La_law_827 c := mAt_blk rfl
theorem a_La_law_844 (D : Nat) (c : mC) (Q : mQ) : mAt (mRun D) 413 844 c Q = mWp (mRun D) 413 0 (fun pc c => mAt (mRun D) 413 pc c Q) Q bk_La_law_844 c := mAt_blk rfl
theorem a_La_law_847 (D : Nat) (c : mC) (Q : mQ) : mAt (mRun D) 413 847 c Q = mWp (mRun D) 413 0 (fun pc c => mAt (mRun D) 413 pc c Q) Q bk_La_law_847 c := mAt_blk rfl
theorem a_La_law_919 (D : Nat) (c : mC) (Q : mQ) : mAt (mRun D) 413 919 c Q = mWp (mRun D) 413 0 (fun pc c => mAt (mRun D) 413 pc c Q) Q bk_La_law_919 c := mAt_blk rfl
theorem a_La_law_936 (D : Nat) (c : mC) (Q : mQ) : mAt (mRun D) 413 936 c Q = mWp (mRun D) 413 0 (fun pc c => mAt (mRun D) 413 pc c Q) Q bk_La_law_936 c := mAt_blk rfl
theorem a_La_law_939 (D : Nat) (c : mC) (Q : mQ) : mAt (mRun D) 413 939 c Q = mWp (mRun D) 413 0 (fun pc c => mAt (mRun D) 413 pc c Q) Q bk_La_law_939 c := mAt_blk rfl
theorem a_La_law_975 (D : Nat) (c : mC) (Q : mQ) : mAt (mRun D) 413 975 c Q = mWp (mRun D) 413 0 (fun pc c => mAt (mRun D) 413 pc c Q) Q bk_La_law_975 c := mAt_blk rfl
theorem a_La_law_992 (D : Nat) (c : mC) (Q : mQ) : mAt (mRun D) 413 992 c Q = mWp (mRun D) 413 0 (fun pc c => mAt (mRun D) 413 pc c Q) Q bk_La_law_992 c := mAt_blk rfl
theorem a_La_law_995 (D : Nat) (c : mC) (Q : mQ) : mAt (mRun D) 413 995 c Q = mWp (mRun D) 413 0 (fun pc c => mAt (mRun D) 413 pc c Q) Q bk_La_law_995 c := mAt_blk rfl
theorem a_La_law_1031 (D : Nat) (c : mC) (Q : mQ) : mAt (mRun D) 413 1031 c Q = mWp (mRun D) 413 0 (fun pc c => mAt (mRun D) 413 pc c Q) Q bk_La_law_1031 c := mAt_blk rfl
theorem a_La_law_1048 (D : Nat) (c : mC) (Q : mQ) : mAt (mRun D) 413 1048 c Q = mWp (mRun D) 413 0 (fun pc c => mAt (mRun D) 413 pc c Q) Q bk_La_law_1048 c := mAt_blk rfl
theorem a_La_law_1051 (D : Nat) (c : mC) (Q : mQ) : mAt (mRun D) 413 1051 c Q = mWp (mRun D) 413 0 (fun pc c => mAt (mRun D) 413 pc c Q) Q bk_La_law_1051 c := mAt_blk rfl
theorem a_La_law_1099 (D : Nat) (c : mC) (Q : mQ) : mAt (mRun D) 413 1099 c Q = mWp (mRun D) 413 0 (fun pc c => mAt (mRun D) 413 pc c Q) Q bk_La_law_1099 c := mAt_blk rfl
theorem a_La_law_1116 (D : Nat) (c : mC) (Q : mQ) : mAt (mRun D) 413 1116 c Q = mWp (mRun D) 413 0 (fun pc c => mAt (mRun D) 413 pc c Q) Q bk_La_law_1116 c := mAt_blk rfl
theorem a_La_law_1119 (D : Nat) (c : mC) (Q : mQ) : mAt (mRun D) 413 1119 c Q = mWp (mRun D) 413 0 (fun pc c => mAt (mRun D) 413 pc c Q) Q bk_La_law_1119 c := mAt_blk rfl
theorem a_La_law_1203 (D : Nat) (c : mC) (Q : mQ) : mAt (mRun D) 413 1203 c Q = mWp (mRun D) 413 0 (fun pc c => mAt (mRun D) 413 pc c Q) Q bk_La_law_1203 c := mAt_blk rfl
theorem a_La_law_1220 (D : Nat) (c : mC) (Q : mQ) : mAt (mRun D) 413 1220 c Q = mWp (mRun D) 413 0 (fun pc c => mAt (mRun D) 413 pc c Q) Q bk_La_law_1220 c := mAt_blk rfl
theorem a_La_law_1223 (D : Nat) (c : mC) (Q : mQ) : mAt (mRun D) 413 1223 c Q = mWp (mRun D) 413 0 (fun pc c => mAt (mRun D) 413 pc c Q) Q bk_La_law_1223 c := mAt_blk rfl
theorem a_La_law_1295 (D : Nat) (c : mC) (Q : mQ) : mAt (mRun D) 413 1295 c Q = mWp (mRun D) 413 0 (fun pc c => mAt (mRun D) 413 pc c Q) Q bk_La_law_1295 c := mAt_blk rfl
theorem a_La_law_1312 (D : Nat) (c : mC) (Q : mQ) : mAt (mRun D) 413 1312 c Q = mWp (mRun D) 413 0 (fun pc c => mAt (mRun D) 413 pc c Q) Q bk_La_law_1312 c := mAt_blk rfl
theorem a_La_law_1315 (D : Nat) (c : mC) (Q : mQ) : mAt (mRun D) 413 1315 c Q = mWp (mRun D) 413 0 (fun pc c => mAt (mRun D) 413 pc c Q) Q bk_La_law_1315 c := mAt_blk rfl
theorem a_La_law_1363 (D : Nat) (c : mC) (Q : mQ) : mAt (mRun D) 413 1363 c Q = mWp (mRun D) 413 0 (fun pc c => mAt (mRun D) 413 pc c Q) Q bk_La_law_1363 c := mAt_blk rfl
theorem a_La_law_1380 (D : Nat) (c : mC) (Q : mQ) : mAt (mRun D) 413 1380 c Q = mWp (mRun D) 413 0 (fun pc c => mAt (mRun D) 413 pc c Q) Q bk_La_law_1380 c := mAt_blk rfl
theorem a_La_law_1383 (D : Nat) (c : mC) (Q : mQ) : mAt (mRun D) 413 1383 c Q = mWp (mRun D) 413 0 (fun pc c => mAt (mRun D) 413 pc c Q) Q bk_La_law_1383 c := mAt_blk rfl
theorem a_La_law_1431 (D : Nat) (c : mC) (Q : mQ) : mAt (mRun D) 413 1431 c Q = mWp (mRun D) 413 0 (fun pc c => mAt (mRun D) 413 pc c Q) Q bk_La_law_1431 c := mAt_blk rfl
theorem a_La_law_1448 (D : Nat) (c : mC) (Q : mQ) : mAt (mRun D) 413 1448 c Q = mWp (mRun D) 413 0 (fun pc c => mAt (mRun D) 413 pc c Q) Q bk_La_law_1448 c := mAt_blk rfl
theorem a_La_law_1451 (D : Nat) (c : mC) (Q : mQ) : mAt (mRun D) 413 1451 c Q = mWp (mRun D) 413 0 (fun pc c => mAt (mRun D) 413 pc c Q) Q bk_La_law_1451 c := mAt_blk rfl
theorem a_La_law_1475 (D : Nat) (c : mC) (Q : mQ) : mAt (mRun D) 413 1475 c Q = mWp (mRun D) 413 0 (fun pc c => mAt (mRun D) 413 pc c Q) Q bk_La_law_1475 c := mAt_blk rfl
theorem a_La_law_1492 (D : Nat) (c : mC) (Q : mQ) : mAt (mRun D) 413 1492 c Q = mWp (mRun D) 413 0 (fun pc c => mAt (mRun D) 413 pc c Q) Q bk_La_law_1492 c := mAt_blk rfl
theorem a_La_law_1495 (D : Nat) (c : mC) (Q : mQ) : mAt (mRun D) 413 1495 c Q = mWp (mRun D) 413 0 (fun pc c => mAt (mRun D) 413 pc c Q) Q bk_La_law_1495 c := mAt_blk rfl
theorem a_La_law_1508 (D : Nat) (c : mC) (Q : mQ) : mAt (mRun D) 413 1508 c Q = mWp (mRun D) 413 0 (fun pc c => mAt (mRun D) 413 pc c Q) Q bk_La_law_1508 c := mAt_blk rfl
theorem a_La_law_1521 (D : Nat) (c : mC) (Q : mQ) : mAt (mRun D) 413 1521 c Q = mWp (mRun D) 413 0 (fun pc c => mAt (mRun D) 413 pc c Q) Q bk_La_law_1521 c := mAt_blk rfl
theorem a_La_law_1545 (D : Nat) (c : mC) (Q : mQ) : mAt (mRun D) 413 1545 c Q = mWp (mRun D) 413 0 (fun pc c => mAt (mRun D) 413 pc c Q) Q bk_La_law_1545 c := mAt_blk rfl
theorem a_La_law_1562 (D : Nat) (c : mC) (Q : mQ) : mAt (mRun D) 413 1562 c Q = mWp (mRun D) 413 0 (fun pc c => mAt (mRun D) 413 pc c Q) Q bk_La_law_1562 c := mAt_blk rfl
theorem a_La_law_1565 (D : Nat) (c : mC) (Q : mQ) : mAt (mRun D) 413 1565 c Q = mWp (mRun D) 413 0 (fun pc c => mAt (mRun D) 413 pc c Q) Q bk_La_law_1565 c := mAt_blk rfl
theorem a_La_law_1601 (D : Nat) (c : mC) (Q : mQ) : mAt (mRun D) 413 1601 c Q = mWp (mRun D) 413 0 (fun pc c => mAt (mRun D) 413 pc c Q) Q bk_La_law_1601 c := mAt_blk rfl
theorem a_La_law_1618 (D : Nat) (c : mC) (Q : mQ) : mAt (mRun D) 413 1618 c Q = mWp (mRun D) 413 0 (fun pc c => mAt (mRun D) 413 pc c Q) Q bk_La_law_1618 c := mAt_blk rfl
theorem a_La_law_1621 (D : Nat) (c : mC) (Q : mQ) : mAt (mRun D) 413 1621 c Q = mWp (mRun D) 413 0 (fun pc c => mAt (mRun D) 413 pc c Q) Q bk_La_law_1621 c := mAt_blk rfl
theorem a_La_law_1657 (D : Nat) (c : mC) (Q : mQ) : mAt (mRun D) 413 1657 c Q = mWp (mRun D) 413 0 (fun pc c => mAt (mRun D) 413 pc c Q) Q bk_La_law_1657 c := mAt_blk rfl
theorem a_La_law_1674 (D : Nat) (c : mC) (Q : mQ) : mAt (mRun D) 413 1674 c Q = mWp (mRun D) 413 0 (fun pc c => mAt (mRun D) 413 pc c Q) Q bk_La_law_1674 c := mAt_blk rfl
theorem a_La_law_1677 (D : Nat) (c : mC) (Q : mQ) : mAt (mRun D) 413 1677 c Q = mWp (mRun D) 413 0 (fun pc c => mAt (mRun D) 413 pc c Q) Q bk_La_law_1677 c := mAt_blk rfl
theorem a_La_law_1690 (D : Nat) (c : mC) (Q : mQ) : mAt (mRun D) 413 1690 c Q = mWp (mRun D) 413 0 (fun pc c => mAt (mRun D) 413 pc c Q) Q bk_La_law_1690 c := mAt_blk rfl
theorem a_La_law_1703 (D : Nat) (c : mC) (Q : mQ) : mAt (mRun D) 413 1703 c Q = mWp (mRun D) 413 0 (fun pc c => mAt (mRun D) 413 pc c Q) Q bk_La_law_1703 c := mAt_blk rfl
theorem a_La_law_1716 (D : Nat) (c : mC) (Q : mQ) : mAt (mRun D) 413 1716 c Q = mWp (mRun D) 413 0 (fun pc c => mAt (mRun D) 413 pc c Q) Q bk_La_law_1716 c := mAt_blk rfl
theorem a_La_law_1729 (D : Nat) (c : mC) (Q : mQ) : mAt (mRun D) 413 1729 c Q = mWp (mRun D) 413 0 (fun pc c => mAt (mRun D) 413 pc c Q) Q bk_La_law_1729 c := mAt_blk rfl
theorem a_La_law_1777 (D : Nat) (c : mC) (Q : mQ) : mAt (mRun D) 413 1777 c Q = mWp (mRun D) 413 0 (fun pc c => mAt (mRun D) 413 pc c Q) Q bk_La_law_1777 c := mAt_blk rfl
theorem a_La_law_1794 (D : Nat) (c : mC) (Q : mQ) : mAt (mRun D) 413 1794 c Q = mWp (mRun D) 413 0 (fun pc c => mAt (mRun D) 413 pc c Q) Q bk_La_law_1794 c := mAt_blk rfl
theorem a_La_law_1797 (D : Nat) (c : mC) (Q : mQ) : mAt (mRun D) 413 1797 c Q = mWp (mRun D) 413 0 (fun pc c => mAt (mRun D) 413 pc c Q) Q bk_La_law_1797 c := mAt_blk rfl
theorem a_La_law_1857 (D : Nat) (c : mC) (Q : mQ) : mAt (mRun D) 413 1857 c Q = mWp (mRun D) 413 0 (fun pc c => mAt (mRun D) 413 pc c Q) Q bk_La_law_1857 c := mAt_blk rfl
theorem a_La_law_1874 (D : Nat) (c : mC) (Q : mQ) : mAt (mRun D) 413 1874 c Q = mWp (mRun D) 413 0 (fun pc c => mAt (mRun D) 413 pc c Q) Q bk_La_law_1874 c := mAt_blk rfl
theorem a_La_law_1877 (D : Nat) (c : mC) (Q : mQ) : mAt (mRun D) 413 1877 c Q = mWp (mRun D) 413 0 (fun pc c => mAt (mRun D) 413 pc c Q) Q bk_La_law_1877 c := mAt_blk rfl
theorem a_La_law_1937 (D : Nat) (c : mC) (Q : mQ) : mAt (mRun D) 413 1937 c Q = mWp (mRun D) 413 0 (fun pc c => mAt (mRun D) 413 pc c Q) Q bk_La_law_1937 c := mAt_blk rfl
theorem a_La_law_1954 (D : Nat) (c : mC) (Q : mQ) : mAt (mRun D) 413 1954 c Q = mWp (mRun D) 413 0 (fun pc c => mAt (mRun D) 413 pc c Q) Q bk_La_law_1954 c := mAt_blk rfl
theorem a_La_law_1957 (D : Nat) (c : mC) (Q : mQ) : mAt (mRun D) 413 1957 c Q = mWp (mRun D) 413 0 (fun pc c => mAt (mRun D) 413 pc c Q) Q bk_La_law_1957 c := mAt_blk rfl
theorem a_La_law_2017 (D : Nat) (c : mC) (Q : mQ) : mAt (mRun D) 413 2017 c Q = mWp (mRun D) 413 0 (fun pc c => mAt (mRun D) 413 pc c Q) Q bk_La_law_2017 c := mAt_blk rfl
theorem a_La_law_2034 (D : Nat) (c : mC) (Q : mQ) : mAt (mRun D) 413 2034 c Q = mWp (mRun D) 413 0 (fun pc c => mAt (mRun D) 413 pc c Q) Q bk_La_law_2034 c := mAt_blk rfl
theorem a_La_law_2037 (D : Nat) (c : mC) (Q : mQ) : mAt (mRun D) 413 2037 c Q = mWp (mRun D) 413 0 (fun pc c => mAt (mRun D) 413 pc c Q) Q bk_La_law_2037 c := mAt_blk rfl
theorem a_La_law_2073 (D : Nat) (c : mC) (Q : mQ) : mAt (mRun D) 413 2073 c Q = mWp (mRun D) 413 0 (fun pc c => mAt (mRun D) 413 pc c Q) Q bk_La_law_2073 c := mAt_blk rfl
theorem a_La_law_2090 (D : Nat) (c : mC) (Q : mQ) : mAt (mRun D) 413 2090 c Q = mWp (mRun D) 413 0 (fun pc c => mAt (mRun D) 413 pc c Q) Q bk_La_law_2090 c := mAt_blk rfl
theorem a_La_law_2093 (D : Nat) (c : mC) (Q : mQ) : mAt (mRun D) 413 2093 c Q = mWp (mRun D) 413 0 (fun pc c => mAt (mRun D) 413 pc c Q) Q bk_La_law_2093 c := mAt_blk rfl
theorem a_La_law_2129 (D : Nat) (c : mC) (Q : mQ) : mAt (mRun D) 413 2129 c Q = mWp (mRun D) 413 0 (fun pc c => mAt (mRun D) 413 pc c Q) Q bk_La_law_2129 c := mAt_blk rfl
theorem a_La_law_2146 (D : Nat) (c : mC) (Q : mQ) : mAt (mRun D) 413 2146 c Q = mWp (mRun D) 413 0 (fun pc c => mAt (mRun D) 413 pc c Q) Q bk_La_law_2146 c := mAt_blk rfl
theorem a_La_law_2149 (D : Nat) (c : mC) (Q : mQ) : mAt (mRun D) 413 2149 c Q = mWp (mRun D) 413 0 (fun pc c => mAt (mRun D) 413 pc c Q) Q bk_La_law_2149 c := mAt_blk rfl
theorem a_La_law_2185 (D : Nat) (c : mC) (Q : mQ) : mAt (mRun D) 413 2185 c Q = mWp (mRun D) 413 0 (fun pc c => mAt (mRun D) 413 pc c Q) Q bk_La_law_2185 c := mAt_blk rfl
theorem a_La_law_2202 (D : Nat) (c : mC) (Q : mQ) : mAt (mRun D) 413 2202 c Q = mWp (mRun D) 413 0 (fun pc c => mAt (mRun D) 413 pc c Q) Q bk_La_law_2202 c := mAt_blk rfl
theorem a_La_law_2205 (D : Nat) (c : mC) (Q : mQ) : mAt (mRun D) 413 2205 c Q = mWp (mRun D) 413 0 (fun pc c => mAt (mRun D) 413 pc c Q) Q bk_La_law_2205 c := mAt_blk rfl
theorem a_La_law_2265 (D : Nat) (c : mC) (Q : mQ) : mAt (mRun D) 413 2265 c Q = mWp (mRun D) 413 0 (fun pc c => mAt (mRun D) 413 pc c Q) Q bk_La_law_2265 c := mAt_blk rfl
theorem a_La_law_2282 (D : Nat) (c : mC) (Q : mQ) : mAt (mRun D) 413 2282 c Q = mWp (mRun D) 413 0 (fun pc c => mAt (mRun D) 413 pc c Q) Q bk_La_law_2282 c := mAt_blk rfl
theorem a_La_law_2285 (D : Nat) (c : mC) (Q : mQ) : mAt (mRun D) 413 2285 c Q = mWp (mRun D) 413 0 (fun pc c => mAt (mRun D) 413 pc c Q) Q bk_La_law_2285 c := mAt_blk rfl
theorem a_La_law_2321 (D : Nat) (c : mC) (Q : mQ) : mAt (mRun D) 413 2321 c Q = mWp (mRun D) 413 0 (fun pc c => mAt (mRun D) 413 pc c Q) Q bk_La_law_2321 c := mAt_blk rfl
theorem a_La_law_2338 (D : Nat) (c : mC) (Q : mQ) : mAt (mRun D) 413 2338 c Q = mWp (mRun D) 413 0 (fun pc c => mAt (mRun D) 413 pc c Q) Q bk_La_law_2338 c := mAt_blk rfl
theorem a_La_law_2341 (D : Nat) (c : mC) (Q : mQ) : mAt (mRun D) 413 2341 c Q = mWp (mRun D) 413 0 (fun pc c => mAt (mRun D) 413 pc c Q) Q bk_La_law_2341 c := mAt_blk rfl
theorem a_La_law_2389 (D : Nat) (c : mC) (Q : mQ) : mAt (mRun D) 413 2389 c Q = mWp (mRun D) 413 0 (fun pc c => mAt (mRun D) 413 pc c Q) Q bk_La_law_2389 c := mAt_blk rfl
theorem a_La_law_2406 (D : Nat) (c : mC) (Q : mQ) : mAt (mRun D) 413 2406 c Q = mWp (mRun D) 413 0 (fun pc c => mAt (mRun D) 413 pc c Q) Q bk_La_law_2406 c := mAt_blk rfl
theorem a_La_law_2409 (D : Nat) (c : mC) (Q : mQ) : mAt (mRun D) 413 2409 c Q = mWp (mRun D) 413 0 (fun pc c => mAt (mRun D) 413 pc c Q) Q bk_La_law_2409 c := mAt_blk rfl
theorem a_La_law_2457 (D : Nat) (c : mC) (Q : mQ) : mAt (mRun D) 413 2457 c Q = mWp (mRun D) 413 0 (fun pc c => mAt (mRun D) 413 pc c Q) Q bk_La_law_2457 c := mAt_blk rfl
theorem a_La_law_2474 (D : Nat) (c : mC) (Q : mQ) : mAt (mRun D) 413 2474 c Q = mWp (mRun D) 413 0 (fun pc c => mAt (mRun D) 413 pc c Q) Q bk_La_law_2474 c := mAt_blk rfl
theorem a_La_law_2477 (D : Nat) (c : mC) (Q : mQ) : mAt (mRun D) 413 2477 c Q = mWp (mRun D) 413 0 (fun pc c => mAt (mRun D) 413 pc c Q) Q bk_La_law_2477 c := mAt_blk rfl
theorem a_La_law_2525 (D : Nat) (c : mC) (Q : mQ) : mAt (mRun D) 413 2525 c Q = mWp (mRun D) 413 0 (fun pc c => mAt (mRun D) 413 pc c Q) Q bk_La_law_2525 c := mAt_blk rfl
theorem a_La_law_2542 (D : Nat) (c : mC) (Q : mQ) : mAt (mRun D) 413 2542 c Q = mWp (mRun D) 413 0 (fun pc c => mAt (mRun D) 413 pc c Q) Q bk_La_law_2542 c := mAt_blk rfl
theorem a_La_law_2545 (D : Nat) (c : mC) (Q : mQ) : mAt (mRun D) 413 2545 c Q = mWp (mRun D) 413 0 (fun pc c => mAt (mRun D) 413 pc c Q) Q bk_La_law_2545 c := mAt_blk rfl
theorem a_La_law_2593 (D : Nat) (c : mC) (Q : mQ) : mAt (mRun D) 413 2593 c Q = mWp (mRun D) 413 0 (fun pc c => mAt (mRun D) 413 pc c Q) Q bk_La_law_2593 c := mAt_blk rfl
theorem a_La_law_2610 (D : Nat) (c : mC) (Q : mQ) : mAt (mRun D) 413 2610 c Q = mWp (mRun D) 413 0 (fun pc c => mAt (mRun D) 413 pc c Q) Q bk_La_law_2610 c := mAt_blk rfl
theorem a_La_law_2613 (D : Nat) (c : mC) (Q : mQ) : mAt (mRun D) 413 2613 c Q = mWp (mRun D) 413 0 (fun pc c => mAt (mRun D) 413 pc c Q) Q bk_La_law_2613 c := mAt_blk rfl
theorem a_La_law_2626 (D : Nat) (c : mC) (Q : mQ) : mAt (mRun D) 413 2626 c Q = mWp (mRun D) 413 0 (fun pc c => mAt (mRun D) 413 pc c Q) Q bk_La_law_2626 c := mAt_blk rfl
theorem a_La_law_2674 (D : Nat) (c : mC) (Q : mQ) : mAt (mRun D) 413 2674 c Q = mWp (mRun D) 413 0 (fun pc c => mAt (mRun D) 413 pc c Q) Q bk_La_law_2674 c := mAt_blk rfl
theorem a_La_law_2691 (D : Nat) (c : mC) (Q : mQ) : mAt (mRun D) 413 2691 c Q = mWp (mRun D) 413 0 (fun pc c => mAt (mRun D) 413 pc c Q) Q bk_La_law_2691 c := mAt_blk rfl
theorem a_La_law_2694 (D : Nat) (c : mC) (Q : mQ) : mAt (mRun D) 413 2694 c Q = mWp (mRun D) 413 0 (fun pc c => mAt (mRun D) 413 pc c Q) Q bk_La_law_2694 c := mAt_blk rfl
theorem a_La_law_2742 (D : Nat) (c : mC) (Q : mQ) : mAt (mRun D) 413 2742 c Q = mWp (mRun D) 413 0 (fun pc c => mAt (mRun D) 413 pc c Q) Q bk_La_law_2742 c := mAt_blk rfl
theorem a_La_law_2759 (D : Nat) (c : mC) (Q : mQ) : mAt (mRun D) 413 2759 c Q = mWp (mRun D) 413 0 (fun pc c => mAt (mRun D) 413 pc c Q) Q bk_La_law_2759 c := mAt_blk rfl
theorem a_La_law_2762 (D : Nat) (c : mC) (Q : mQ) : mAt (mRun D) 413 2762 c Q = mWp (mRun D) 413 0 (fun pc c => mAt (mRun D) 413 pc c Q) Q bk_La_law_2762 c := mAt_blk rfl
theorem a_La_law_2788 (D : Nat) (c : mC) (Q : mQ) : mAt (mRun D) 413 2788 c Q = mWp (mRun D) 413 2789 (fun pc c => mAt (mRun D) 413 pc c Q) Q bk_La_law_2788 c := mAt_blk rfl
theorem a_La_law_2789 (D : Nat) (c : mC) (Q : mQ) : mAt (mRun D) 413 2789 c Q = mWp (mRun D) 413 0 (fun pc c => mAt (mRun D) 413 pc c Q) Q bk_La_law_2789 c := mAt_blk rfl
theorem a_La_law_2821 (D : Nat) (c : mC) (Q : mQ) : mAt (mRun D) 413 2821 c Q = mWp (mRun D) 413 2822 (fun pc c => mAt (mRun D) 413 pc c Q) Q bk_La_law_2821 c := mAt_blk rfl
theorem a_La_law_2822 (D : Nat) (c : mC) (Q : mQ) : mAt (mRun D) 413 2822 c Q = mWp (mRun D) 413 0 (fun pc c => mAt (mRun D) 413 pc c Q) Q bk_La_law_2822 c := mAt_blk rfl
theorem a_La_law_2838 (D : Nat) (c : mC) (Q : mQ) : mAt (mRun D) 413 2838 c Q = mWp (mRun D) 413 0 (fun pc c => mAt (mRun D) 413 pc c Q) Q bk_La_law_2838 c := mAt_blk rfl
theorem a_La_law_2855 (D : Nat) (c : mC) (Q : mQ) : mAt (mRun D) 413 2855 c Q = mWp (mRun D) 413 2856 (fun pc c => mAt (mRun D) 413 pc c Q) Q bk_La_law_2855 c := mAt_blk rfl
theorem a_La_law_2856 (D : Nat) (c : mC) (Q : mQ) : mAt (mRun D) 413 2856 c Q = mWp (mRun D) 413 0 (fun pc c => mAt (mRun D) 413 pc c Q) Q bk_La_law_2856 c := mAt_blk rfl
theorem a_La_law_2862 (D : Nat) (c : mC) (Q : mQ) : mAt (mRun D) 413 2862 c Q = mWp (mRun D) 413 0 (fun pc c => mAt (mRun D) 413 pc c Q) Q bk_La_law_2862 c := mAt_blk rfl
theorem a_La_law_2865 (D : Nat) (c : mC) (Q : mQ) : mAt (mRun D) 413 2865 c Q = mWp (mRun D) 413 0 (fun pc c => mAt (mRun D) 413 pc c Q) Q bk_La_law_2865 c := mAt_blk rfl
theorem a_La_law_2878 (D : Nat) (c : mC) (Q : mQ) : mAt (mRun D) 413 2878 c Q = mWp (mRun D) 413 0 (fun pc c => mAt (mRun D) 413 pc c Q) Q bk_La_law_2878 c := mAt_blk rfl
theorem a_La_law_2926 (D : Nat) (c : mC) (Q : mQ) : mAt (mRun D) 413 2926 c Q = mWp (mRun D) 413 0 (fun pc c => mAt (mRun D) 413 pc c Q) Q bk_La_law_2926 c := mAt_blk rfl
theorem a_La_law_2943 (D : Nat) (c : mC) (Q : mQ) : mAt (mRun D) 413 2943 c Q = mWp (mRun D) 413 2944 (fun pc c => mAt (mRun D) 413 pc c Q) Q bk_La_law_2943 c := mAt_blk rfl
theorem a_La_law_2944 (D : Nat) (c : mC) (Q : mQ) : mAt (mRun D) 413 2944 c Q = mWp (mRun D) 413 0 (fun pc c => mAt (mRun D) 413 pc c Q) Q bk_La_law_2944 c := mAt_blk rfl
theorem a_La_law_2950 (D : Nat) (c : mC) (Q : mQ) : mAt (mRun D) 413 2950 c Q = mWp (mRun D) 413 0 (fun pc c => mAt (mRun D) 413 pc c Q) Q bk_La_law_2950 c := mAt_blk rfl
theorem a_La_law_2953 (D : Nat) (c : mC) (Q : mQ) : mAt (mRun D) 413 2953 c Q = mWp (mRun D) 413 0 (fun pc c => mAt (mRun D) 413 pc c Q) Q bk_La_law_2953 c := mAt_blk rfl
theorem a_La_law_2966 (D : Nat) (c : mC) (Q : mQ) : mAt (mRun D) 413 2966 c Q = mWp (mRun D) 413 0 (fun pc c => mAt (mRun D) 413 pc c Q) Q bk_La_law_2966 c := mAt_blk rfl
theorem a_La_law_3014 (D : Nat) (c : mC) (Q : mQ) : mAt (mRun D) 413 3014 c Q = mWp (mRun D) 413 0 (fun pc c => mAt (mRun D) 413 pc c Q) Q bk_La_law_3014 c := mAt_blk rfl
theorem a_La_law_3031 (D : Nat) (c : mC) (Q : mQ) : mAt (mRun D) 413 3031 c Q = mWp (mRun D) 413 0 (fun pc c => mAt (mRun D) 413 pc c Q) Q bk_La_law_3031 c := mAt_blk rfl
theorem a_La_law_3034 (D : Nat) (c : mC) (Q : mQ) : mAt (mRun D) 413 3034 c Q = mWp (mRun D) 413 0 (fun pc c => mAt (mRun D) 413 pc c Q) Q bk_La_law_3034 c := mAt_blk rfl
theorem a_La_law_3082 (D : Nat) (c : mC) (Q : mQ) : mAt (mRun D) 413 3082 c Q = mWp (mRun D) 413 0 (fun pc c => mAt (mRun D) 413 pc c Q) Q bk_La_law_3082 c := mAt_blk rfl
theorem a_La_law_3099 (D : Nat) (c : mC) (Q : mQ) : mAt (mRun D) 413 3099 c Q = mWp (mRun D) 413 0 (fun pc c => mAt (mRun D) 413 pc c Q) Q bk_La_law_3099 c := mAt_blk rfl
theorem a_La_law_3102 (D : Nat) (c : mC) (Q : mQ) : mAt (mRun D) 413 3102 c Q = mWp (mRun D) 413 0 (fun pc c => mAt (mRun D) 413 pc c Q) Q bk_La_law_3102 c := mAt_blk rfl
theorem a_La_law_3150 (D : Nat) (c : mC) (Q : mQ) : mAt (mRun D) 413 3150 c Q = mWp (mRun D) 413 0 (fun pc c => mAt (mRun D) 413 pc c Q) Q bk_La_law_3150 c := mAt_blk rfl
theorem a_La_law_3167 (D : Nat) (c : mC) (Q : mQ) : mAt (mRun D) 413 3167 c Q = mWp (mRun D) 413 0 (fun pc c => mAt (mRun D) 413 pc c Q) Q bk_La_law_3167 c := mAt_blk rfl
theorem a_La_law_3170 (D : Nat) (c : mC) (Q : mQ) : mAt (mRun D) 413 3170 c Q = mWp (mRun D) 413 0 (fun pc c => mAt (mRun D) 413 pc c Q) Q bk_La_law_3170 c := mAt_blk rfl
theorem a_La_law_3218 (D : Nat) (c : mC) (Q : mQ) : mAt (mRun D) 413 3218 c Q = mWp (mRun D) 413 0 (fun pc c => mAt (mRun D) 413 pc c Q) Q bk_La_law_3218 c := mAt_blk rfl
theorem a_La_law_3235 (D : Nat) (c : mC) (Q : mQ) : mAt (mRun D) 413 3235 c Q = mWp (mRun D) 413 0 (fun pc c => mAt (mRun D) 413 pc c Q) Q bk_La_law_3235 c := mAt_blk rfl
theorem a_La_law_3238 (D : Nat) (c : mC) (Q : mQ) : mAt (mRun D) 413 3238 c Q = mWp (mRun D) 413 0 (fun pc c => mAt (mRun D) 413 pc c Q) Q bk_La_law_3238 c := mAt_blk rfl
theorem a_La_law_3322 (D : Nat) (c : mC) (Q : mQ) : mAt (mRun D) 413 3322 c Q = mWp (mRun D) 413 0 (fun pc c => mAt (mRun D) 413 pc c Q) Q bk_La_law_3322 c := mAt_blk rfl
theorem a_La_law_3339 (D : Nat) (c : mC) (Q : mQ) : mAt (mRun D) 413 3339 c Q = mWp (mRun D) 413 0 (fun pc c => mAt (mRun D) 413 pc c Q) Q bk_La_law_3339 c := mAt_blk rfl
theorem a_La_law_3342 (D : Nat) (c : mC) (Q : mQ) : mAt (mRun D) 413 3342 c Q = mWp (mRun D) 413 0 (fun pc c => mAt (mRun D) 413 pc c Q) Q bk_La_law_3342 c := mAt_blk rfl
theorem a_La_law_3414 (D : Nat) (c : mC) (Q : mQ) : mAt (mRun D) 413 3414 c Q = mWp (mRun D) 413 0 (fun pc c => mAt (mRun D) 413 pc c Q) Q bk_La_law_3414 c := mAt_blk rfl
theorem a_La_law_3431 (D : Nat) (c : mC) (Q : mQ) : mAt (mRun D) 413 3431 c Q = mWp (mRun D) 413 0 (fun pc c => mAt (mRun D) 413 pc c Q) Q bk_La_law_3431 c := mAt_blk rfl
theorem a_La_law_3434 (D : Nat) (c : mC) (Q : mQ) : mAt (mRun D) 413 3434 c Q = mWp (mRun D) 413 3470 (fun pc c => mAt (mRun D) 413 pc c Q) Q bk_La_law_3434 c := mAt_blk rfl
theorem a_La_law_3470 (D : Nat) (c : mC) (Q : mQ) : mAt (mRun D) 413 3470 c Q = mWp (mRun D) 413 0 (fun pc c => mAt (mRun D) 413 pc c Q) Q bk_La_law_3470 c := mAt_blk rfl
theorem a_La_law_3472 (D : Nat) (c : mC) (Q : mQ) : mAt (mRun D) 413 3472 c Q = mWp (mRun D) 413 0 (fun pc c => mAt (mRun D) 413 pc c Q) Q bk_La_law_3472 c := mAt_blk rfl
theorem a_La_law_3475 (D : Nat) (c : mC) (Q : mQ) : mAt (mRun D) 413 3475 c Q = mWp (mRun D) 413 3513 (fun pc c => mAt (mRun D) 413 pc c Q) Q bk_La_law_3475 c := mAt_blk rfl
theorem a_La_law_3513 (D : Nat) (c : mC) (Q : mQ) : mAt (mRun D) 413 3513 c Q = mWp (mRun D) 413 0 (fun pc c => mAt (mRun D) 413 pc c Q) Q bk_La_law_3513 c := mAt_blk rfl
theorem a_La_law_3515 (D : Nat) (c : mC) (Q : mQ) : mAt (mRun D) 413 3515 c Q = mWp (mRun D) 413 0 (fun pc c => mAt (mRun D) 413 pc c Q) Q bk_La_law_3515 c := mAt_blk rfl
theorem a_La_law_3518 (D : Nat) (c : mC) (Q : mQ) : mAt (mRun D) 413 3518 c Q = mWp (mRun D) 413 0 (fun pc c => mAt (mRun D) 413 pc c Q) Q bk_La_law_3518 c := mAt_blk rfl
theorem a_La_law_3531 (D : Nat) (c : mC) (Q : mQ) : mAt (mRun D) 413 3531 c Q = mWp (mRun D) 413 0 (fun pc c => mAt (mRun D) 413 pc c Q) Q bk_La_law_3531 c := mAt_blk rfl
theorem a_La_law_3537 (D : Nat) (c : mC) (Q : mQ) : mAt (mRun D) 413 3537 c Q = mWp (mRun D) 413 0 (fun pc c => mAt (mRun D) 413 pc c Q) Q bk_La_law_3537 c := mAt_blk rfl
