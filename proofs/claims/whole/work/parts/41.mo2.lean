def sgn (xf : Nat → Int32) (sz : Nat) (x : Int32) : Int32 := if x < nI sz then xf x.toNatClampNeg &&& 255 else 0
theorem sgn_vp {x : Int32} {sz : Nat} (hs : sz ≤ 300) (hp : ¬ x < 0) (h : x < nI sz) : vp_in x 300 := by
  obtain ⟨j, h1, rfl⟩ := nI_of hp
  exact vp_in_nI (by have := (nI_ltI (by omega) (by omega)).mp h; omega) (by decide)
set_option maxHeartbeats 4000000 in
set_option maxRecDepth 100000 in
theorem c_Mo_sign (l : Launch) (g : Gx) (h r0 r1 r2 r5 r6 r16 r17 r18 r19 r20 r21 r22 r23 r25 r27 r28 r29 r30 r31 r33 r34 r35 r36 r37 r38 r39 r40 sz : Nat) (mn dt tp fk fp at1 en tk nu fl wa co db : Int32) (nm : Int64) (xf : Nat → Int32) (p0 : Int32) (hs : sz ≤ 300) (hp : ¬ p0 < 0) : M0 l g y_Mo_sign b_Mo_sign 2 (some FieldType.int) ({ frames := 0, cells := 0, slots := 0, locals := 0 }) [.ref h, .int p0] [(h, .inr (13, [.ref r0, .ref r1, .ref r2, .int mn, .int dt, .ref r5, .ref r6, .int tp, .int (nI sz), .int fk, .int fp, .int at1, .int en, .int tk, .int nu, .long nm, .ref r16, .ref r17, .ref r18, .ref r19, .ref r20, .ref r21, .ref r22, .ref r23, .int fl, .ref r25, .int wa, .ref r27, .ref r28, .ref r29, .ref r30, .ref r31, .int co, .ref r33, .ref r34, .ref r35, .ref r36, .ref r37, .ref r38, .ref r39, .ref r40, .int db])), (r6, .inl (g.2.1 2, 300, .inl xf))] (some (.int (sgn xf sz p0))) [(h, .inr (13, [.ref r0, .ref r1, .ref r2, .int mn, .int dt, .ref r5, .ref r6, .int tp, .int (nI sz), .int fk, .int fp, .int at1, .int en, .int tk, .int nu, .long nm, .ref r16, .ref r17, .ref r18, .ref r19, .ref r20, .ref r21, .ref r22, .ref r23, .int fl, .ref r25, .int wa, .ref r27, .ref r28, .ref r29, .ref r30, .ref r31, .int co, .ref r33, .ref r34, .ref r35, .ref r36, .ref r37, .ref r38, .ref r39, .ref r40, .int db])), (r6, .inl (g.2.1 2, 300, .inl xf))] := by
  refine MP.of (by decide) (Nat.le_of_ble_eq_true rfl) (fun κ C => ?_)
  have C : zC κ l g ({ frames := 0, cells := 0, slots := 0, locals := 0 }) b_Mo_sign 2 "TombLaneModel" "sign" (some FieldType.int) _ := C
  refine g_lv (lv1 := [(0, .ref h), (1, .int p0)]) [0, 1] rfl ?_
  refine g_iload_n C 1 rfl d_Mo_sign_0 ?_
  refine g_aload_n C 0 rfl d_Mo_sign_1 ?_
  refine g_get C 0 rfl rfl in_Mo 8 (by decide) kw_1028 rfl d_Mo_sign_2 ?_
  refine g_icmp_ge C d_Mo_sign_5 (fun c_1 => ?_) (fun c_1 => ?_)
  · skip
    refine g_iconst (v := 0) C rfl d_Mo_sign_21 ?_
    exact g_iret C rfl ⟨congrArg (fun z => some (Value.int z)) (by simp [sgn, c_1, Int32.not_lt.mpr c_1]), rfl, rfl⟩ (by decide) (by decide) d_Mo_sign_22
  · skip
    refine g_aload_n C 0 rfl d_Mo_sign_8 ?_
    refine g_get C 0 rfl rfl in_Mo 6 (by decide) kw_1026 rfl d_Mo_sign_9 ?_
    refine g_iload_n C 1 rfl d_Mo_sign_12 ?_
    refine g_bald C 1 rfl (sgn_vp hs hp (Int32.not_le.mp c_1)) d_Mo_sign_13 ?_
    refine g_sipush (v := 255) C rfl d_Mo_sign_14 ?_
    refine g_iand C d_Mo_sign_17 ?_
    refine g_goto C d_Mo_sign_18 ?_
    exact g_iret C rfl ⟨congrArg (fun z => some (Value.int z)) (by simp [sgn, c_1, Int32.not_le.mp c_1]), rfl, rfl⟩ (by decide) (by decide) d_Mo_sign_22

set_option maxHeartbeats 4000000 in
set_option maxRecDepth 100000 in
theorem c_Mo_isGood (l : Launch) (g : Gx) (h r0 r1 r2 r5 r6 r16 r17 r18 r19 r20 r21 r22 r23 r25 r27 r28 r29 r30 r31 r33 r34 r35 r36 r37 r38 r39 r40 : Nat) (mn dt tp sz fk fp at1 en tk nu fl wa co db : Int32) (nm : Int64) : M0 l g y_Mo_isGood b_Mo_isGood 1 (some FieldType.boolean) ({ frames := 0, cells := 0, slots := 0, locals := 0 }) [.ref h] [(h, .inr (13, [.ref r0, .ref r1, .ref r2, .int mn, .int dt, .ref r5, .ref r6, .int tp, .int sz, .int fk, .int fp, .int at1, .int en, .int tk, .int nu, .long nm, .ref r16, .ref r17, .ref r18, .ref r19, .ref r20, .ref r21, .ref r22, .ref r23, .int fl, .ref r25, .int wa, .ref r27, .ref r28, .ref r29, .ref r30, .ref r31, .int co, .ref r33, .ref r34, .ref r35, .ref r36, .ref r37, .ref r38, .ref r39, .ref r40, .int db]))] (some (.int (zb (fk = 0)))) [(h, .inr (13, [.ref r0, .ref r1, .ref r2, .int mn, .int dt, .ref r5, .ref r6, .int tp, .int sz, .int fk, .int fp, .int at1, .int en, .int tk, .int nu, .long nm, .ref r16, .ref r17, .ref r18, .ref r19, .ref r20, .ref r21, .ref r22, .ref r23, .int fl, .ref r25, .int wa, .ref r27, .ref r28, .ref r29, .ref r30, .ref r31, .int co, .ref r33, .ref r34, .ref r35, .ref r36, .ref r37, .ref r38, .ref r39, .ref r40, .int db]))] := by
  refine MP.of (by decide) (Nat.le_of_ble_eq_true rfl) (fun κ C => ?_)
  have C : zC κ l g ({ frames := 0, cells := 0, slots := 0, locals := 0 }) b_Mo_isGood 1 "TombLaneModel" "isGood" (some FieldType.boolean) _ := C
  refine g_lv (lv1 := [(0, .ref h)]) [0] rfl ?_
  refine g_aload_n C 0 rfl d_Mo_isGood_0 ?_
  refine g_get C 0 rfl rfl in_Mo 9 (by decide) kw_1029 rfl d_Mo_isGood_1 ?_
  refine g_if_ne C d_Mo_isGood_4 (fun c_1 => ?_) (fun c_1 => ?_)
  · skip
    refine g_iconst (v := 0) C rfl d_Mo_isGood_11 ?_
    exact g_zret C (Or.inl rfl) rfl ⟨congrArg (fun z => some (Value.int z)) (by simp [zb, c_1]), rfl, rfl⟩ (by decide) (by decide) d_Mo_isGood_12
  · skip
    refine g_iconst (v := 1) C rfl d_Mo_isGood_7 ?_
    refine g_goto C d_Mo_isGood_8 ?_
    exact g_zret C (Or.inr rfl) rfl ⟨congrArg (fun z => some (Value.int z)) (by simp [zb, eq_true c_1]), rfl, rfl⟩ (by decide) (by decide) d_Mo_isGood_12

set_option maxHeartbeats 4000000 in
set_option maxRecDepth 100000 in
theorem c_Mo_fails (l : Launch) (g : Gx) (h r0 r1 r2 r5 r6 r16 r17 r18 r19 r20 r21 r22 r23 r25 r27 r28 r29 r30 r31 r33 r34 r35 r36 r37 r38 r39 r40 : Nat) (mn dt tp sz fk fp at1 en tk nu fl wa co db : Int32) (nm : Int64) (p0 p1 : Int32) : M0 l g y_Mo_fails b_Mo_fails 3 (none : Option FieldType) ({ frames := 0, cells := 0, slots := 0, locals := 0 }) [.ref h, .int p0, .int p1] [(h, .inr (13, [.ref r0, .ref r1, .ref r2, .int mn, .int dt, .ref r5, .ref r6, .int tp, .int sz, .int fk, .int fp, .int at1, .int en, .int tk, .int nu, .long nm, .ref r16, .ref r17, .ref r18, .ref r19, .ref r20, .ref r21, .ref r22, .ref r23, .int fl, .ref r25, .int wa, .ref r27, .ref r28, .ref r29, .ref r30, .ref r31, .int co, .ref r33, .ref r34, .ref r35, .ref r36, .ref r37, .ref r38, .ref r39, .ref r40, .int db]))] none [(h, .inr (13, [.ref r0, .ref r1, .ref r2, .int mn, .int dt, .ref r5, .ref r6, .int tp, .int sz, .int (if 0 < fk then fk else p0), .int (if 0 < fk then fp else p1), .int at1, .int en, .int tk, .int nu, .long nm, .ref r16, .ref r17, .ref r18, .ref r19, .ref r20, .ref r21, .ref r22, .ref r23, .int fl, .ref r25, .int wa, .ref r27, .ref r28, .ref r29, .ref r30, .ref r31, .int co, .ref r33, .ref r34, .ref r35, .ref r36, .ref r37, .ref r38, .ref r39, .ref r40, .int db]))] := by
  refine MP.of (by decide) (Nat.le_of_ble_eq_true rfl) (fun κ C => ?_)
  have C : zC κ l g ({ frames := 0, cells := 0, slots := 0, locals := 0 }) b_Mo_fails 3 "TombLaneModel" "fails" (none : Option FieldType) _ := C
  refine g_lv (lv1 := [(0, .ref h), (1, .int p0), (2, .int p1)]) [0, 1, 2] rfl ?_
  refine g_aload_n C 0 rfl d_Mo_fails_0 ?_
  refine g_get C 0 rfl rfl in_Mo 9 (by decide) kw_1029 rfl d_Mo_fails_1 ?_
  refine g_if_le C d_Mo_fails_4 (fun c_1 => ?_) (fun c_1 => ?_)
  · skip
    refine g_aload_n C 0 rfl d_Mo_fails_8 ?_
    refine g_iload_n C 1 rfl d_Mo_fails_9 ?_
    refine g_put (X1 := [(h, .inr (13, [.ref r0, .ref r1, .ref r2, .int mn, .int dt, .ref r5, .ref r6, .int tp, .int sz, .int p0, .int fp, .int at1, .int en, .int tk, .int nu, .long nm, .ref r16, .ref r17, .ref r18, .ref r19, .ref r20, .ref r21, .ref r22, .ref r23, .int fl, .ref r25, .int wa, .ref r27, .ref r28, .ref r29, .ref r30, .ref r31, .int co, .ref r33, .ref r34, .ref r35, .ref r36, .ref r37, .ref r38, .ref r39, .ref r40, .int db]))]) C 0 rfl rfl in_Mo 9 (by decide) ok_Mo nm_Mo kw_1029 rfl rfl rfl (Nat.le_of_ble_eq_true rfl) rfl d_Mo_fails_10 ?_
    refine g_aload_n C 0 rfl d_Mo_fails_13 ?_
    refine g_iload_n C 2 rfl d_Mo_fails_14 ?_
    refine g_put (X1 := [(h, .inr (13, [.ref r0, .ref r1, .ref r2, .int mn, .int dt, .ref r5, .ref r6, .int tp, .int sz, .int p0, .int p1, .int at1, .int en, .int tk, .int nu, .long nm, .ref r16, .ref r17, .ref r18, .ref r19, .ref r20, .ref r21, .ref r22, .ref r23, .int fl, .ref r25, .int wa, .ref r27, .ref r28, .ref r29, .ref r30, .ref r31, .int co, .ref r33, .ref r34, .ref r35, .ref r36, .ref r37, .ref r38, .ref r39, .ref r40, .int db]))]) C 0 rfl rfl in_Mo 10 (by decide) ok_Mo nm_Mo kw_1030 rfl rfl rfl (Nat.le_of_ble_eq_true rfl) rfl d_Mo_fails_15 ?_
    exact g_vret C rfl ⟨rfl, (by simp [c_1, Int32.not_lt.mpr c_1]), rfl⟩ (by decide) (by decide) d_Mo_fails_18
  · skip
    exact g_vret C rfl ⟨rfl, (by simp [c_1, Int32.not_le.mp c_1]), rfl⟩ (by decide) (by decide) d_Mo_fails_7

set_option maxHeartbeats 4000000 in
set_option maxRecDepth 100000 in
theorem c_Mo_is (l : Launch) (g : Gx) (h r0 r1 r2 r5 r6 r16 r17 r18 r19 r20 r21 r22 r23 r25 r27 r28 r29 r30 r31 r33 r34 r35 r36 r37 r38 r39 r40 sz : Nat) (mn dt tp fk fp at1 en tk nu fl wa co db : Int32) (nm : Int64) (xf : Nat → Int32) (p0 : Int32) (hs : sz ≤ 300) (hp : ¬ at1 < 0) : M0 l g y_Mo_is b_Mo_is 2 (some FieldType.boolean) ({ frames := 1, cells := 0, slots := 0, locals := 21 }) [.ref h, .int p0] [(h, .inr (13, [.ref r0, .ref r1, .ref r2, .int mn, .int dt, .ref r5, .ref r6, .int tp, .int (nI sz), .int fk, .int fp, .int at1, .int en, .int tk, .int nu, .long nm, .ref r16, .ref r17, .ref r18, .ref r19, .ref r20, .ref r21, .ref r22, .ref r23, .int fl, .ref r25, .int wa, .ref r27, .ref r28, .ref r29, .ref r30, .ref r31, .int co, .ref r33, .ref r34, .ref r35, .ref r36, .ref r37, .ref r38, .ref r39, .ref r40, .int db])), (r6, .inl (g.2.1 2, 300, .inl xf))] (some (.int (zb (tk = 5 ∧ sgn xf sz at1 = p0)))) [(h, .inr (13, [.ref r0, .ref r1, .ref r2, .int mn, .int dt, .ref r5, .ref r6, .int tp, .int (nI sz), .int fk, .int fp, .int at1, .int en, .int tk, .int nu, .long nm, .ref r16, .ref r17, .ref r18, .ref r19, .ref r20, .ref r21, .ref r22, .ref r23, .int fl, .ref r25, .int wa, .ref r27, .ref r28, .ref r29, .ref r30, .ref r31, .int co, .ref r33, .ref r34, .ref r35, .ref r36, .ref r37, .ref r38, .ref r39, .ref r40, .int db])), (r6, .inl (g.2.1 2, 300, .inl xf))] := by
  refine MP.of (by decide) (Nat.le_of_ble_eq_true rfl) (fun κ C => ?_)
  have C : zC κ l g ({ frames := 1, cells := 0, slots := 0, locals := 21 }) b_Mo_is 2 "TombLaneModel" "is" (some FieldType.boolean) _ := C
  refine g_lv (lv1 := [(0, .ref h), (1, .int p0)]) [0, 1] rfl ?_
  refine g_aload_n C 0 rfl d_Mo_is_0 ?_
  refine g_get C 0 rfl rfl in_Mo 13 (by decide) kw_1033 rfl d_Mo_is_1 ?_
  refine g_iconst (v := 5) C rfl d_Mo_is_4 ?_
  refine g_icmp_ne C d_Mo_is_5 (fun c_1 => ?_) (fun c_1 => ?_)
  · skip
    refine g_iconst (v := 0) C rfl d_Mo_is_24 ?_
    exact g_zret C (Or.inl rfl) rfl ⟨congrArg (fun z => some (Value.int z)) (by simp [zb, c_1]), rfl, rfl⟩ (by decide) (by decide) d_Mo_is_25
  · skip
    refine g_aload_n C 0 rfl d_Mo_is_8 ?_
    refine g_aload_n C 0 rfl d_Mo_is_9 ?_
    refine g_get C 0 rfl rfl in_Mo 11 (by decide) kw_1031 rfl d_Mo_is_10 ?_
    refine g_callV0 (rest := []) (Xn := [(h, .inr (13, [.ref r0, .ref r1, .ref r2, .int mn, .int dt, .ref r5, .ref r6, .int tp, .int (nI sz), .int fk, .int fp, .int at1, .int en, .int tk, .int nu, .long nm, .ref r16, .ref r17, .ref r18, .ref r19, .ref r20, .ref r21, .ref r22, .ref r23, .int fl, .ref r25, .int wa, .ref r27, .ref r28, .ref r29, .ref r30, .ref r31, .int co, .ref r33, .ref r34, .ref r35, .ref r36, .ref r37, .ref r38, .ref r39, .ref r40, .int db])), (r6, .inl (g.2.1 2, 300, .inl xf))]) C (c_Mo_sign l g h r0 r1 r2 r5 r6 r16 r17 r18 r19 r20 r21 r22 r23 r25 r27 r28 r29 r30 r31 r33 r34 r35 r36 r37 r38 r39 r40 sz mn dt tp fk fp at1 en tk nu fl wa co db nm xf at1 (by assumption) (by assumption)) [0, 1] [] [0, 1] rfl (by decide) (by decide) rfl mo_Mo_sign mv_Mo_sign kw_914 (by decide) (rcX 0 rfl rfl) rfl (Nat.le_of_ble_eq_true rfl) ⟨Nat.le_of_ble_eq_true rfl, Nat.le_of_ble_eq_true rfl⟩ d_Mo_is_13 ?_
    refine g_iload_n C 1 rfl d_Mo_is_16 ?_
    refine g_icmp_ne C d_Mo_is_17 (fun c_2 => ?_) (fun c_2 => ?_)
    · skip
      refine g_iconst (v := 0) C rfl d_Mo_is_24 ?_
      exact g_zret C (Or.inl rfl) rfl ⟨congrArg (fun z => some (Value.int z)) (by simp [zb, eq_true c_1, c_2]), rfl, rfl⟩ (by decide) (by decide) d_Mo_is_25
    · skip
      refine g_iconst (v := 1) C rfl d_Mo_is_20 ?_
      refine g_goto C d_Mo_is_21 ?_
      exact g_zret C (Or.inr rfl) rfl ⟨congrArg (fun z => some (Value.int z)) (by simp [zb, eq_true c_1, eq_true c_2]), rfl, rfl⟩ (by decide) (by decide) d_Mo_is_25

set_option maxHeartbeats 4000000 in
set_option maxRecDepth 100000 in
theorem c_Mo_isWord (l : Launch) (g : Gx) (h r0 r1 r2 r5 r6 r16 r17 r18 r19 r20 r21 r22 r23 r25 r27 r28 r29 r30 r31 r33 r34 r35 r36 r37 r38 r39 r40 : Nat) (mn dt tp sz fk fp at1 en tk nu fl wa co db : Int32) (nm : Int64) (p0 : Int64) : M0 l g y_Mo_isWord b_Mo_isWord 3 (some FieldType.boolean) ({ frames := 0, cells := 0, slots := 0, locals := 0 }) [.ref h, .long p0] [(h, .inr (13, [.ref r0, .ref r1, .ref r2, .int mn, .int dt, .ref r5, .ref r6, .int tp, .int sz, .int fk, .int fp, .int at1, .int en, .int tk, .int nu, .long nm, .ref r16, .ref r17, .ref r18, .ref r19, .ref r20, .ref r21, .ref r22, .ref r23, .int fl, .ref r25, .int wa, .ref r27, .ref r28, .ref r29, .ref r30, .ref r31, .int co, .ref r33, .ref r34, .ref r35, .ref r36, .ref r37, .ref r38, .ref r39, .ref r40, .int db]))] (some (.int (zb (tk = 3 ∧ nm = p0)))) [(h, .inr (13, [.ref r0, .ref r1, .ref r2, .int mn, .int dt, .ref r5, .ref r6, .int tp, .int sz, .int fk, .int fp, .int at1, .int en, .int tk, .int nu, .long nm, .ref r16, .ref r17, .ref r18, .ref r19, .ref r20, .ref r21, .ref r22, .ref r23, .int fl, .ref r25, .int wa, .ref r27, .ref r28, .ref r29, .ref r30, .ref r31, .int co, .ref r33, .ref r34, .ref r35, .ref r36, .ref r37, .ref r38, .ref r39, .ref r40, .int db]))] := by
  refine MP.of (by decide) (Nat.le_of_ble_eq_true rfl) (fun κ C => ?_)
  have C : zC κ l g ({ frames := 0, cells := 0, slots := 0, locals := 0 }) b_Mo_isWord 3 "TombLaneModel" "isWord" (some FieldType.boolean) _ := C
  refine g_lv (lv1 := [(0, .ref h), (1, .long p0)]) [0, 1] rfl ?_
  refine g_aload_n C 0 rfl d_Mo_isWord_0 ?_
  refine g_get C 0 rfl rfl in_Mo 13 (by decide) kw_1033 rfl d_Mo_isWord_1 ?_
  refine g_iconst (v := 3) C rfl d_Mo_isWord_4 ?_
  refine g_icmp_ne C d_Mo_isWord_5 (fun c_1 => ?_) (fun c_1 => ?_)
  · skip
    refine g_iconst (v := 0) C rfl d_Mo_isWord_21 ?_
    exact g_zret C (Or.inl rfl) rfl ⟨congrArg (fun z => some (Value.int z)) (by simp [zb, c_1]), rfl, rfl⟩ (by decide) (by decide) d_Mo_isWord_22
  · skip
    refine g_aload_n C 0 rfl d_Mo_isWord_8 ?_
    refine g_get C 0 rfl rfl in_Mo 15 (by decide) kw_1035 rfl d_Mo_isWord_9 ?_
    refine g_lload_n C 1 rfl d_Mo_isWord_12 ?_
    refine g_lcmp C d_Mo_isWord_13 ?_
    refine g_if_ne C d_Mo_isWord_14 (fun c_2 => ?_) (fun c_2 => ?_)
    · have c_2 : ¬ ((nm : Int64) = p0) := fun z => c_2 ((lg_cmp_eq _ _).mpr z)
      refine g_iconst (v := 0) C rfl d_Mo_isWord_21 ?_
      exact g_zret C (Or.inl rfl) rfl ⟨congrArg (fun z => some (Value.int z)) (by simp [zb, eq_true c_1, c_2]), rfl, rfl⟩ (by decide) (by decide) d_Mo_isWord_22
    · have c_2 := (lg_cmp_eq _ _).mp c_2
      refine g_iconst (v := 1) C rfl d_Mo_isWord_17 ?_
      refine g_goto C d_Mo_isWord_18 ?_
      exact g_zret C (Or.inr rfl) rfl ⟨congrArg (fun z => some (Value.int z)) (by simp [zb, eq_true c_1, eq_true c_2]), rfl, rfl⟩ (by decide) (by decide) d_Mo_isWord_22

set_option maxHeartbeats 4000000 in
set_option maxRecDepth 100000 in
theorem c_Mo_wrong (l : Launch) (g : Gx) (h r0 r1 r2 r5 r6 r16 r17 r18 r19 r20 r21 r22 r23 r25 r27 r28 r29 r30 r31 r33 r34 r35 r36 r37 r38 r39 r40 : Nat) (mn dt tp sz fk fp at1 en tk nu fl wa co db : Int32) (nm : Int64) : M0 l g y_Mo_wrong b_Mo_wrong 1 (none : Option FieldType) ({ frames := 1, cells := 0, slots := 0, locals := 22 }) [.ref h] [(h, .inr (13, [.ref r0, .ref r1, .ref r2, .int mn, .int dt, .ref r5, .ref r6, .int tp, .int sz, .int fk, .int fp, .int at1, .int en, .int tk, .int nu, .long nm, .ref r16, .ref r17, .ref r18, .ref r19, .ref r20, .ref r21, .ref r22, .ref r23, .int fl, .ref r25, .int wa, .ref r27, .ref r28, .ref r29, .ref r30, .ref r31, .int co, .ref r33, .ref r34, .ref r35, .ref r36, .ref r37, .ref r38, .ref r39, .ref r40, .int db]))] none [(h, .inr (13, [.ref r0, .ref r1, .ref r2, .int mn, .int dt, .ref r5, .ref r6, .int tp, .int sz, .int (if 0 < fk then fk else (if tk = 1 then 1 else 2)), .int (if 0 < fk then fp else at1), .int at1, .int en, .int tk, .int nu, .long nm, .ref r16, .ref r17, .ref r18, .ref r19, .ref r20, .ref r21, .ref r22, .ref r23, .int fl, .ref r25, .int wa, .ref r27, .ref r28, .ref r29, .ref r30, .ref r31, .int co, .ref r33, .ref r34, .ref r35, .ref r36, .ref r37, .ref r38, .ref r39, .ref r40, .int db]))] := by
  refine MP.of (by decide) (Nat.le_of_ble_eq_true rfl) (fun κ C => ?_)
  have C : zC κ l g ({ frames := 1, cells := 0, slots := 0, locals := 22 }) b_Mo_wrong 1 "TombLaneModel" "wrong" (none : Option FieldType) _ := C
  refine g_lv (lv1 := [(0, .ref h)]) [0] rfl ?_
  refine g_aload_n C 0 rfl d_Mo_wrong_0 ?_
  refine g_aload_n C 0 rfl d_Mo_wrong_1 ?_
  refine g_get C 0 rfl rfl in_Mo 13 (by decide) kw_1033 rfl d_Mo_wrong_2 ?_
  refine g_iconst (v := 1) C rfl d_Mo_wrong_5 ?_
  refine g_icmp_ne C d_Mo_wrong_6 (fun c_1 => ?_) (fun c_1 => ?_)
  · skip
    refine g_iconst (v := 2) C rfl d_Mo_wrong_13 ?_
    refine g_aload_n C 0 rfl d_Mo_wrong_14 ?_
    refine g_get C 0 rfl rfl in_Mo 11 (by decide) kw_1031 rfl d_Mo_wrong_15 ?_
    refine g_callV0 (rest := []) (Xn := [(h, .inr (13, [.ref r0, .ref r1, .ref r2, .int mn, .int dt, .ref r5, .ref r6, .int tp, .int sz, .int (if 0 < fk then fk else 2), .int (if 0 < fk then fp else at1), .int at1, .int en, .int tk, .int nu, .long nm, .ref r16, .ref r17, .ref r18, .ref r19, .ref r20, .ref r21, .ref r22, .ref r23, .int fl, .ref r25, .int wa, .ref r27, .ref r28, .ref r29, .ref r30, .ref r31, .int co, .ref r33, .ref r34, .ref r35, .ref r36, .ref r37, .ref r38, .ref r39, .ref r40, .int db]))]) C (c_Mo_fails l g h r0 r1 r2 r5 r6 r16 r17 r18 r19 r20 r21 r22 r23 r25 r27 r28 r29 r30 r31 r33 r34 r35 r36 r37 r38 r39 r40 mn dt tp sz fk fp at1 en tk nu fl wa co db nm 2 at1) [0] [] [0] rfl (by decide) (by decide) rfl mo_Mo_fails mv_Mo_fails kw_937 (by decide) (rcX 0 rfl rfl) rfl (Nat.le_of_ble_eq_true rfl) ⟨Nat.le_of_ble_eq_true rfl, Nat.le_of_ble_eq_true rfl⟩ d_Mo_wrong_18 ?_
    exact g_vret C rfl ⟨rfl, (by simp [c_1]), rfl⟩ (by decide) (by decide) d_Mo_wrong_21
  · skip
    refine g_iconst (v := 1) C rfl d_Mo_wrong_9 ?_
    refine g_goto C d_Mo_wrong_10 ?_
    refine g_aload_n C 0 rfl d_Mo_wrong_14 ?_
    refine g_get C 0 rfl rfl in_Mo 11 (by decide) kw_1031 rfl d_Mo_wrong_15 ?_
    refine g_callV0 (rest := []) (Xn := [(h, .inr (13, [.ref r0, .ref r1, .ref r2, .int mn, .int dt, .ref r5, .ref r6, .int tp, .int sz, .int (if 0 < fk then fk else 1), .int (if 0 < fk then fp else at1), .int at1, .int en, .int tk, .int nu, .long nm, .ref r16, .ref r17, .ref r18, .ref r19, .ref r20, .ref r21, .ref r22, .ref r23, .int fl, .ref r25, .int wa, .ref r27, .ref r28, .ref r29, .ref r30, .ref r31, .int co, .ref r33, .ref r34, .ref r35, .ref r36, .ref r37, .ref r38, .ref r39, .ref r40, .int db]))]) C (c_Mo_fails l g h r0 r1 r2 r5 r6 r16 r17 r18 r19 r20 r21 r22 r23 r25 r27 r28 r29 r30 r31 r33 r34 r35 r36 r37 r38 r39 r40 mn dt tp sz fk fp at1 en tk nu fl wa co db nm 1 at1) [0] [] [0] rfl (by decide) (by decide) rfl mo_Mo_fails mv_Mo_fails kw_937 (by decide) (rcX 0 rfl rfl) rfl (Nat.le_of_ble_eq_true rfl) ⟨Nat.le_of_ble_eq_true rfl, Nat.le_of_ble_eq_true rfl⟩ d_Mo_wrong_18 ?_
    exact g_vret C rfl ⟨rfl, (by simp [eq_true c_1]), rfl⟩ (by decide) (by decide) d_Mo_wrong_21

set_option maxHeartbeats 4000000 in
set_option maxRecDepth 100000 in
theorem c_Mo_fault (l : Launch) (g : Gx) (h r0 r1 r2 r5 r6 r16 r17 r18 r19 r20 r21 r22 r23 r25 r27 r28 r29 r30 r31 r33 r34 r35 r36 r37 r38 r39 r40 : Nat) (mn dt tp sz fk fp at1 en tk nu fl wa co db : Int32) (nm : Int64) (p0 : Int32) : M0 l g y_Mo_fault b_Mo_fault 2 (some FieldType.int) ({ frames := 0, cells := 0, slots := 0, locals := 0 }) [.ref h, .int p0] [(h, .inr (13, [.ref r0, .ref r1, .ref r2, .int mn, .int dt, .ref r5, .ref r6, .int tp, .int sz, .int fk, .int fp, .int at1, .int en, .int tk, .int nu, .long nm, .ref r16, .ref r17, .ref r18, .ref r19, .ref r20, .ref r21, .ref r22, .ref r23, .int fl, .ref r25, .int wa, .ref r27, .ref r28, .ref r29, .ref r30, .ref r31, .int co, .ref r33, .ref r34, .ref r35, .ref r36, .ref r37, .ref r38, .ref r39, .ref r40, .int db]))] (some (.int (if p0 = 0 then fk else if p0 = 1 then fp else (-1)))) [(h, .inr (13, [.ref r0, .ref r1, .ref r2, .int mn, .int dt, .ref r5, .ref r6, .int tp, .int sz, .int fk, .int fp, .int at1, .int en, .int tk, .int nu, .long nm, .ref r16, .ref r17, .ref r18, .ref r19, .ref r20, .ref r21, .ref r22, .ref r23, .int fl, .ref r25, .int wa, .ref r27, .ref r28, .ref r29, .ref r30, .ref r31, .int co, .ref r33, .ref r34, .ref r35, .ref r36, .ref r37, .ref r38, .ref r39, .ref r40, .int db]))] := by
  refine MP.of (by decide) (Nat.le_of_ble_eq_true rfl) (fun κ C => ?_)
  have C : zC κ l g ({ frames := 0, cells := 0, slots := 0, locals := 0 }) b_Mo_fault 2 "TombLaneModel" "fault" (some FieldType.int) _ := C
  refine g_lv (lv1 := [(0, .ref h), (1, .int p0)]) [0, 1] rfl ?_
  refine g_iload_n C 1 rfl d_Mo_fault_0 ?_
  refine g_if_ne C d_Mo_fault_1 (fun c_1 => ?_) (fun c_1 => ?_)
  · skip
    refine g_iload_n C 1 rfl d_Mo_fault_11 ?_
    refine g_iconst (v := 1) C rfl d_Mo_fault_12 ?_
    refine g_icmp_ne C d_Mo_fault_13 (fun c_2 => ?_) (fun c_2 => ?_)
    · skip
      refine g_iconst (v := (-1)) C rfl d_Mo_fault_23 ?_
      exact g_iret C rfl ⟨congrArg (fun z => some (Value.int z)) (by simp [c_1, c_2]), rfl, rfl⟩ (by decide) (by decide) d_Mo_fault_24
    · skip
      refine g_aload_n C 0 rfl d_Mo_fault_16 ?_
      refine g_get C 0 rfl rfl in_Mo 10 (by decide) kw_1030 rfl d_Mo_fault_17 ?_
      refine g_goto C d_Mo_fault_20 ?_
      exact g_iret C rfl ⟨congrArg (fun z => some (Value.int z)) (by simp [c_1, eq_true c_2]), rfl, rfl⟩ (by decide) (by decide) d_Mo_fault_24
  · skip
    refine g_aload_n C 0 rfl d_Mo_fault_4 ?_
    refine g_get C 0 rfl rfl in_Mo 9 (by decide) kw_1029 rfl d_Mo_fault_5 ?_
    refine g_goto C d_Mo_fault_8 ?_
    exact g_iret C rfl ⟨congrArg (fun z => some (Value.int z)) (by simp [eq_true c_1]), rfl, rfl⟩ (by decide) (by decide) d_Mo_fault_24

def gvOk (n : Nat) (gf : Nat → Int32) (x : Int32) : Bool := decide (¬ x < 0 ∧ ¬ nI n ≤ x ∧ ¬ 0 ≤ gf x.toNatClampNeg)
theorem ix_vp {x : Int32} {n N : Nat} (h1 : ¬ x < 0) (h2 : ¬ nI n ≤ x) (hn : n ≤ N) (hN : N < 2 ^ 31) : vp_in x N := by
  rcases pk_ix x (n := n) (by omega) with q | q | ⟨j, q1, q2⟩
  · exact absurd q h1
  · exact absurd q h2
  · rw [q2]; exact vp_in_nI (by omega) hN
set_option maxHeartbeats 4000000 in
set_option maxRecDepth 100000 in
theorem c_Mo_giveUp (l : Launch) (g : Gx) (h r0 r1 r2 r5 r6 r16 r17 r18 r19 r20 r21 r22 r23 r25 r27 r28 r29 r30 r31 r33 r34 r35 r36 r37 r38 r39 r40 n : Nat) (mn dt tp sz fk fp at1 en tk nu wa co db : Int32) (nm : Int64) (gvf : Nat → Int32) (p0 : Int32) (hn : n ≤ 40) : M0 l g y_Mo_giveUp b_Mo_giveUp 2 (some FieldType.boolean) ({ frames := 0, cells := 0, slots := 0, locals := 0 }) [.ref h, .int p0] [(h, .inr (13, [.ref r0, .ref r1, .ref r2, .int mn, .int dt, .ref r5, .ref r6, .int tp, .int sz, .int fk, .int fp, .int at1, .int en, .int tk, .int nu, .long nm, .ref r16, .ref r17, .ref r18, .ref r19, .ref r20, .ref r21, .ref r22, .ref r23, .int (nI n), .ref r25, .int wa, .ref r27, .ref r28, .ref r29, .ref r30, .ref r31, .int co, .ref r33, .ref r34, .ref r35, .ref r36, .ref r37, .ref r38, .ref r39, .ref r40, .int db])), (r22, .inl (g.2.1 0, 41, .inl gvf))] (some (.int (zb (gvOk n gvf p0)))) [(h, .inr (13, [.ref r0, .ref r1, .ref r2, .int mn, .int dt, .ref r5, .ref r6, .int tp, .int sz, .int fk, .int fp, .int at1, .int en, .int tk, .int nu, .long nm, .ref r16, .ref r17, .ref r18, .ref r19, .ref r20, .ref r21, .ref r22, .ref r23, .int (nI n), .ref r25, .int wa, .ref r27, .ref r28, .ref r29, .ref r30, .ref r31, .int co, .ref r33, .ref r34, .ref r35, .ref r36, .ref r37, .ref r38, .ref r39, .ref r40, .int db])), (r22, .inl (g.2.1 0, 41, .inl (if gvOk n gvf p0 then upd gvf p0.toNatClampNeg dt else gvf)))] := by
  refine MP.of (by decide) (Nat.le_of_ble_eq_true rfl) (fun κ C => ?_)
  have C : zC κ l g ({ frames := 0, cells := 0, slots := 0, locals := 0 }) b_Mo_giveUp 2 "TombLaneModel" "giveUp" (some FieldType.boolean) _ := C
  refine g_lv (lv1 := [(0, .ref h), (1, .int p0)]) [0, 1] rfl ?_
  refine g_iload_n C 1 rfl d_Mo_giveUp_0 ?_
  refine g_if_lt C d_Mo_giveUp_1 (fun c_1 => ?_) (fun c_1 => ?_)
  · skip
    refine g_iconst (v := 0) C rfl d_Mo_giveUp_21 ?_
    exact g_zret C (Or.inl rfl) rfl ⟨congrArg (fun z => some (Value.int z)) (by simp [zb, gvOk, c_1, Int32.not_le.mpr c_1]), (by simp [zb, gvOk, c_1, Int32.not_le.mpr c_1]), rfl⟩ (by decide) (by decide) d_Mo_giveUp_22
  · skip
    refine g_iload_n C 1 rfl d_Mo_giveUp_4 ?_
    refine g_aload_n C 0 rfl d_Mo_giveUp_5 ?_
    refine g_get C 0 rfl rfl in_Mo 24 (by decide) kw_1044 rfl d_Mo_giveUp_6 ?_
    refine g_icmp_ge C d_Mo_giveUp_9 (fun c_2 => ?_) (fun c_2 => ?_)
    · skip
      refine g_iconst (v := 0) C rfl d_Mo_giveUp_21 ?_
      exact g_zret C (Or.inl rfl) rfl ⟨congrArg (fun z => some (Value.int z)) (by simp [zb, gvOk, c_1, Int32.not_lt.mp c_1, c_2, Int32.not_lt.mpr c_2]), (by simp [zb, gvOk, c_1, Int32.not_lt.mp c_1, c_2, Int32.not_lt.mpr c_2]), rfl⟩ (by decide) (by decide) d_Mo_giveUp_22
    · skip
      refine g_aload_n C 0 rfl d_Mo_giveUp_12 ?_
      refine g_get C 0 rfl rfl in_Mo 22 (by decide) kw_1042 rfl d_Mo_giveUp_13 ?_
      refine g_iload_n C 1 rfl d_Mo_giveUp_16 ?_
      refine g_iald C 1 rfl (ix_vp c_1 c_2 (by omega) (by decide)) d_Mo_giveUp_17 ?_
      refine g_if_lt C d_Mo_giveUp_18 (fun c_3 => ?_) (fun c_3 => ?_)
      · skip
        refine g_aload_n C 0 rfl d_Mo_giveUp_23 ?_
        refine g_get C 0 rfl rfl in_Mo 22 (by decide) kw_1042 rfl d_Mo_giveUp_24 ?_
        refine g_iload_n C 1 rfl d_Mo_giveUp_27 ?_
        refine g_aload_n C 0 rfl d_Mo_giveUp_28 ?_
        refine g_get C 0 rfl rfl in_Mo 4 (by decide) kw_1024 rfl d_Mo_giveUp_29 ?_
        refine g_iast (X1 := [(h, .inr (13, [.ref r0, .ref r1, .ref r2, .int mn, .int dt, .ref r5, .ref r6, .int tp, .int sz, .int fk, .int fp, .int at1, .int en, .int tk, .int nu, .long nm, .ref r16, .ref r17, .ref r18, .ref r19, .ref r20, .ref r21, .ref r22, .ref r23, .int (nI n), .ref r25, .int wa, .ref r27, .ref r28, .ref r29, .ref r30, .ref r31, .int co, .ref r33, .ref r34, .ref r35, .ref r36, .ref r37, .ref r38, .ref r39, .ref r40, .int db])), (r22, .inl (g.2.1 0, 41, .inl (upd gvf (Int32.toNatClampNeg p0) dt)))]) C 1 rfl (ix_vp c_1 c_2 (by omega) (by decide)) rfl d_Mo_giveUp_32 ?_
        refine g_iconst (v := 1) C rfl d_Mo_giveUp_33 ?_
        exact g_zret C (Or.inr rfl) rfl ⟨congrArg (fun z => some (Value.int z)) (by simp [zb, gvOk, c_1, Int32.not_lt.mp c_1, c_2, Int32.not_le.mp c_2, c_3, Int32.not_le.mpr c_3]), (by simp [zb, gvOk, c_1, Int32.not_lt.mp c_1, c_2, Int32.not_le.mp c_2, c_3, Int32.not_le.mpr c_3]), rfl⟩ (by decide) (by decide) d_Mo_giveUp_34
      · skip
        refine g_iconst (v := 0) C rfl d_Mo_giveUp_21 ?_
        exact g_zret C (Or.inl rfl) rfl ⟨congrArg (fun z => some (Value.int z)) (by simp [zb, gvOk, c_1, Int32.not_lt.mp c_1, c_2, Int32.not_le.mp c_2, c_3, Int32.not_lt.mp c_3]), (by simp [zb, gvOk, c_1, Int32.not_lt.mp c_1, c_2, Int32.not_le.mp c_2, c_3, Int32.not_lt.mp c_3]), rfl⟩ (by decide) (by decide) d_Mo_giveUp_22

def ltOk (dt x : Int32) : Bool := decide (¬ x < 0 ∧ ¬ 1000 < x ∧ ¬ 100000 < dt + x)
set_option maxHeartbeats 4000000 in
set_option maxRecDepth 100000 in
theorem c_Mo_later (l : Launch) (g : Gx) (h r0 r1 r2 r5 r6 r16 r17 r18 r19 r20 r21 r22 r23 r25 r27 r28 r29 r30 r31 r33 r34 r35 r36 r37 r38 r39 r40 : Nat) (mn dt tp sz fk fp at1 en tk nu fl wa co db : Int32) (nm : Int64) (p0 : Int32) : M0 l g y_Mo_later b_Mo_later 2 (some FieldType.int) ({ frames := 0, cells := 0, slots := 0, locals := 0 }) [.ref h, .int p0] [(h, .inr (13, [.ref r0, .ref r1, .ref r2, .int mn, .int dt, .ref r5, .ref r6, .int tp, .int sz, .int fk, .int fp, .int at1, .int en, .int tk, .int nu, .long nm, .ref r16, .ref r17, .ref r18, .ref r19, .ref r20, .ref r21, .ref r22, .ref r23, .int fl, .ref r25, .int wa, .ref r27, .ref r28, .ref r29, .ref r30, .ref r31, .int co, .ref r33, .ref r34, .ref r35, .ref r36, .ref r37, .ref r38, .ref r39, .ref r40, .int db]))] (some (.int (if ltOk dt p0 then dt + p0 else (-1)))) [(h, .inr (13, [.ref r0, .ref r1, .ref r2, .int mn, .int (if ltOk dt p0 then dt + p0 else dt), .ref r5, .ref r6, .int tp, .int sz, .int fk, .int fp, .int at1, .int en, .int tk, .int nu, .long nm, .ref r16, .ref r17, .ref r18, .ref r19, .ref r20, .ref r21, .ref r22, .ref r23, .int fl, .ref r25, .int wa, .ref r27, .ref r28, .ref r29, .ref r30, .ref r31, .int co, .ref r33, .ref r34, .ref r35, .ref r36, .ref r37, .ref r38, .ref r39, .ref r40, .int db]))] := by
  refine MP.of (by decide) (Nat.le_of_ble_eq_true rfl) (fun κ C => ?_)
  have C : zC κ l g ({ frames := 0, cells := 0, slots := 0, locals := 0 }) b_Mo_later 2 "TombLaneModel" "later" (some FieldType.int) _ := C
  refine g_lv (lv1 := [(0, .ref h), (1, .int p0)]) [0, 1] rfl ?_
  refine g_iload_n C 1 rfl d_Mo_later_0 ?_
  refine g_if_lt C d_Mo_later_1 (fun c_1 => ?_) (fun c_1 => ?_)
  · skip
    refine g_iconst (v := (-1)) C rfl d_Mo_later_22 ?_
    exact g_iret C rfl ⟨congrArg (fun z => some (Value.int z)) (by simp [ltOk, c_1, Int32.not_le.mpr c_1]), (by simp [ltOk, c_1, Int32.not_le.mpr c_1]), rfl⟩ (by decide) (by decide) d_Mo_later_23
  · skip
    refine g_iload_n C 1 rfl d_Mo_later_4 ?_
    refine g_sipush (v := 1000) C rfl d_Mo_later_5 ?_
    refine g_icmp_gt C d_Mo_later_8 (fun c_2 => ?_) (fun c_2 => ?_)
    · skip
      refine g_iconst (v := (-1)) C rfl d_Mo_later_22 ?_
      exact g_iret C rfl ⟨congrArg (fun z => some (Value.int z)) (by simp [ltOk, c_1, Int32.not_lt.mp c_1, c_2, Int32.not_le.mpr c_2]), (by simp [ltOk, c_1, Int32.not_lt.mp c_1, c_2, Int32.not_le.mpr c_2]), rfl⟩ (by decide) (by decide) d_Mo_later_23
    · skip
      refine g_aload_n C 0 rfl d_Mo_later_11 ?_
      refine g_get C 0 rfl rfl in_Mo 4 (by decide) kw_1024 rfl d_Mo_later_12 ?_
      refine g_iload_n C 1 rfl d_Mo_later_15 ?_
      refine g_iadd C d_Mo_later_16 ?_
      refine g_ldc C kw_969 d_Mo_later_17 ?_
      refine g_icmp_le C d_Mo_later_19 (fun c_3 => ?_) (fun c_3 => ?_)
      · skip
        refine g_aload_n C 0 rfl d_Mo_later_24 ?_
        refine g_dup C rfl d_Mo_later_25 ?_
        refine g_get C 0 rfl rfl in_Mo 4 (by decide) kw_1024 rfl d_Mo_later_26 ?_
        refine g_iload_n C 1 rfl d_Mo_later_29 ?_
        refine g_iadd C d_Mo_later_30 ?_
        refine g_put (X1 := [(h, .inr (13, [.ref r0, .ref r1, .ref r2, .int mn, .int (dt + p0), .ref r5, .ref r6, .int tp, .int sz, .int fk, .int fp, .int at1, .int en, .int tk, .int nu, .long nm, .ref r16, .ref r17, .ref r18, .ref r19, .ref r20, .ref r21, .ref r22, .ref r23, .int fl, .ref r25, .int wa, .ref r27, .ref r28, .ref r29, .ref r30, .ref r31, .int co, .ref r33, .ref r34, .ref r35, .ref r36, .ref r37, .ref r38, .ref r39, .ref r40, .int db]))]) C 0 rfl rfl in_Mo 4 (by decide) ok_Mo nm_Mo kw_1024 rfl rfl rfl (Nat.le_of_ble_eq_true rfl) rfl d_Mo_later_31 ?_
        refine g_aload_n C 0 rfl d_Mo_later_34 ?_
        refine g_get C 0 rfl rfl in_Mo 4 (by decide) kw_1024 rfl d_Mo_later_35 ?_
        exact g_iret C rfl ⟨congrArg (fun z => some (Value.int z)) (by simp [ltOk, c_1, Int32.not_lt.mp c_1, c_2, Int32.not_lt.mp c_2, c_3, Int32.not_lt.mpr c_3]), (by simp [ltOk, c_1, Int32.not_lt.mp c_1, c_2, Int32.not_lt.mp c_2, c_3, Int32.not_lt.mpr c_3]), rfl⟩ (by decide) (by decide) d_Mo_later_38
      · skip
        refine g_iconst (v := (-1)) C rfl d_Mo_later_22 ?_
        exact g_iret C rfl ⟨congrArg (fun z => some (Value.int z)) (by simp [ltOk, c_1, Int32.not_lt.mp c_1, c_2, Int32.not_lt.mp c_2, c_3, Int32.not_le.mp c_3]), (by simp [ltOk, c_1, Int32.not_lt.mp c_1, c_2, Int32.not_lt.mp c_2, c_3, Int32.not_le.mp c_3]), rfl⟩ (by decide) (by decide) d_Mo_later_23

def cntM (fd gv k : Int32) : Bool := decide (¬ k < fd ∧ (gv < 0 ∨ k < gv))
set_option maxHeartbeats 4000000 in
set_option maxRecDepth 100000 in
theorem c_Mo_counts (l : Launch) (g : Gx) (h r0 r1 r2 r5 r6 r16 r17 r18 r19 r20 r21 r22 r23 r25 r27 r28 r29 r30 r31 r33 r34 r35 r36 r37 r38 r39 r40 f : Nat) (mn dt tp sz fk fp at1 en tk nu fl wa co db : Int32) (nm : Int64) (fdf gvf : Nat → Int32) (p1 : Int32) (hf : f < 41) : M0 l g y_Mo_counts b_Mo_counts 3 (some FieldType.boolean) ({ frames := 0, cells := 0, slots := 0, locals := 0 }) [.ref h, .int (nI f), .int p1] [(h, .inr (13, [.ref r0, .ref r1, .ref r2, .int mn, .int dt, .ref r5, .ref r6, .int tp, .int sz, .int fk, .int fp, .int at1, .int en, .int tk, .int nu, .long nm, .ref r16, .ref r17, .ref r18, .ref r19, .ref r20, .ref r21, .ref r22, .ref r23, .int fl, .ref r25, .int wa, .ref r27, .ref r28, .ref r29, .ref r30, .ref r31, .int co, .ref r33, .ref r34, .ref r35, .ref r36, .ref r37, .ref r38, .ref r39, .ref r40, .int db])), (r21, .inl (g.2.1 0, 41, .inl fdf)), (r22, .inl (g.2.1 0, 41, .inl gvf))] (some (.int (zb (cntM (fdf f) (gvf f) p1)))) [(h, .inr (13, [.ref r0, .ref r1, .ref r2, .int mn, .int dt, .ref r5, .ref r6, .int tp, .int sz, .int fk, .int fp, .int at1, .int en, .int tk, .int nu, .long nm, .ref r16, .ref r17, .ref r18, .ref r19, .ref r20, .ref r21, .ref r22, .ref r23, .int fl, .ref r25, .int wa, .ref r27, .ref r28, .ref r29, .ref r30, .ref r31, .int co, .ref r33, .ref r34, .ref r35, .ref r36, .ref r37, .ref r38, .ref r39, .ref r40, .int db])), (r21, .inl (g.2.1 0, 41, .inl fdf)), (r22, .inl (g.2.1 0, 41, .inl gvf))] := by
  refine MP.of (by decide) (Nat.le_of_ble_eq_true rfl) (fun κ C => ?_)
  have C : zC κ l g ({ frames := 0, cells := 0, slots := 0, locals := 0 }) b_Mo_counts 3 "TombLaneModel" "counts" (some FieldType.boolean) _ := C
  refine g_lv (lv1 := [(0, .ref h), (1, .int (nI f)), (2, .int p1)]) [0, 1, 2] rfl ?_
  refine g_aload_n C 0 rfl d_Mo_counts_0 ?_
  refine g_get C 0 rfl rfl in_Mo 21 (by decide) kw_1041 rfl d_Mo_counts_1 ?_
  refine g_iload_n C 1 rfl d_Mo_counts_4 ?_
  refine g_iald C 1 rfl (vp_in_nI (by omega) (by decide)) d_Mo_counts_5 ?_
  refine g_eq (st1 := [.int (fdf f)]) (congrArg (fun z => Value.int z :: []) (congrArg fdf (nI_clamp (by omega)))) rfl ?_
  refine g_iload_n C 2 rfl d_Mo_counts_6 ?_
  refine g_icmp_gt C d_Mo_counts_7 (fun c_1 => ?_) (fun c_1 => ?_)
  · skip
    refine g_iconst (v := 0) C rfl d_Mo_counts_33 ?_
    exact g_zret C (Or.inl rfl) rfl ⟨congrArg (fun z => some (Value.int z)) (by simp [zb, cntM, c_1, Int32.not_le.mpr c_1]), rfl, rfl⟩ (by decide) (by decide) d_Mo_counts_34
  · skip
    refine g_aload_n C 0 rfl d_Mo_counts_10 ?_
    refine g_get C 0 rfl rfl in_Mo 22 (by decide) kw_1042 rfl d_Mo_counts_11 ?_
    refine g_iload_n C 1 rfl d_Mo_counts_14 ?_
    refine g_iald C 2 rfl (vp_in_nI (by omega) (by decide)) d_Mo_counts_15 ?_
    refine g_eq (st1 := [.int (gvf f)]) (congrArg (fun z => Value.int z :: []) (congrArg gvf (nI_clamp (by omega)))) rfl ?_
    refine g_if_lt C d_Mo_counts_16 (fun c_2 => ?_) (fun c_2 => ?_)
    · skip
      refine g_iconst (v := 1) C rfl d_Mo_counts_29 ?_
      refine g_goto C d_Mo_counts_30 ?_
      exact g_zret C (Or.inr rfl) rfl ⟨congrArg (fun z => some (Value.int z)) (by simp [zb, cntM, c_1, Int32.not_lt.mp c_1, c_2, Int32.not_le.mpr c_2]), rfl, rfl⟩ (by decide) (by decide) d_Mo_counts_34
    · skip
      refine g_aload_n C 0 rfl d_Mo_counts_19 ?_
      refine g_get C 0 rfl rfl in_Mo 22 (by decide) kw_1042 rfl d_Mo_counts_20 ?_
      refine g_iload_n C 1 rfl d_Mo_counts_23 ?_
      refine g_iald C 2 rfl (vp_in_nI (by omega) (by decide)) d_Mo_counts_24 ?_
      refine g_eq (st1 := [.int (gvf f)]) (congrArg (fun z => Value.int z :: []) (congrArg gvf (nI_clamp (by omega)))) rfl ?_
      refine g_iload_n C 2 rfl d_Mo_counts_25 ?_
      refine g_icmp_le C d_Mo_counts_26 (fun c_3 => ?_) (fun c_3 => ?_)
      · skip
        refine g_iconst (v := 0) C rfl d_Mo_counts_33 ?_
        exact g_zret C (Or.inl rfl) rfl ⟨congrArg (fun z => some (Value.int z)) (by simp [zb, cntM, c_1, Int32.not_lt.mp c_1, c_2, Int32.not_lt.mp c_2, c_3, Int32.not_lt.mpr c_3]), rfl, rfl⟩ (by decide) (by decide) d_Mo_counts_34
      · skip
        refine g_iconst (v := 1) C rfl d_Mo_counts_29 ?_
        refine g_goto C d_Mo_counts_30 ?_
        exact g_zret C (Or.inr rfl) rfl ⟨congrArg (fun z => some (Value.int z)) (by simp [zb, cntM, c_1, Int32.not_lt.mp c_1, c_2, Int32.not_lt.mp c_2, c_3, Int32.not_le.mp c_3]), rfl, rfl⟩ (by decide) (by decide) d_Mo_counts_34

def sayM (sy hg : Int32) : Int32 := if sy = 8 then 0 else if 0 < sy then sy else if hg = 0 then 1 else 0
set_option maxHeartbeats 4000000 in
set_option maxRecDepth 100000 in
theorem c_Mo_saysOf (l : Launch) (g : Gx) (h r0 r1 r2 r5 r6 r16 r17 r18 r19 r20 r21 r22 r23 r25 r27 r28 r29 r30 r31 r33 r34 r35 r36 r37 r38 r39 r40 f m : Nat) (mn dt tp sz fk fp at1 en tk nu fl wa co db : Int32) (nm : Int64) (syf hgf : Nat → Int32) (hf : f < 820) (hm : m < 12) : M0 l g y_Mo_saysOf b_Mo_saysOf 4 (some FieldType.int) ({ frames := 0, cells := 0, slots := 0, locals := 0 }) [.ref h, .int (nI f), .int (nI m)] [(h, .inr (13, [.ref r0, .ref r1, .ref r2, .int mn, .int dt, .ref r5, .ref r6, .int tp, .int sz, .int fk, .int fp, .int at1, .int en, .int tk, .int nu, .long nm, .ref r16, .ref r17, .ref r18, .ref r19, .ref r20, .ref r21, .ref r22, .ref r23, .int fl, .ref r25, .int wa, .ref r27, .ref r28, .ref r29, .ref r30, .ref r31, .int co, .ref r33, .ref r34, .ref r35, .ref r36, .ref r37, .ref r38, .ref r39, .ref r40, .int db])), (r20, .inl (g.2.1 0, 9840, .inl syf)), (r23, .inl (g.2.1 3, 820, .inl hgf))] (some (.int (sayM (syf (12 * f + m)) (hgf f)))) [(h, .inr (13, [.ref r0, .ref r1, .ref r2, .int mn, .int dt, .ref r5, .ref r6, .int tp, .int sz, .int fk, .int fp, .int at1, .int en, .int tk, .int nu, .long nm, .ref r16, .ref r17, .ref r18, .ref r19, .ref r20, .ref r21, .ref r22, .ref r23, .int fl, .ref r25, .int wa, .ref r27, .ref r28, .ref r29, .ref r30, .ref r31, .int co, .ref r33, .ref r34, .ref r35, .ref r36, .ref r37, .ref r38, .ref r39, .ref r40, .int db])), (r20, .inl (g.2.1 0, 9840, .inl syf)), (r23, .inl (g.2.1 3, 820, .inl hgf))] := by
  refine MP.of (by decide) (Nat.le_of_ble_eq_true rfl) (fun κ C => ?_)
  have C : zC κ l g ({ frames := 0, cells := 0, slots := 0, locals := 0 }) b_Mo_saysOf 4 "TombLaneModel" "saysOf" (some FieldType.int) _ := C
  refine g_lv (lv1 := [(0, .ref h), (1, .int (nI f)), (2, .int (nI m))]) [0, 1, 2] rfl ?_
  refine g_aload_n C 0 rfl d_Mo_saysOf_0 ?_
  refine g_get C 0 rfl rfl in_Mo 20 (by decide) kw_1040 rfl d_Mo_saysOf_1 ?_
  refine g_bipush (v := 12) C rfl d_Mo_saysOf_4 ?_
  refine g_iload_n C 1 rfl d_Mo_saysOf_6 ?_
  refine g_imul C d_Mo_saysOf_7 ?_
  refine g_eq (st1 := [.int (nI (12 * f)), .ref r20]) (congrArg (fun z => Value.int z :: [.ref r20]) (pk_mul 12 f)) rfl ?_
  refine g_iload_n C 2 rfl d_Mo_saysOf_8 ?_
  refine g_iadd C d_Mo_saysOf_9 ?_
  refine g_eq (st1 := [.int (nI ((12 * f) + m)), .ref r20]) (congrArg (fun z => Value.int z :: [.ref r20]) (nI_add (12 * f) m)) rfl ?_
  refine g_iald C 1 rfl (vp_in_nI (by omega) (by decide)) d_Mo_saysOf_10 ?_
  refine g_eq (st1 := [.int (syf ((12 * f) + m))]) (congrArg (fun z => Value.int z :: []) (congrArg syf (nI_clamp (by omega)))) rfl ?_
  refine g_istore_n (lv1 := [(0, .ref h), (1, .int (nI f)), (2, .int (nI m)), (3, .int (syf ((12 * f) + m)))]) C d_Mo_saysOf_11 [1, 2, 3, 0] (by decide) rfl ?_
  refine g_iload_n C 3 rfl d_Mo_saysOf_12 ?_
  refine g_bipush (v := 8) C rfl d_Mo_saysOf_13 ?_
  refine g_icmp_ne C d_Mo_saysOf_15 (fun c_1 => ?_) (fun c_1 => ?_)
  · skip
    refine g_iload_n C 3 rfl d_Mo_saysOf_22 ?_
    refine g_if_le C d_Mo_saysOf_23 (fun c_2 => ?_) (fun c_2 => ?_)
    · skip
      refine g_aload_n C 0 rfl d_Mo_saysOf_30 ?_
      refine g_get C 0 rfl rfl in_Mo 23 (by decide) kw_1043 rfl d_Mo_saysOf_31 ?_
      refine g_iload_n C 1 rfl d_Mo_saysOf_34 ?_
      refine g_zald C 2 rfl (vp_in_nI (by omega) (by decide)) d_Mo_saysOf_35 ?_
      refine g_eq (st1 := [.int (hgf f)]) (congrArg (fun z => Value.int z :: []) (congrArg hgf (nI_clamp (by omega)))) rfl ?_
      refine g_if_eq C d_Mo_saysOf_36 (fun c_3 => ?_) (fun c_3 => ?_)
      · skip
        refine g_iconst (v := 1) C rfl d_Mo_saysOf_43 ?_
        exact g_iret C rfl ⟨congrArg (fun z => some (Value.int z)) (by simp [sayM, c_1, c_2, Int32.not_lt.mpr c_2, eq_true c_3]), rfl, rfl⟩ (by decide) (by decide) d_Mo_saysOf_44
      · skip
        refine g_iconst (v := 0) C rfl d_Mo_saysOf_39 ?_
        refine g_goto C d_Mo_saysOf_40 ?_
        exact g_iret C rfl ⟨congrArg (fun z => some (Value.int z)) (by simp [sayM, c_1, c_2, Int32.not_lt.mpr c_2, c_3]), rfl, rfl⟩ (by decide) (by decide) d_Mo_saysOf_44
    · skip
      refine g_iload_n C 3 rfl d_Mo_saysOf_26 ?_
      refine g_goto C d_Mo_saysOf_27 ?_
      exact g_iret C rfl ⟨congrArg (fun z => some (Value.int z)) (by simp [sayM, c_1, c_2, Int32.not_le.mp c_2]), rfl, rfl⟩ (by decide) (by decide) d_Mo_saysOf_44
  · skip
    refine g_iconst (v := 0) C rfl d_Mo_saysOf_18 ?_
    refine g_goto C d_Mo_saysOf_19 ?_
    exact g_iret C rfl ⟨congrArg (fun z => some (Value.int z)) (by simp [sayM, eq_true c_1]), rfl, rfl⟩ (by decide) (by decide) d_Mo_saysOf_44

def joi (was more : Int32) : Int32 := if more = 0 ∨ was = 7 then was else if was = 0 then more else if (was = 1 ↔ more = 1) then was else 7
set_option maxHeartbeats 4000000 in
set_option maxRecDepth 100000 in
theorem c_Mo_joined (l : Launch) (g : Gx) (p0 p1 : Int32) : M0 l g y_Mo_joined b_Mo_joined 2 (some FieldType.int) ({ frames := 0, cells := 0, slots := 0, locals := 0 }) [.int p0, .int p1] [] (some (.int (joi p0 p1))) [] := by
  refine MP.of (by decide) (Nat.le_of_ble_eq_true rfl) (fun κ C => ?_)
  have C : zC κ l g ({ frames := 0, cells := 0, slots := 0, locals := 0 }) b_Mo_joined 2 "TombLaneModel" "joined" (some FieldType.int) _ := C
  refine g_lv (lv1 := [(0, .int p0), (1, .int p1)]) [0, 1] rfl ?_
  refine g_iload_n C 1 rfl d_Mo_joined_0 ?_
  refine g_if_eq C d_Mo_joined_1 (fun c_1 => ?_) (fun c_1 => ?_)
  · skip
    refine g_iload_n C 0 rfl d_Mo_joined_10 ?_
    exact g_iret C rfl ⟨congrArg (fun z => some (Value.int z)) (by simp [joi, eq_true c_1]), rfl, rfl⟩ (by decide) (by decide) d_Mo_joined_11
  · skip
    refine g_iload_n C 0 rfl d_Mo_joined_4 ?_
    refine g_bipush (v := 7) C rfl d_Mo_joined_5 ?_
    refine g_icmp_ne C d_Mo_joined_7 (fun c_2 => ?_) (fun c_2 => ?_)
    · skip
      refine g_iload_n C 0 rfl d_Mo_joined_12 ?_
      refine g_if_ne C d_Mo_joined_13 (fun c_3 => ?_) (fun c_3 => ?_)
      · skip
        refine g_iload_n C 0 rfl d_Mo_joined_18 ?_
        refine g_iconst (v := 1) C rfl d_Mo_joined_19 ?_
        refine g_icmp_ne C d_Mo_joined_20 (fun c_4 => ?_) (fun c_4 => ?_)
        · skip
          refine g_iconst (v := 0) C rfl d_Mo_joined_27 ?_
          refine g_iload_n C 1 rfl d_Mo_joined_28 ?_
          refine g_iconst (v := 1) C rfl d_Mo_joined_29 ?_
          refine g_icmp_ne C d_Mo_joined_30 (fun c_5 => ?_) (fun c_5 => ?_)
          · skip
            refine g_iconst (v := 0) C rfl d_Mo_joined_37 ?_
            refine g_icmp_ne C d_Mo_joined_38 (fun c_6 => absurd c_6 (by decide)) (fun _ => ?_)
            refine g_iload_n C 0 rfl d_Mo_joined_41 ?_
            refine g_goto C d_Mo_joined_42 ?_
            exact g_iret C rfl ⟨congrArg (fun z => some (Value.int z)) (by simp [joi, c_1, c_2, c_3, c_4, c_5]), rfl, rfl⟩ (by decide) (by decide) d_Mo_joined_47
          · skip
            refine g_iconst (v := 1) C rfl d_Mo_joined_33 ?_
            refine g_goto C d_Mo_joined_34 ?_
            refine g_icmp_ne C d_Mo_joined_38 (fun _ => ?_) (fun c_7 => absurd c_7 (by decide))
            refine g_bipush (v := 7) C rfl d_Mo_joined_45 ?_
            exact g_iret C rfl ⟨congrArg (fun z => some (Value.int z)) (by simp [joi, c_1, c_2, c_3, c_4, eq_true c_5]), rfl, rfl⟩ (by decide) (by decide) d_Mo_joined_47
        · skip
          refine g_iconst (v := 1) C rfl d_Mo_joined_23 ?_
          refine g_goto C d_Mo_joined_24 ?_
          refine g_iload_n C 1 rfl d_Mo_joined_28 ?_
          refine g_iconst (v := 1) C rfl d_Mo_joined_29 ?_
          refine g_icmp_ne C d_Mo_joined_30 (fun c_8 => ?_) (fun c_8 => ?_)
          · skip
            refine g_iconst (v := 0) C rfl d_Mo_joined_37 ?_
            refine g_icmp_ne C d_Mo_joined_38 (fun _ => ?_) (fun c_9 => absurd c_9 (by decide))
            refine g_bipush (v := 7) C rfl d_Mo_joined_45 ?_
            exact g_iret C rfl ⟨congrArg (fun z => some (Value.int z)) (by simp [joi, c_1, c_2, c_3, eq_true c_4, c_8]), rfl, rfl⟩ (by decide) (by decide) d_Mo_joined_47
          · skip
            refine g_iconst (v := 1) C rfl d_Mo_joined_33 ?_
            refine g_goto C d_Mo_joined_34 ?_
            refine g_icmp_ne C d_Mo_joined_38 (fun c_10 => absurd c_10 (by decide)) (fun _ => ?_)
            refine g_iload_n C 0 rfl d_Mo_joined_41 ?_
            refine g_goto C d_Mo_joined_42 ?_
            exact g_iret C rfl ⟨congrArg (fun z => some (Value.int z)) (by simp [joi, c_1, c_2, c_3, eq_true c_4, eq_true c_8]), rfl, rfl⟩ (by decide) (by decide) d_Mo_joined_47
      · skip
        refine g_iload_n C 1 rfl d_Mo_joined_16 ?_
        exact g_iret C rfl ⟨congrArg (fun z => some (Value.int z)) (by simp [joi, c_1, c_2, eq_true c_3]), rfl, rfl⟩ (by decide) (by decide) d_Mo_joined_17
    · skip
      refine g_iload_n C 0 rfl d_Mo_joined_10 ?_
      exact g_iret C rfl ⟨congrArg (fun z => some (Value.int z)) (by simp [joi, c_1, eq_true c_2]), rfl, rfl⟩ (by decide) (by decide) d_Mo_joined_11

set_option maxHeartbeats 4000000 in
set_option maxRecDepth 100000 in
theorem c_Mo_ration (l : Launch) (g : Gx) (h r0 r1 r2 r5 r6 r16 r17 r18 r19 r20 r21 r22 r23 r25 r27 r28 r29 r30 r31 r33 r34 r35 r36 r37 r38 r39 r40 : Nat) (mn dt tp sz fk fp at1 en tk nu fl wa co db : Int32) (nm : Int64) (skf : Nat → Int32) (p0 p1 : Int32) : M0 l g y_Mo_ration b_Mo_ration 3 (some FieldType.boolean) ({ frames := 0, cells := 0, slots := 0, locals := 0 }) [.ref h, .int p0, .int p1] [(h, .inr (13, [.ref r0, .ref r1, .ref r2, .int mn, .int dt, .ref r5, .ref r6, .int tp, .int sz, .int fk, .int fp, .int at1, .int en, .int tk, .int nu, .long nm, .ref r16, .ref r17, .ref r18, .ref r19, .ref r20, .ref r21, .ref r22, .ref r23, .int fl, .ref r25, .int wa, .ref r27, .ref r28, .ref r29, .ref r30, .ref r31, .int co, .ref r33, .ref r34, .ref r35, .ref r36, .ref r37, .ref r38, .ref r39, .ref r40, .int db])), (r27, .inl (g.2.1 0, 4, .inl skf))] (some (.int (zb (inB p0 4 = true ∧ rg p1 0 100 = true)))) [(h, .inr (13, [.ref r0, .ref r1, .ref r2, .int mn, .int dt, .ref r5, .ref r6, .int tp, .int sz, .int fk, .int fp, .int at1, .int en, .int tk, .int nu, .long nm, .ref r16, .ref r17, .ref r18, .ref r19, .ref r20, .ref r21, .ref r22, .ref r23, .int fl, .ref r25, .int wa, .ref r27, .ref r28, .ref r29, .ref r30, .ref r31, .int co, .ref r33, .ref r34, .ref r35, .ref r36, .ref r37, .ref r38, .ref r39, .ref r40, .int db])), (r27, .inl (g.2.1 0, 4, .inl (if inB p0 4 = true ∧ rg p1 0 100 = true then upd skf p0.toNatClampNeg p1 else skf)))] := by
  refine MP.of (by decide) (Nat.le_of_ble_eq_true rfl) (fun κ C => ?_)
  have C : zC κ l g ({ frames := 0, cells := 0, slots := 0, locals := 0 }) b_Mo_ration 3 "TombLaneModel" "ration" (some FieldType.boolean) _ := C
  refine g_lv (lv1 := [(0, .ref h), (1, .int p0), (2, .int p1)]) [0, 1, 2] rfl ?_
  refine g_iload_n C 1 rfl d_Mo_ration_0 ?_
  refine g_if_lt C d_Mo_ration_1 (fun c_1 => ?_) (fun c_1 => ?_)
  · skip
    refine g_iconst (v := 0) C rfl d_Mo_ration_19 ?_
    exact g_zret C (Or.inl rfl) rfl ⟨congrArg (fun z => some (Value.int z)) (by simp [zb, inB, rg, c_1, Int32.not_le.mpr c_1]), (by simp [zb, inB, rg, c_1, Int32.not_le.mpr c_1]), rfl⟩ (by decide) (by decide) d_Mo_ration_20
  · skip
    refine g_iload_n C 1 rfl d_Mo_ration_4 ?_
    refine g_iconst (v := 4) C rfl d_Mo_ration_5 ?_
    refine g_icmp_ge C d_Mo_ration_6 (fun c_2 => ?_) (fun c_2 => ?_)
    · skip
      refine g_iconst (v := 0) C rfl d_Mo_ration_19 ?_
      exact g_zret C (Or.inl rfl) rfl ⟨congrArg (fun z => some (Value.int z)) (by simp [zb, inB, rg, c_1, Int32.not_lt.mp c_1, c_2, Int32.not_lt.mpr c_2]), (by simp [zb, inB, rg, c_1, Int32.not_lt.mp c_1, c_2, Int32.not_lt.mpr c_2]), rfl⟩ (by decide) (by decide) d_Mo_ration_20
    · skip
      refine g_iload_n C 2 rfl d_Mo_ration_9 ?_
      refine g_if_lt C d_Mo_ration_10 (fun c_3 => ?_) (fun c_3 => ?_)
      · skip
        refine g_iconst (v := 0) C rfl d_Mo_ration_19 ?_
        exact g_zret C (Or.inl rfl) rfl ⟨congrArg (fun z => some (Value.int z)) (by simp [zb, inB, rg, c_1, Int32.not_lt.mp c_1, c_2, Int32.not_le.mp c_2, c_3, Int32.not_le.mpr c_3]), (by simp [zb, inB, rg, c_1, Int32.not_lt.mp c_1, c_2, Int32.not_le.mp c_2, c_3, Int32.not_le.mpr c_3]), rfl⟩ (by decide) (by decide) d_Mo_ration_20
      · skip
        refine g_iload_n C 2 rfl d_Mo_ration_13 ?_
        refine g_bipush (v := 100) C rfl d_Mo_ration_14 ?_
        refine g_icmp_le C d_Mo_ration_16 (fun c_4 => ?_) (fun c_4 => ?_)
        · skip
          refine g_aload_n C 0 rfl d_Mo_ration_21 ?_
          refine g_get C 0 rfl rfl in_Mo 27 (by decide) kw_1047 rfl d_Mo_ration_22 ?_
          refine g_iload_n C 1 rfl d_Mo_ration_25 ?_
          refine g_iload_n C 2 rfl d_Mo_ration_26 ?_
          refine g_iast (X1 := [(h, .inr (13, [.ref r0, .ref r1, .ref r2, .int mn, .int dt, .ref r5, .ref r6, .int tp, .int sz, .int fk, .int fp, .int at1, .int en, .int tk, .int nu, .long nm, .ref r16, .ref r17, .ref r18, .ref r19, .ref r20, .ref r21, .ref r22, .ref r23, .int fl, .ref r25, .int wa, .ref r27, .ref r28, .ref r29, .ref r30, .ref r31, .int co, .ref r33, .ref r34, .ref r35, .ref r36, .ref r37, .ref r38, .ref r39, .ref r40, .int db])), (r27, .inl (g.2.1 0, 4, .inl (upd skf (Int32.toNatClampNeg p0) p1)))]) C 1 rfl (ix_vp (n := 4) c_1 c_2 (by omega) (by decide)) rfl d_Mo_ration_27 ?_
          refine g_iconst (v := 1) C rfl d_Mo_ration_28 ?_
          exact g_zret C (Or.inr rfl) rfl ⟨congrArg (fun z => some (Value.int z)) (by simp [zb, inB, rg, c_1, Int32.not_lt.mp c_1, c_2, Int32.not_le.mp c_2, c_3, Int32.not_lt.mp c_3, c_4, Int32.not_lt.mpr c_4]), (by simp [zb, inB, rg, c_1, Int32.not_lt.mp c_1, c_2, Int32.not_le.mp c_2, c_3, Int32.not_lt.mp c_3, c_4, Int32.not_lt.mpr c_4]), rfl⟩ (by decide) (by decide) d_Mo_ration_29
        · skip
          refine g_iconst (v := 0) C rfl d_Mo_ration_19 ?_
          exact g_zret C (Or.inl rfl) rfl ⟨congrArg (fun z => some (Value.int z)) (by simp [zb, inB, rg, c_1, Int32.not_lt.mp c_1, c_2, Int32.not_le.mp c_2, c_3, Int32.not_lt.mp c_3, c_4, Int32.not_le.mp c_4]), (by simp [zb, inB, rg, c_1, Int32.not_lt.mp c_1, c_2, Int32.not_le.mp c_2, c_3, Int32.not_lt.mp c_3, c_4, Int32.not_le.mp c_4]), rfl⟩ (by decide) (by decide) d_Mo_ration_20

