def comeM (mn d x : Int32) (n : Nat) (p : Int32) : Bool := decide (inB p mn = true ∧ inB d 3600 = true ∧ ¬ x < 1 ∧ ¬ 1000 < x ∧ ¬ n = 60)
set_option maxHeartbeats 4000000 in
set_option maxRecDepth 100000 in
theorem c_Mo_come (l : Launch) (g : Gx) (h r0 r1 r2 r5 r6 r16 r17 r18 r19 r20 r21 r22 r23 r25 r27 r28 r29 r30 r31 r33 r34 r35 r36 r37 r38 r39 r40 n : Nat) (mn dt tp sz fk fp at1 en tk nu fl wa db : Int32) (nm : Int64) (cmf cdf csf : Nat → Int32) (p0 p1 p2 : Int32) (hn : n ≤ 60) : M0 l g y_Mo_come b_Mo_come 4 (some FieldType.int) ({ frames := 1, cells := 0, slots := 0, locals := 21 }) [.ref h, .int p0, .int p1, .int p2] [(h, .inr (13, [.ref r0, .ref r1, .ref r2, .int mn, .int dt, .ref r5, .ref r6, .int tp, .int sz, .int fk, .int fp, .int at1, .int en, .int tk, .int nu, .long nm, .ref r16, .ref r17, .ref r18, .ref r19, .ref r20, .ref r21, .ref r22, .ref r23, .int fl, .ref r25, .int wa, .ref r27, .ref r28, .ref r29, .ref r30, .ref r31, .int (nI n), .ref r33, .ref r34, .ref r35, .ref r36, .ref r37, .ref r38, .ref r39, .ref r40, .int db])), (r28, .inl (g.2.1 0, 60, .inl cmf)), (r29, .inl (g.2.1 0, 60, .inl cdf)), (r30, .inl (g.2.1 0, 60, .inl csf))] (some (.int (if comeM mn p1 p2 n p0 then nI (n + 1) else (-1)))) [(h, .inr (13, [.ref r0, .ref r1, .ref r2, .int mn, .int dt, .ref r5, .ref r6, .int tp, .int sz, .int fk, .int fp, .int at1, .int en, .int tk, .int nu, .long nm, .ref r16, .ref r17, .ref r18, .ref r19, .ref r20, .ref r21, .ref r22, .ref r23, .int fl, .ref r25, .int wa, .ref r27, .ref r28, .ref r29, .ref r30, .ref r31, .int (nI (if comeM mn p1 p2 n p0 then n + 1 else n)), .ref r33, .ref r34, .ref r35, .ref r36, .ref r37, .ref r38, .ref r39, .ref r40, .int db])), (r28, .inl (g.2.1 0, 60, .inl (if comeM mn p1 p2 n p0 then upd cmf n p0 else cmf))), (r29, .inl (g.2.1 0, 60, .inl (if comeM mn p1 p2 n p0 then upd cdf n p1 else cdf))), (r30, .inl (g.2.1 0, 60, .inl (if comeM mn p1 p2 n p0 then upd csf n p2 else csf)))] := by
  refine MP.of (by decide) (Nat.le_of_ble_eq_true rfl) (fun κ C => ?_)
  have C : zC κ l g ({ frames := 1, cells := 0, slots := 0, locals := 21 }) b_Mo_come 4 "TombLaneModel" "come" (some FieldType.int) _ := C
  refine g_lv (lv1 := [(0, .ref h), (1, .int p0), (2, .int p1), (3, .int p2)]) [0, 1, 2, 3] rfl ?_
  refine g_aload_n C 0 rfl d_Mo_come_0 ?_
  refine g_iload_n C 1 rfl d_Mo_come_1 ?_
  refine g_callV0 (rest := []) (Xn := [(h, .inr (13, [.ref r0, .ref r1, .ref r2, .int mn, .int dt, .ref r5, .ref r6, .int tp, .int sz, .int fk, .int fp, .int at1, .int en, .int tk, .int nu, .long nm, .ref r16, .ref r17, .ref r18, .ref r19, .ref r20, .ref r21, .ref r22, .ref r23, .int fl, .ref r25, .int wa, .ref r27, .ref r28, .ref r29, .ref r30, .ref r31, .int (nI n), .ref r33, .ref r34, .ref r35, .ref r36, .ref r37, .ref r38, .ref r39, .ref r40, .int db])), (r28, .inl (g.2.1 0, 60, .inl cmf)), (r29, .inl (g.2.1 0, 60, .inl cdf)), (r30, .inl (g.2.1 0, 60, .inl csf))]) C (c_Mo_isMan l g h r0 r1 r2 r5 r6 r16 r17 r18 r19 r20 r21 r22 r23 r25 r27 r28 r29 r30 r31 r33 r34 r35 r36 r37 r38 r39 r40 mn dt tp sz fk fp at1 en tk nu fl wa (nI n) db nm p0) [0] [1, 2, 3] [3, 0, 1, 2] rfl (by decide) (by decide) rfl mo_Mo_isMan mv_Mo_isMan kw_902 (by decide) (rcX 0 rfl rfl) rfl (Nat.le_of_ble_eq_true rfl) ⟨Nat.le_of_ble_eq_true rfl, Nat.le_of_ble_eq_true rfl⟩ d_Mo_come_2 ?_
  refine g_if_eq C d_Mo_come_5 (fun c_1 => ?_) (fun c_1 => ?_)
  · have c_1 := zb_0.mp c_1
    refine g_iconst (v := (-1)) C rfl d_Mo_come_36 ?_
    exact g_iret C rfl ⟨congrArg (fun z => some (Value.int z)) (by simp [comeM, c_1]), (by simp [comeM, c_1]), rfl⟩ (by decide) (by decide) d_Mo_come_37
  · have c_1 := zb_n0.mp c_1
    refine g_iload_n C 2 rfl d_Mo_come_8 ?_
    refine g_callS0 (rest := []) (Xn := [(h, .inr (13, [.ref r0, .ref r1, .ref r2, .int mn, .int dt, .ref r5, .ref r6, .int tp, .int sz, .int fk, .int fp, .int at1, .int en, .int tk, .int nu, .long nm, .ref r16, .ref r17, .ref r18, .ref r19, .ref r20, .ref r21, .ref r22, .ref r23, .int fl, .ref r25, .int wa, .ref r27, .ref r28, .ref r29, .ref r30, .ref r31, .int (nI n), .ref r33, .ref r34, .ref r35, .ref r36, .ref r37, .ref r38, .ref r39, .ref r40, .int db])), (r28, .inl (g.2.1 0, 60, .inl cmf)), (r29, .inl (g.2.1 0, 60, .inl cdf)), (r30, .inl (g.2.1 0, 60, .inl csf))]) C (c_Mo_isDay l g p1) [] [0, 1, 2, 3] [0, 1, 2, 3] rfl (by decide) (by decide) rfl mo_Mo_isDay ms_Mo_isDay kw_974 (by decide) rfl (Nat.le_of_ble_eq_true rfl) ⟨Nat.le_of_ble_eq_true rfl, Nat.le_of_ble_eq_true rfl⟩ d_Mo_come_9 ?_
    refine g_if_eq C d_Mo_come_12 (fun c_2 => ?_) (fun c_2 => ?_)
    · have c_2 := zb_0.mp c_2
      refine g_iconst (v := (-1)) C rfl d_Mo_come_36 ?_
      exact g_iret C rfl ⟨congrArg (fun z => some (Value.int z)) (by simp [comeM, c_1, c_2]), (by simp [comeM, c_1, c_2]), rfl⟩ (by decide) (by decide) d_Mo_come_37
    · have c_2 := zb_n0.mp c_2
      refine g_iload_n C 3 rfl d_Mo_come_15 ?_
      refine g_iconst (v := 1) C rfl d_Mo_come_16 ?_
      refine g_icmp_lt C d_Mo_come_17 (fun c_3 => ?_) (fun c_3 => ?_)
      · skip
        refine g_iconst (v := (-1)) C rfl d_Mo_come_36 ?_
        exact g_iret C rfl ⟨congrArg (fun z => some (Value.int z)) (by simp [comeM, c_1, c_2, c_3, Int32.not_le.mpr c_3]), (by simp [comeM, c_1, c_2, c_3, Int32.not_le.mpr c_3]), rfl⟩ (by decide) (by decide) d_Mo_come_37
      · skip
        refine g_iload_n C 3 rfl d_Mo_come_20 ?_
        refine g_sipush (v := 1000) C rfl d_Mo_come_21 ?_
        refine g_icmp_gt C d_Mo_come_24 (fun c_4 => ?_) (fun c_4 => ?_)
        · skip
          refine g_iconst (v := (-1)) C rfl d_Mo_come_36 ?_
          exact g_iret C rfl ⟨congrArg (fun z => some (Value.int z)) (by simp [comeM, c_1, c_2, c_3, Int32.not_lt.mp c_3, c_4, Int32.not_le.mpr c_4]), (by simp [comeM, c_1, c_2, c_3, Int32.not_lt.mp c_3, c_4, Int32.not_le.mpr c_4]), rfl⟩ (by decide) (by decide) d_Mo_come_37
        · skip
          refine g_aload_n C 0 rfl d_Mo_come_27 ?_
          refine g_get C 0 rfl rfl in_Mo 32 (by decide) kw_1052 rfl d_Mo_come_28 ?_
          refine g_bipush (v := 60) C rfl d_Mo_come_31 ?_
          refine g_icmp_ne C d_Mo_come_33 (fun c_5 => ?_) (fun c_5 => ?_)
          · skip
            have n_5 : ¬ (n = 60) := fun z => c_5 ((nI_eq (a := n) (b := 60) (by omega) (by omega)).mpr z)
            refine g_aload_n C 0 rfl d_Mo_come_38 ?_
            refine g_get C 0 rfl rfl in_Mo 28 (by decide) kw_1048 rfl d_Mo_come_39 ?_
            refine g_aload_n C 0 rfl d_Mo_come_42 ?_
            refine g_get C 0 rfl rfl in_Mo 32 (by decide) kw_1052 rfl d_Mo_come_43 ?_
            refine g_iload_n C 1 rfl d_Mo_come_46 ?_
            refine g_iast (X1 := [(h, .inr (13, [.ref r0, .ref r1, .ref r2, .int mn, .int dt, .ref r5, .ref r6, .int tp, .int sz, .int fk, .int fp, .int at1, .int en, .int tk, .int nu, .long nm, .ref r16, .ref r17, .ref r18, .ref r19, .ref r20, .ref r21, .ref r22, .ref r23, .int fl, .ref r25, .int wa, .ref r27, .ref r28, .ref r29, .ref r30, .ref r31, .int (nI n), .ref r33, .ref r34, .ref r35, .ref r36, .ref r37, .ref r38, .ref r39, .ref r40, .int db])), (r28, .inl (g.2.1 0, 60, .inl (upd cmf (Int32.toNatClampNeg (nI n)) p0))), (r29, .inl (g.2.1 0, 60, .inl cdf)), (r30, .inl (g.2.1 0, 60, .inl csf))]) C 1 rfl (vp_in_nI (by omega) (by decide)) rfl d_Mo_come_47 ?_
            refine g_eq (X1 := [(h, .inr (13, [.ref r0, .ref r1, .ref r2, .int mn, .int dt, .ref r5, .ref r6, .int tp, .int sz, .int fk, .int fp, .int at1, .int en, .int tk, .int nu, .long nm, .ref r16, .ref r17, .ref r18, .ref r19, .ref r20, .ref r21, .ref r22, .ref r23, .int fl, .ref r25, .int wa, .ref r27, .ref r28, .ref r29, .ref r30, .ref r31, .int (nI n), .ref r33, .ref r34, .ref r35, .ref r36, .ref r37, .ref r38, .ref r39, .ref r40, .int db])), (r28, .inl (g.2.1 0, 60, .inl (upd cmf n p0))), (r29, .inl (g.2.1 0, 60, .inl cdf)), (r30, .inl (g.2.1 0, 60, .inl csf))]) rfl (by rw [nI_clamp (by omega)]) ?_
            refine g_aload_n C 0 rfl d_Mo_come_48 ?_
            refine g_get C 0 rfl rfl in_Mo 29 (by decide) kw_1049 rfl d_Mo_come_49 ?_
            refine g_aload_n C 0 rfl d_Mo_come_52 ?_
            refine g_get C 0 rfl rfl in_Mo 32 (by decide) kw_1052 rfl d_Mo_come_53 ?_
            refine g_iload_n C 2 rfl d_Mo_come_56 ?_
            refine g_iast (X1 := [(h, .inr (13, [.ref r0, .ref r1, .ref r2, .int mn, .int dt, .ref r5, .ref r6, .int tp, .int sz, .int fk, .int fp, .int at1, .int en, .int tk, .int nu, .long nm, .ref r16, .ref r17, .ref r18, .ref r19, .ref r20, .ref r21, .ref r22, .ref r23, .int fl, .ref r25, .int wa, .ref r27, .ref r28, .ref r29, .ref r30, .ref r31, .int (nI n), .ref r33, .ref r34, .ref r35, .ref r36, .ref r37, .ref r38, .ref r39, .ref r40, .int db])), (r28, .inl (g.2.1 0, 60, .inl (upd cmf n p0))), (r29, .inl (g.2.1 0, 60, .inl (upd cdf (Int32.toNatClampNeg (nI n)) p1))), (r30, .inl (g.2.1 0, 60, .inl csf))]) C 2 rfl (vp_in_nI (by omega) (by decide)) rfl d_Mo_come_57 ?_
            refine g_eq (X1 := [(h, .inr (13, [.ref r0, .ref r1, .ref r2, .int mn, .int dt, .ref r5, .ref r6, .int tp, .int sz, .int fk, .int fp, .int at1, .int en, .int tk, .int nu, .long nm, .ref r16, .ref r17, .ref r18, .ref r19, .ref r20, .ref r21, .ref r22, .ref r23, .int fl, .ref r25, .int wa, .ref r27, .ref r28, .ref r29, .ref r30, .ref r31, .int (nI n), .ref r33, .ref r34, .ref r35, .ref r36, .ref r37, .ref r38, .ref r39, .ref r40, .int db])), (r28, .inl (g.2.1 0, 60, .inl (upd cmf n p0))), (r29, .inl (g.2.1 0, 60, .inl (upd cdf n p1))), (r30, .inl (g.2.1 0, 60, .inl csf))]) rfl (by rw [nI_clamp (by omega)]) ?_
            refine g_aload_n C 0 rfl d_Mo_come_58 ?_
            refine g_get C 0 rfl rfl in_Mo 30 (by decide) kw_1050 rfl d_Mo_come_59 ?_
            refine g_aload_n C 0 rfl d_Mo_come_62 ?_
            refine g_get C 0 rfl rfl in_Mo 32 (by decide) kw_1052 rfl d_Mo_come_63 ?_
            refine g_iload_n C 3 rfl d_Mo_come_66 ?_
            refine g_iast (X1 := [(h, .inr (13, [.ref r0, .ref r1, .ref r2, .int mn, .int dt, .ref r5, .ref r6, .int tp, .int sz, .int fk, .int fp, .int at1, .int en, .int tk, .int nu, .long nm, .ref r16, .ref r17, .ref r18, .ref r19, .ref r20, .ref r21, .ref r22, .ref r23, .int fl, .ref r25, .int wa, .ref r27, .ref r28, .ref r29, .ref r30, .ref r31, .int (nI n), .ref r33, .ref r34, .ref r35, .ref r36, .ref r37, .ref r38, .ref r39, .ref r40, .int db])), (r28, .inl (g.2.1 0, 60, .inl (upd cmf n p0))), (r29, .inl (g.2.1 0, 60, .inl (upd cdf n p1))), (r30, .inl (g.2.1 0, 60, .inl (upd csf (Int32.toNatClampNeg (nI n)) p2)))]) C 3 rfl (vp_in_nI (by omega) (by decide)) rfl d_Mo_come_67 ?_
            refine g_eq (X1 := [(h, .inr (13, [.ref r0, .ref r1, .ref r2, .int mn, .int dt, .ref r5, .ref r6, .int tp, .int sz, .int fk, .int fp, .int at1, .int en, .int tk, .int nu, .long nm, .ref r16, .ref r17, .ref r18, .ref r19, .ref r20, .ref r21, .ref r22, .ref r23, .int fl, .ref r25, .int wa, .ref r27, .ref r28, .ref r29, .ref r30, .ref r31, .int (nI n), .ref r33, .ref r34, .ref r35, .ref r36, .ref r37, .ref r38, .ref r39, .ref r40, .int db])), (r28, .inl (g.2.1 0, 60, .inl (upd cmf n p0))), (r29, .inl (g.2.1 0, 60, .inl (upd cdf n p1))), (r30, .inl (g.2.1 0, 60, .inl (upd csf n p2)))]) rfl (by rw [nI_clamp (by omega)]) ?_
            refine g_aload_n C 0 rfl d_Mo_come_68 ?_
            refine g_dup C rfl d_Mo_come_69 ?_
            refine g_get C 0 rfl rfl in_Mo 32 (by decide) kw_1052 rfl d_Mo_come_70 ?_
            refine g_iconst (v := 1) C rfl d_Mo_come_73 ?_
            refine g_iadd C d_Mo_come_74 ?_
            refine g_eq (st1 := [.int (nI (n + 1)), .ref h]) (congrArg (fun z => Value.int z :: [.ref h]) (nI_add n 1)) rfl ?_
            refine g_put (X1 := [(h, .inr (13, [.ref r0, .ref r1, .ref r2, .int mn, .int dt, .ref r5, .ref r6, .int tp, .int sz, .int fk, .int fp, .int at1, .int en, .int tk, .int nu, .long nm, .ref r16, .ref r17, .ref r18, .ref r19, .ref r20, .ref r21, .ref r22, .ref r23, .int fl, .ref r25, .int wa, .ref r27, .ref r28, .ref r29, .ref r30, .ref r31, .int (nI (n + 1)), .ref r33, .ref r34, .ref r35, .ref r36, .ref r37, .ref r38, .ref r39, .ref r40, .int db])), (r28, .inl (g.2.1 0, 60, .inl (upd cmf n p0))), (r29, .inl (g.2.1 0, 60, .inl (upd cdf n p1))), (r30, .inl (g.2.1 0, 60, .inl (upd csf n p2)))]) C 0 rfl rfl in_Mo 32 (by decide) ok_Mo nm_Mo kw_1052 rfl rfl rfl (Nat.le_of_ble_eq_true rfl) rfl d_Mo_come_75 ?_
            refine g_aload_n C 0 rfl d_Mo_come_78 ?_
            refine g_get C 0 rfl rfl in_Mo 32 (by decide) kw_1052 rfl d_Mo_come_79 ?_
            exact g_iret C rfl ⟨congrArg (fun z => some (Value.int z)) (by simp [comeM, c_1, c_2, c_3, Int32.not_lt.mp c_3, c_4, Int32.not_lt.mp c_4, c_5, n_5]), (by simp [comeM, c_1, c_2, c_3, Int32.not_lt.mp c_3, c_4, Int32.not_lt.mp c_4, c_5, n_5]), rfl⟩ (by decide) (by decide) d_Mo_come_82
          · skip
            have n_5 : n = 60 := (nI_eq (a := n) (b := 60) (by omega) (by omega)).mp c_5
            refine g_iconst (v := (-1)) C rfl d_Mo_come_36 ?_
            exact g_iret C rfl ⟨congrArg (fun z => some (Value.int z)) (by simp [comeM, c_1, c_2, c_3, Int32.not_lt.mp c_3, c_4, Int32.not_lt.mp c_4, eq_true c_5, eq_true n_5]), (by simp [comeM, c_1, c_2, c_3, Int32.not_lt.mp c_3, c_4, Int32.not_lt.mp c_4, eq_true c_5, eq_true n_5]), rfl⟩ (by decide) (by decide) d_Mo_come_37

def oweM (tf df kf : Nat → Int32) (m d : Int32) : Nat → Nat → Int32 → Int32
  | 0, _, a => a
  | k + 1, i, a => oweM tf df kf m d k (i + 1) (a - (if tf i = m ∧ ¬ d < df i then kf i else 0))
set_option maxHeartbeats 4000000 in
set_option maxRecDepth 100000 in
theorem lp_Mo_arrears (l : Launch) (g : Gx) {κ : Kx} {E : Ex} {P : va_W} (h r0 r1 r2 r5 r6 r16 r17 r18 r19 r20 r21 r22 r23 r25 r27 r28 r29 r30 r31 r33 r34 r35 r36 r37 r38 r39 r40 n c : Nat) (dt tp sz fk fp at1 en tk nu fl wa db : Int32) (nm : Int64) (rf skf cmf cdf csf : Nat → Int32) (p0 p1 : Int32) (hc : c ≤ 60) (C : zC κ l g ({ frames := 1, cells := 0, slots := 0, locals := 21 }) b_Mo_arrears 5 "TombLaneModel" "arrears" (some FieldType.int) E) : ∀ (k : Nat) (i : Nat) (a : Int32), (i + k = c) → (E (some (.int (oweM cmf cdf csf p0 p1 k i a))) [(h, .inr (13, [.ref r0, .ref r1, .ref r2, .int (nI n), .int dt, .ref r5, .ref r6, .int tp, .int sz, .int fk, .int fp, .int at1, .int en, .int tk, .int nu, .long nm, .ref r16, .ref r17, .ref r18, .ref r19, .ref r20, .ref r21, .ref r22, .ref r23, .int fl, .ref r25, .int wa, .ref r27, .ref r28, .ref r29, .ref r30, .ref r31, .int (nI c), .ref r33, .ref r34, .ref r35, .ref r36, .ref r37, .ref r38, .ref r39, .ref r40, .int db])), (r2, .inl (g.2.1 0, 12, .inl rf)), (r27, .inl (g.2.1 0, 4, .inl skf)), (r28, .inl (g.2.1 0, 60, .inl cmf)), (r29, .inl (g.2.1 0, 60, .inl cdf)), (r30, .inl (g.2.1 0, 60, .inl csf))] P) → G κ 5 0 0 40 [(0, .ref h), (1, .int p0), (2, .int p1), (3, .int a), (4, .int (nI i))] [] [(h, .inr (13, [.ref r0, .ref r1, .ref r2, .int (nI n), .int dt, .ref r5, .ref r6, .int tp, .int sz, .int fk, .int fp, .int at1, .int en, .int tk, .int nu, .long nm, .ref r16, .ref r17, .ref r18, .ref r19, .ref r20, .ref r21, .ref r22, .ref r23, .int fl, .ref r25, .int wa, .ref r27, .ref r28, .ref r29, .ref r30, .ref r31, .int (nI c), .ref r33, .ref r34, .ref r35, .ref r36, .ref r37, .ref r38, .ref r39, .ref r40, .int db])), (r2, .inl (g.2.1 0, 12, .inl rf)), (r27, .inl (g.2.1 0, 4, .inl skf)), (r28, .inl (g.2.1 0, 60, .inl cmf)), (r29, .inl (g.2.1 0, 60, .inl cdf)), (r30, .inl (g.2.1 0, 60, .inl csf))] P := by
  intro k
  induction k with
  | zero =>
    intro i a hi hE
    refine g_iload C 4 rfl d_Mo_arrears_40 ?_
    refine g_aload_n C 0 rfl d_Mo_arrears_42 ?_
    refine g_get C 0 rfl rfl in_Mo 32 (by decide) kw_1052 rfl d_Mo_arrears_43 ?_
    refine g_icmp_ge C d_Mo_arrears_46 (fun _ => ?_) (fun c_1 => absurd (nI_le (by omega) (by omega)) c_1)
    refine g_iload_n C 3 rfl d_Mo_arrears_91 ?_
    exact g_iret C rfl hE (by decide) (by decide) d_Mo_arrears_92
  | succ k ih =>
    intro i a hi hE
    refine g_iload C 4 rfl d_Mo_arrears_40 ?_
    refine g_aload_n C 0 rfl d_Mo_arrears_42 ?_
    refine g_get C 0 rfl rfl in_Mo 32 (by decide) kw_1052 rfl d_Mo_arrears_43 ?_
    refine g_icmp_ge C d_Mo_arrears_46 (fun c_1 => absurd c_1 (nI_ge (by omega) (by omega))) (fun _ => ?_)
    refine g_iload_n C 3 rfl d_Mo_arrears_49 ?_
    refine g_aload_n C 0 rfl d_Mo_arrears_50 ?_
    refine g_get C 0 rfl rfl in_Mo 28 (by decide) kw_1048 rfl d_Mo_arrears_51 ?_
    refine g_iload C 4 rfl d_Mo_arrears_54 ?_
    refine g_iald C 3 rfl (vp_in_nI (by omega) (by decide)) d_Mo_arrears_56 ?_
    refine g_eq (st1 := [.int (cmf i), .int a]) (congrArg (fun z => Value.int z :: [.int a]) (congrArg cmf (nI_clamp (by omega)))) rfl ?_
    refine g_iload_n C 1 rfl d_Mo_arrears_57 ?_
    refine g_icmp_ne C d_Mo_arrears_58 (fun c_2 => ?_) (fun c_2 => ?_)
    · skip
      refine g_iconst (v := 0) C rfl d_Mo_arrears_82 ?_
      refine g_isub C d_Mo_arrears_83 ?_
      refine g_istore_n (lv1 := [(0, .ref h), (1, .int p0), (2, .int p1), (3, .int (a - 0)), (4, .int (nI i))]) C d_Mo_arrears_84 [1, 2, 3, 0, 4] (by decide) rfl ?_
      refine g_iinc (v := nI (i + 1)) (lv1 := [(0, .ref h), (1, .int p0), (2, .int p1), (3, .int (a - 0)), (4, .int (nI (i + 1)))]) C d_Mo_arrears_85 4 rfl (nI_1 _) [1, 2, 3, 4, 0] (by decide) rfl ?_
      refine g_goto C d_Mo_arrears_88 ?_
      exact ih (i + 1) _ (by omega) (by simpa [oweM, c_2] using hE)
    · skip
      refine g_aload_n C 0 rfl d_Mo_arrears_61 ?_
      refine g_get C 0 rfl rfl in_Mo 29 (by decide) kw_1049 rfl d_Mo_arrears_62 ?_
      refine g_iload C 4 rfl d_Mo_arrears_65 ?_
      refine g_iald C 4 rfl (vp_in_nI (by omega) (by decide)) d_Mo_arrears_67 ?_
      refine g_eq (st1 := [.int (cdf i), .int a]) (congrArg (fun z => Value.int z :: [.int a]) (congrArg cdf (nI_clamp (by omega)))) rfl ?_
      refine g_iload_n C 2 rfl d_Mo_arrears_68 ?_
      refine g_icmp_gt C d_Mo_arrears_69 (fun c_3 => ?_) (fun c_3 => ?_)
      · skip
        refine g_iconst (v := 0) C rfl d_Mo_arrears_82 ?_
        refine g_isub C d_Mo_arrears_83 ?_
        refine g_istore_n (lv1 := [(0, .ref h), (1, .int p0), (2, .int p1), (3, .int (a - 0)), (4, .int (nI i))]) C d_Mo_arrears_84 [1, 2, 3, 0, 4] (by decide) rfl ?_
        refine g_iinc (v := nI (i + 1)) (lv1 := [(0, .ref h), (1, .int p0), (2, .int p1), (3, .int (a - 0)), (4, .int (nI (i + 1)))]) C d_Mo_arrears_85 4 rfl (nI_1 _) [1, 2, 3, 4, 0] (by decide) rfl ?_
        refine g_goto C d_Mo_arrears_88 ?_
        exact ih (i + 1) _ (by omega) (by simpa [oweM, eq_true c_2, c_3, Int32.not_le.mpr c_3] using hE)
      · skip
        refine g_aload_n C 0 rfl d_Mo_arrears_72 ?_
        refine g_get C 0 rfl rfl in_Mo 30 (by decide) kw_1050 rfl d_Mo_arrears_73 ?_
        refine g_iload C 4 rfl d_Mo_arrears_76 ?_
        refine g_iald C 5 rfl (vp_in_nI (by omega) (by decide)) d_Mo_arrears_78 ?_
        refine g_eq (st1 := [.int (csf i), .int a]) (congrArg (fun z => Value.int z :: [.int a]) (congrArg csf (nI_clamp (by omega)))) rfl ?_
        refine g_goto C d_Mo_arrears_79 ?_
        refine g_isub C d_Mo_arrears_83 ?_
        refine g_istore_n (lv1 := [(0, .ref h), (1, .int p0), (2, .int p1), (3, .int (a - (csf i))), (4, .int (nI i))]) C d_Mo_arrears_84 [1, 2, 3, 0, 4] (by decide) rfl ?_
        refine g_iinc (v := nI (i + 1)) (lv1 := [(0, .ref h), (1, .int p0), (2, .int p1), (3, .int (a - (csf i))), (4, .int (nI (i + 1)))]) C d_Mo_arrears_85 4 rfl (nI_1 _) [1, 2, 3, 4, 0] (by decide) rfl ?_
        refine g_goto C d_Mo_arrears_88 ?_
        exact ih (i + 1) _ (by omega) (by simpa [oweM, eq_true c_2, c_3, Int32.not_lt.mp c_3] using hE)

def arrV1 (n c : Nat) (rf skf cmf cdf csf : Nat → Int32) (m d : Int32) : Int32 := if inB m (nI n) = true ∧ inB d 3600 = true then oweM cmf cdf csf m d c 0 ((d + 1) / 30 * skf (rf m.toNatClampNeg).toNatClampNeg) else (-1000000)
theorem inB_ix {x : Int32} {n N : Nat} {f : Nat → Int32} (h : ∀ i, i < n → vp_in (f i) N) (hn : n ≤ 12) (hx : inB x (nI n) = true) : vp_in (f x.toNatClampNeg) N := by
  obtain ⟨j, h1, rfl⟩ := (inB_iff (by omega)).mp hx
  rw [nI_clamp (by omega)]
  exact h j h1
set_option maxHeartbeats 4000000 in
set_option maxRecDepth 100000 in
theorem c_Mo_arrears (l : Launch) (g : Gx) (h r0 r1 r2 r5 r6 r16 r17 r18 r19 r20 r21 r22 r23 r25 r27 r28 r29 r30 r31 r33 r34 r35 r36 r37 r38 r39 r40 n c : Nat) (dt tp sz fk fp at1 en tk nu fl wa db : Int32) (nm : Int64) (rf skf cmf cdf csf : Nat → Int32) (p0 p1 : Int32) (hn : n ≤ 12) (hc : c ≤ 60) (hr : ∀ i, i < n → vp_in (rf i) 4) : M0 l g y_Mo_arrears b_Mo_arrears 5 (some FieldType.int) ({ frames := 1, cells := 0, slots := 0, locals := 21 }) [.ref h, .int p0, .int p1] [(h, .inr (13, [.ref r0, .ref r1, .ref r2, .int (nI n), .int dt, .ref r5, .ref r6, .int tp, .int sz, .int fk, .int fp, .int at1, .int en, .int tk, .int nu, .long nm, .ref r16, .ref r17, .ref r18, .ref r19, .ref r20, .ref r21, .ref r22, .ref r23, .int fl, .ref r25, .int wa, .ref r27, .ref r28, .ref r29, .ref r30, .ref r31, .int (nI c), .ref r33, .ref r34, .ref r35, .ref r36, .ref r37, .ref r38, .ref r39, .ref r40, .int db])), (r2, .inl (g.2.1 0, 12, .inl rf)), (r27, .inl (g.2.1 0, 4, .inl skf)), (r28, .inl (g.2.1 0, 60, .inl cmf)), (r29, .inl (g.2.1 0, 60, .inl cdf)), (r30, .inl (g.2.1 0, 60, .inl csf))] (some (.int (arrV1 n c rf skf cmf cdf csf p0 p1))) [(h, .inr (13, [.ref r0, .ref r1, .ref r2, .int (nI n), .int dt, .ref r5, .ref r6, .int tp, .int sz, .int fk, .int fp, .int at1, .int en, .int tk, .int nu, .long nm, .ref r16, .ref r17, .ref r18, .ref r19, .ref r20, .ref r21, .ref r22, .ref r23, .int fl, .ref r25, .int wa, .ref r27, .ref r28, .ref r29, .ref r30, .ref r31, .int (nI c), .ref r33, .ref r34, .ref r35, .ref r36, .ref r37, .ref r38, .ref r39, .ref r40, .int db])), (r2, .inl (g.2.1 0, 12, .inl rf)), (r27, .inl (g.2.1 0, 4, .inl skf)), (r28, .inl (g.2.1 0, 60, .inl cmf)), (r29, .inl (g.2.1 0, 60, .inl cdf)), (r30, .inl (g.2.1 0, 60, .inl csf))] := by
  refine MP.of (by decide) (Nat.le_of_ble_eq_true rfl) (fun κ C => ?_)
  have C : zC κ l g ({ frames := 1, cells := 0, slots := 0, locals := 21 }) b_Mo_arrears 5 "TombLaneModel" "arrears" (some FieldType.int) _ := C
  refine g_lv (lv1 := [(0, .ref h), (1, .int p0), (2, .int p1)]) [0, 1, 2] rfl ?_
  refine g_aload_n C 0 rfl d_Mo_arrears_0 ?_
  refine g_iload_n C 1 rfl d_Mo_arrears_1 ?_
  refine g_callV0 (rest := []) (Xn := [(h, .inr (13, [.ref r0, .ref r1, .ref r2, .int (nI n), .int dt, .ref r5, .ref r6, .int tp, .int sz, .int fk, .int fp, .int at1, .int en, .int tk, .int nu, .long nm, .ref r16, .ref r17, .ref r18, .ref r19, .ref r20, .ref r21, .ref r22, .ref r23, .int fl, .ref r25, .int wa, .ref r27, .ref r28, .ref r29, .ref r30, .ref r31, .int (nI c), .ref r33, .ref r34, .ref r35, .ref r36, .ref r37, .ref r38, .ref r39, .ref r40, .int db])), (r2, .inl (g.2.1 0, 12, .inl rf)), (r27, .inl (g.2.1 0, 4, .inl skf)), (r28, .inl (g.2.1 0, 60, .inl cmf)), (r29, .inl (g.2.1 0, 60, .inl cdf)), (r30, .inl (g.2.1 0, 60, .inl csf))]) C (c_Mo_isMan l g h r0 r1 r2 r5 r6 r16 r17 r18 r19 r20 r21 r22 r23 r25 r27 r28 r29 r30 r31 r33 r34 r35 r36 r37 r38 r39 r40 (nI n) dt tp sz fk fp at1 en tk nu fl wa (nI c) db nm p0) [0] [1, 2, 3, 4, 5] [5, 0, 1, 2, 3, 4] rfl (by decide) (by decide) rfl mo_Mo_isMan mv_Mo_isMan kw_902 (by decide) (rcX 0 rfl rfl) rfl (Nat.le_of_ble_eq_true rfl) ⟨Nat.le_of_ble_eq_true rfl, Nat.le_of_ble_eq_true rfl⟩ d_Mo_arrears_2 ?_
  refine g_if_eq C d_Mo_arrears_5 (fun c_1 => ?_) (fun c_1 => ?_)
  · have c_1 := zb_0.mp c_1
    refine g_ldc C kw_1161 d_Mo_arrears_15 ?_
    exact g_iret C rfl ⟨congrArg (fun z => some (Value.int z)) (by simp [arrV1, c_1]), rfl, rfl⟩ (by decide) (by decide) d_Mo_arrears_17
  · have c_1 := zb_n0.mp c_1
    refine g_iload_n C 2 rfl d_Mo_arrears_8 ?_
    refine g_callS0 (rest := []) (Xn := [(h, .inr (13, [.ref r0, .ref r1, .ref r2, .int (nI n), .int dt, .ref r5, .ref r6, .int tp, .int sz, .int fk, .int fp, .int at1, .int en, .int tk, .int nu, .long nm, .ref r16, .ref r17, .ref r18, .ref r19, .ref r20, .ref r21, .ref r22, .ref r23, .int fl, .ref r25, .int wa, .ref r27, .ref r28, .ref r29, .ref r30, .ref r31, .int (nI c), .ref r33, .ref r34, .ref r35, .ref r36, .ref r37, .ref r38, .ref r39, .ref r40, .int db])), (r2, .inl (g.2.1 0, 12, .inl rf)), (r27, .inl (g.2.1 0, 4, .inl skf)), (r28, .inl (g.2.1 0, 60, .inl cmf)), (r29, .inl (g.2.1 0, 60, .inl cdf)), (r30, .inl (g.2.1 0, 60, .inl csf))]) C (c_Mo_isDay l g p1) [] [0, 1, 2, 3, 4, 5] [0, 1, 2, 3, 4, 5] rfl (by decide) (by decide) rfl mo_Mo_isDay ms_Mo_isDay kw_974 (by decide) rfl (Nat.le_of_ble_eq_true rfl) ⟨Nat.le_of_ble_eq_true rfl, Nat.le_of_ble_eq_true rfl⟩ d_Mo_arrears_9 ?_
    refine g_if_ne C d_Mo_arrears_12 (fun c_2 => ?_) (fun c_2 => ?_)
    · have c_2 := zb_n0.mp c_2
      refine g_iload_n C 2 rfl d_Mo_arrears_18 ?_
      refine g_iconst (v := 1) C rfl d_Mo_arrears_19 ?_
      refine g_iadd C d_Mo_arrears_20 ?_
      refine g_bipush (v := 30) C rfl d_Mo_arrears_21 ?_
      refine g_idiv C (by decide) d_Mo_arrears_23 ?_
      refine g_aload_n C 0 rfl d_Mo_arrears_24 ?_
      refine g_get C 0 rfl rfl in_Mo 27 (by decide) kw_1047 rfl d_Mo_arrears_25 ?_
      refine g_aload_n C 0 rfl d_Mo_arrears_28 ?_
      refine g_get C 0 rfl rfl in_Mo 2 (by decide) kw_1022 rfl d_Mo_arrears_29 ?_
      refine g_iload_n C 1 rfl d_Mo_arrears_32 ?_
      refine g_iald C 1 rfl (inB_vp 12 c_1 hn (by decide)) d_Mo_arrears_33 ?_
      refine g_iald C 2 rfl (inB_ix hr hn c_1) d_Mo_arrears_34 ?_
      refine g_imul C d_Mo_arrears_35 ?_
      refine g_istore_n (lv1 := [(0, .ref h), (1, .int p0), (2, .int p1), (3, .int (((p1 + 1) / 30) * (skf (Int32.toNatClampNeg (rf (Int32.toNatClampNeg p0))))))]) C d_Mo_arrears_36 [1, 2, 3, 0] (by decide) rfl ?_
      refine g_iconst (v := 0) C rfl d_Mo_arrears_37 ?_
      refine g_istore (lv1 := [(0, .ref h), (1, .int p0), (2, .int p1), (3, .int (((p1 + 1) / 30) * (skf (Int32.toNatClampNeg (rf (Int32.toNatClampNeg p0)))))), (4, .int 0)]) C d_Mo_arrears_38 [1, 2, 3, 4, 0] (by decide) rfl ?_
      exact lp_Mo_arrears l g h r0 r1 r2 r5 r6 r16 r17 r18 r19 r20 r21 r22 r23 r25 r27 r28 r29 r30 r31 r33 r34 r35 r36 r37 r38 r39 r40 n c dt tp sz fk fp at1 en tk nu fl wa db nm rf skf cmf cdf csf p0 p1 hc C c 0 _ (by omega) ⟨congrArg (fun z => some (Value.int z)) (by simp [arrV1, c_1, c_2]), rfl, rfl⟩
    · have c_2 := zb_0.mp c_2
      refine g_ldc C kw_1161 d_Mo_arrears_15 ?_
      exact g_iret C rfl ⟨congrArg (fun z => some (Value.int z)) (by simp [arrV1, c_1, c_2]), rfl, rfl⟩ (by decide) (by decide) d_Mo_arrears_17

def wthM (a b x : Int32) : Bool := decide (inB a 5 = true ∧ inB b 10 = true ∧ rg x 0 1000 = true)
theorem w50 {a b : Int32} (h1 : ¬ a < 0) (h2 : ¬ 5 ≤ a) (h3 : ¬ b < 0) (h4 : ¬ 10 ≤ b) : vp_in (10 * a + b) 50 := by
  rcases pk_ix a (n := 5) (by decide) with q | q | ⟨i, q1, rfl⟩
  · exact absurd q h1
  · exact absurd q h2
  · rcases pk_ix b (n := 10) (by decide) with q | q | ⟨j, q3, rfl⟩
    · exact absurd q h3
    · exact absurd q h4
    · have e : (10 : Int32) * nI i + nI j = nI (10 * i + j) := by rw [show (10 : Int32) = nI 10 from rfl, pk_mul, nI_add]
      rw [e]
      exact vp_in_nI (by omega) (by decide)
set_option maxHeartbeats 4000000 in
set_option maxRecDepth 100000 in
theorem c_Mo_worth (l : Launch) (g : Gx) (h r0 r1 r2 r5 r6 r16 r17 r18 r19 r20 r21 r22 r23 r25 r27 r28 r29 r30 r31 r33 r34 r35 r36 r37 r38 r39 r40 : Nat) (mn dt tp sz fk fp at1 en tk nu fl wa co db : Int32) (nm : Int64) (wof : Nat → Int32) (p0 p1 p2 : Int32) : M0 l g y_Mo_worth b_Mo_worth 4 (some FieldType.boolean) ({ frames := 0, cells := 0, slots := 0, locals := 0 }) [.ref h, .int p0, .int p1, .int p2] [(h, .inr (13, [.ref r0, .ref r1, .ref r2, .int mn, .int dt, .ref r5, .ref r6, .int tp, .int sz, .int fk, .int fp, .int at1, .int en, .int tk, .int nu, .long nm, .ref r16, .ref r17, .ref r18, .ref r19, .ref r20, .ref r21, .ref r22, .ref r23, .int fl, .ref r25, .int wa, .ref r27, .ref r28, .ref r29, .ref r30, .ref r31, .int co, .ref r33, .ref r34, .ref r35, .ref r36, .ref r37, .ref r38, .ref r39, .ref r40, .int db])), (r31, .inl (g.2.1 0, 50, .inl wof))] (some (.int (zb (wthM p0 p1 p2)))) [(h, .inr (13, [.ref r0, .ref r1, .ref r2, .int mn, .int dt, .ref r5, .ref r6, .int tp, .int sz, .int fk, .int fp, .int at1, .int en, .int tk, .int nu, .long nm, .ref r16, .ref r17, .ref r18, .ref r19, .ref r20, .ref r21, .ref r22, .ref r23, .int fl, .ref r25, .int wa, .ref r27, .ref r28, .ref r29, .ref r30, .ref r31, .int co, .ref r33, .ref r34, .ref r35, .ref r36, .ref r37, .ref r38, .ref r39, .ref r40, .int db])), (r31, .inl (g.2.1 0, 50, .inl (if wthM p0 p1 p2 then upd wof (10 * p0 + p1).toNatClampNeg p2 else wof)))] := by
  refine MP.of (by decide) (Nat.le_of_ble_eq_true rfl) (fun κ C => ?_)
  have C : zC κ l g ({ frames := 0, cells := 0, slots := 0, locals := 0 }) b_Mo_worth 4 "TombLaneModel" "worth" (some FieldType.boolean) _ := C
  refine g_lv (lv1 := [(0, .ref h), (1, .int p0), (2, .int p1), (3, .int p2)]) [0, 1, 2, 3] rfl ?_
  refine g_iload_n C 1 rfl d_Mo_worth_0 ?_
  refine g_if_lt C d_Mo_worth_1 (fun c_1 => ?_) (fun c_1 => ?_)
  · skip
    refine g_iconst (v := 0) C rfl d_Mo_worth_30 ?_
    exact g_zret C (Or.inl rfl) rfl ⟨congrArg (fun z => some (Value.int z)) (by simp [zb, wthM, inB, rg, c_1, Int32.not_le.mpr c_1]), (by simp [zb, wthM, inB, rg, c_1, Int32.not_le.mpr c_1]), rfl⟩ (by decide) (by decide) d_Mo_worth_31
  · skip
    refine g_iload_n C 1 rfl d_Mo_worth_4 ?_
    refine g_iconst (v := 5) C rfl d_Mo_worth_5 ?_
    refine g_icmp_ge C d_Mo_worth_6 (fun c_2 => ?_) (fun c_2 => ?_)
    · skip
      refine g_iconst (v := 0) C rfl d_Mo_worth_30 ?_
      exact g_zret C (Or.inl rfl) rfl ⟨congrArg (fun z => some (Value.int z)) (by simp [zb, wthM, inB, rg, c_1, Int32.not_lt.mp c_1, c_2, Int32.not_lt.mpr c_2]), (by simp [zb, wthM, inB, rg, c_1, Int32.not_lt.mp c_1, c_2, Int32.not_lt.mpr c_2]), rfl⟩ (by decide) (by decide) d_Mo_worth_31
    · skip
      refine g_iload_n C 2 rfl d_Mo_worth_9 ?_
      refine g_if_lt C d_Mo_worth_10 (fun c_3 => ?_) (fun c_3 => ?_)
      · skip
        refine g_iconst (v := 0) C rfl d_Mo_worth_30 ?_
        exact g_zret C (Or.inl rfl) rfl ⟨congrArg (fun z => some (Value.int z)) (by simp [zb, wthM, inB, rg, c_1, Int32.not_lt.mp c_1, c_2, Int32.not_le.mp c_2, c_3, Int32.not_le.mpr c_3]), (by simp [zb, wthM, inB, rg, c_1, Int32.not_lt.mp c_1, c_2, Int32.not_le.mp c_2, c_3, Int32.not_le.mpr c_3]), rfl⟩ (by decide) (by decide) d_Mo_worth_31
      · skip
        refine g_iload_n C 2 rfl d_Mo_worth_13 ?_
        refine g_bipush (v := 10) C rfl d_Mo_worth_14 ?_
        refine g_icmp_ge C d_Mo_worth_16 (fun c_4 => ?_) (fun c_4 => ?_)
        · skip
          refine g_iconst (v := 0) C rfl d_Mo_worth_30 ?_
          exact g_zret C (Or.inl rfl) rfl ⟨congrArg (fun z => some (Value.int z)) (by simp [zb, wthM, inB, rg, c_1, Int32.not_lt.mp c_1, c_2, Int32.not_le.mp c_2, c_3, Int32.not_lt.mp c_3, c_4, Int32.not_lt.mpr c_4]), (by simp [zb, wthM, inB, rg, c_1, Int32.not_lt.mp c_1, c_2, Int32.not_le.mp c_2, c_3, Int32.not_lt.mp c_3, c_4, Int32.not_lt.mpr c_4]), rfl⟩ (by decide) (by decide) d_Mo_worth_31
        · skip
          refine g_iload_n C 3 rfl d_Mo_worth_19 ?_
          refine g_if_lt C d_Mo_worth_20 (fun c_5 => ?_) (fun c_5 => ?_)
          · skip
            refine g_iconst (v := 0) C rfl d_Mo_worth_30 ?_
            exact g_zret C (Or.inl rfl) rfl ⟨congrArg (fun z => some (Value.int z)) (by simp [zb, wthM, inB, rg, c_1, Int32.not_lt.mp c_1, c_2, Int32.not_le.mp c_2, c_3, Int32.not_lt.mp c_3, c_4, Int32.not_le.mp c_4, c_5, Int32.not_le.mpr c_5]), (by simp [zb, wthM, inB, rg, c_1, Int32.not_lt.mp c_1, c_2, Int32.not_le.mp c_2, c_3, Int32.not_lt.mp c_3, c_4, Int32.not_le.mp c_4, c_5, Int32.not_le.mpr c_5]), rfl⟩ (by decide) (by decide) d_Mo_worth_31
          · skip
            refine g_iload_n C 3 rfl d_Mo_worth_23 ?_
            refine g_sipush (v := 1000) C rfl d_Mo_worth_24 ?_
            refine g_icmp_le C d_Mo_worth_27 (fun c_6 => ?_) (fun c_6 => ?_)
            · skip
              refine g_aload_n C 0 rfl d_Mo_worth_32 ?_
              refine g_get C 0 rfl rfl in_Mo 31 (by decide) kw_1051 rfl d_Mo_worth_33 ?_
              refine g_bipush (v := 10) C rfl d_Mo_worth_36 ?_
              refine g_iload_n C 1 rfl d_Mo_worth_38 ?_
              refine g_imul C d_Mo_worth_39 ?_
              refine g_iload_n C 2 rfl d_Mo_worth_40 ?_
              refine g_iadd C d_Mo_worth_41 ?_
              refine g_iload_n C 3 rfl d_Mo_worth_42 ?_
              refine g_iast (X1 := [(h, .inr (13, [.ref r0, .ref r1, .ref r2, .int mn, .int dt, .ref r5, .ref r6, .int tp, .int sz, .int fk, .int fp, .int at1, .int en, .int tk, .int nu, .long nm, .ref r16, .ref r17, .ref r18, .ref r19, .ref r20, .ref r21, .ref r22, .ref r23, .int fl, .ref r25, .int wa, .ref r27, .ref r28, .ref r29, .ref r30, .ref r31, .int co, .ref r33, .ref r34, .ref r35, .ref r36, .ref r37, .ref r38, .ref r39, .ref r40, .int db])), (r31, .inl (g.2.1 0, 50, .inl (upd wof (Int32.toNatClampNeg ((10 * p0) + p1)) p2)))]) C 1 rfl (w50 c_1 c_2 c_3 c_4) rfl d_Mo_worth_43 ?_
              refine g_iconst (v := 1) C rfl d_Mo_worth_44 ?_
              exact g_zret C (Or.inr rfl) rfl ⟨congrArg (fun z => some (Value.int z)) (by simp [zb, wthM, inB, rg, c_1, Int32.not_lt.mp c_1, c_2, Int32.not_le.mp c_2, c_3, Int32.not_lt.mp c_3, c_4, Int32.not_le.mp c_4, c_5, Int32.not_lt.mp c_5, c_6, Int32.not_lt.mpr c_6]), (by simp [zb, wthM, inB, rg, c_1, Int32.not_lt.mp c_1, c_2, Int32.not_le.mp c_2, c_3, Int32.not_lt.mp c_3, c_4, Int32.not_le.mp c_4, c_5, Int32.not_lt.mp c_5, c_6, Int32.not_lt.mpr c_6]), rfl⟩ (by decide) (by decide) d_Mo_worth_45
            · skip
              refine g_iconst (v := 0) C rfl d_Mo_worth_30 ?_
              exact g_zret C (Or.inl rfl) rfl ⟨congrArg (fun z => some (Value.int z)) (by simp [zb, wthM, inB, rg, c_1, Int32.not_lt.mp c_1, c_2, Int32.not_le.mp c_2, c_3, Int32.not_lt.mp c_3, c_4, Int32.not_le.mp c_4, c_5, Int32.not_lt.mp c_5, c_6, Int32.not_le.mp c_6]), (by simp [zb, wthM, inB, rg, c_1, Int32.not_lt.mp c_1, c_2, Int32.not_le.mp c_2, c_3, Int32.not_lt.mp c_3, c_4, Int32.not_le.mp c_4, c_5, Int32.not_lt.mp c_5, c_6, Int32.not_le.mp c_6]), rfl⟩ (by decide) (by decide) d_Mo_worth_31

def dbtM (mn by1 to1 gd mny dy : Int32) (n : Nat) : Bool := decide (inB by1 mn = true ∧ inB to1 mn = true ∧ ¬ by1 = to1 ∧ ¬ gd < 0 ∧ ¬ 5 ≤ gd ∧ ¬ mny < 1 ∧ ¬ 1000 < mny ∧ inB dy 3600 = true ∧ ¬ n = 60)
set_option maxHeartbeats 4000000 in
set_option maxRecDepth 100000 in
theorem c_Mo_debt (l : Launch) (g : Gx) (h r0 r1 r2 r5 r6 r16 r17 r18 r19 r20 r21 r22 r23 r25 r27 r28 r29 r30 r31 r33 r34 r35 r36 r37 r38 r39 r40 n : Nat) (mn dt tp sz fk fp at1 en tk nu fl wa co : Int32) (nm : Int64) (byf tof gof myf dyf pdf : Nat → Int32) (p0 p1 p2 p3 p4 : Int32) (hn : n ≤ 60) : M0 l g y_Mo_debt b_Mo_debt 6 (some FieldType.int) ({ frames := 1, cells := 0, slots := 0, locals := 21 }) [.ref h, .int p0, .int p1, .int p2, .int p3, .int p4] [(h, .inr (13, [.ref r0, .ref r1, .ref r2, .int mn, .int dt, .ref r5, .ref r6, .int tp, .int sz, .int fk, .int fp, .int at1, .int en, .int tk, .int nu, .long nm, .ref r16, .ref r17, .ref r18, .ref r19, .ref r20, .ref r21, .ref r22, .ref r23, .int fl, .ref r25, .int wa, .ref r27, .ref r28, .ref r29, .ref r30, .ref r31, .int co, .ref r33, .ref r34, .ref r35, .ref r36, .ref r37, .ref r38, .ref r39, .ref r40, .int (nI n)])), (r33, .inl (g.2.1 0, 60, .inl byf)), (r34, .inl (g.2.1 0, 60, .inl tof)), (r35, .inl (g.2.1 0, 60, .inl gof)), (r36, .inl (g.2.1 0, 60, .inl myf)), (r37, .inl (g.2.1 0, 60, .inl dyf)), (r38, .inl (g.2.1 0, 60, .inl pdf))] (some (.int (if dbtM mn p0 p1 p2 p3 p4 n then nI n else (-1)))) [(h, .inr (13, [.ref r0, .ref r1, .ref r2, .int mn, .int dt, .ref r5, .ref r6, .int tp, .int sz, .int fk, .int fp, .int at1, .int en, .int tk, .int nu, .long nm, .ref r16, .ref r17, .ref r18, .ref r19, .ref r20, .ref r21, .ref r22, .ref r23, .int fl, .ref r25, .int wa, .ref r27, .ref r28, .ref r29, .ref r30, .ref r31, .int co, .ref r33, .ref r34, .ref r35, .ref r36, .ref r37, .ref r38, .ref r39, .ref r40, .int (nI (if dbtM mn p0 p1 p2 p3 p4 n then n + 1 else n))])), (r33, .inl (g.2.1 0, 60, .inl (if dbtM mn p0 p1 p2 p3 p4 n then upd byf n p0 else byf))), (r34, .inl (g.2.1 0, 60, .inl (if dbtM mn p0 p1 p2 p3 p4 n then upd tof n p1 else tof))), (r35, .inl (g.2.1 0, 60, .inl (if dbtM mn p0 p1 p2 p3 p4 n then upd gof n p2 else gof))), (r36, .inl (g.2.1 0, 60, .inl (if dbtM mn p0 p1 p2 p3 p4 n then upd myf n p3 else myf))), (r37, .inl (g.2.1 0, 60, .inl (if dbtM mn p0 p1 p2 p3 p4 n then upd dyf n p4 else dyf))), (r38, .inl (g.2.1 0, 60, .inl (if dbtM mn p0 p1 p2 p3 p4 n then upd pdf n (-1) else pdf)))] := by
  refine MP.of (by decide) (Nat.le_of_ble_eq_true rfl) (fun κ C => ?_)
  have C : zC κ l g ({ frames := 1, cells := 0, slots := 0, locals := 21 }) b_Mo_debt 6 "TombLaneModel" "debt" (some FieldType.int) _ := C
  refine g_lv (lv1 := [(0, .ref h), (1, .int p0), (2, .int p1), (3, .int p2), (4, .int p3), (5, .int p4)]) [0, 1, 2, 3, 4, 5] rfl ?_
  refine g_aload_n C 0 rfl d_Mo_debt_0 ?_
  refine g_iload_n C 1 rfl d_Mo_debt_1 ?_
  refine g_callV0 (rest := []) (Xn := [(h, .inr (13, [.ref r0, .ref r1, .ref r2, .int mn, .int dt, .ref r5, .ref r6, .int tp, .int sz, .int fk, .int fp, .int at1, .int en, .int tk, .int nu, .long nm, .ref r16, .ref r17, .ref r18, .ref r19, .ref r20, .ref r21, .ref r22, .ref r23, .int fl, .ref r25, .int wa, .ref r27, .ref r28, .ref r29, .ref r30, .ref r31, .int co, .ref r33, .ref r34, .ref r35, .ref r36, .ref r37, .ref r38, .ref r39, .ref r40, .int (nI n)])), (r33, .inl (g.2.1 0, 60, .inl byf)), (r34, .inl (g.2.1 0, 60, .inl tof)), (r35, .inl (g.2.1 0, 60, .inl gof)), (r36, .inl (g.2.1 0, 60, .inl myf)), (r37, .inl (g.2.1 0, 60, .inl dyf)), (r38, .inl (g.2.1 0, 60, .inl pdf))]) C (c_Mo_isMan l g h r0 r1 r2 r5 r6 r16 r17 r18 r19 r20 r21 r22 r23 r25 r27 r28 r29 r30 r31 r33 r34 r35 r36 r37 r38 r39 r40 mn dt tp sz fk fp at1 en tk nu fl wa co (nI n) nm p0) [0] [1, 2, 3, 4, 5, 6] [6, 0, 1, 2, 3, 4, 5] rfl (by decide) (by decide) rfl mo_Mo_isMan mv_Mo_isMan kw_902 (by decide) (rcX 0 rfl rfl) rfl (Nat.le_of_ble_eq_true rfl) ⟨Nat.le_of_ble_eq_true rfl, Nat.le_of_ble_eq_true rfl⟩ d_Mo_debt_2 ?_
  refine g_if_eq C d_Mo_debt_5 (fun c_1 => ?_) (fun c_1 => ?_)
  · have c_1 := zb_0.mp c_1
    refine g_iconst (v := (-1)) C rfl d_Mo_debt_61 ?_
    exact g_iret C rfl ⟨congrArg (fun z => some (Value.int z)) (by simp [dbtM, c_1]), (by simp [dbtM, c_1]), rfl⟩ (by decide) (by decide) d_Mo_debt_62
  · have c_1 := zb_n0.mp c_1
    refine g_aload_n C 0 rfl d_Mo_debt_8 ?_
    refine g_iload_n C 2 rfl d_Mo_debt_9 ?_
    refine g_callV0 (rest := []) (Xn := [(h, .inr (13, [.ref r0, .ref r1, .ref r2, .int mn, .int dt, .ref r5, .ref r6, .int tp, .int sz, .int fk, .int fp, .int at1, .int en, .int tk, .int nu, .long nm, .ref r16, .ref r17, .ref r18, .ref r19, .ref r20, .ref r21, .ref r22, .ref r23, .int fl, .ref r25, .int wa, .ref r27, .ref r28, .ref r29, .ref r30, .ref r31, .int co, .ref r33, .ref r34, .ref r35, .ref r36, .ref r37, .ref r38, .ref r39, .ref r40, .int (nI n)])), (r33, .inl (g.2.1 0, 60, .inl byf)), (r34, .inl (g.2.1 0, 60, .inl tof)), (r35, .inl (g.2.1 0, 60, .inl gof)), (r36, .inl (g.2.1 0, 60, .inl myf)), (r37, .inl (g.2.1 0, 60, .inl dyf)), (r38, .inl (g.2.1 0, 60, .inl pdf))]) C (c_Mo_isMan l g h r0 r1 r2 r5 r6 r16 r17 r18 r19 r20 r21 r22 r23 r25 r27 r28 r29 r30 r31 r33 r34 r35 r36 r37 r38 r39 r40 mn dt tp sz fk fp at1 en tk nu fl wa co (nI n) nm p1) [0] [1, 2, 3, 4, 5, 6] [6, 0, 1, 2, 3, 4, 5] rfl (by decide) (by decide) rfl mo_Mo_isMan mv_Mo_isMan kw_902 (by decide) (rcX 0 rfl rfl) rfl (Nat.le_of_ble_eq_true rfl) ⟨Nat.le_of_ble_eq_true rfl, Nat.le_of_ble_eq_true rfl⟩ d_Mo_debt_10 ?_
    refine g_if_eq C d_Mo_debt_13 (fun c_2 => ?_) (fun c_2 => ?_)
    · have c_2 := zb_0.mp c_2
      refine g_iconst (v := (-1)) C rfl d_Mo_debt_61 ?_
      exact g_iret C rfl ⟨congrArg (fun z => some (Value.int z)) (by simp [dbtM, c_1, c_2]), (by simp [dbtM, c_1, c_2]), rfl⟩ (by decide) (by decide) d_Mo_debt_62
    · have c_2 := zb_n0.mp c_2
      refine g_iload_n C 1 rfl d_Mo_debt_16 ?_
      refine g_iload_n C 2 rfl d_Mo_debt_17 ?_
      refine g_icmp_eq C d_Mo_debt_18 (fun c_3 => ?_) (fun c_3 => ?_)
      · skip
        refine g_iconst (v := (-1)) C rfl d_Mo_debt_61 ?_
        exact g_iret C rfl ⟨congrArg (fun z => some (Value.int z)) (by simp [dbtM, c_1, c_2, eq_true c_3]), (by simp [dbtM, c_1, c_2, eq_true c_3]), rfl⟩ (by decide) (by decide) d_Mo_debt_62
      · skip
        refine g_iload_n C 3 rfl d_Mo_debt_21 ?_
        refine g_if_lt C d_Mo_debt_22 (fun c_4 => ?_) (fun c_4 => ?_)
        · skip
          refine g_iconst (v := (-1)) C rfl d_Mo_debt_61 ?_
          exact g_iret C rfl ⟨congrArg (fun z => some (Value.int z)) (by simp [dbtM, c_1, c_2, c_3, c_4, Int32.not_le.mpr c_4]), (by simp [dbtM, c_1, c_2, c_3, c_4, Int32.not_le.mpr c_4]), rfl⟩ (by decide) (by decide) d_Mo_debt_62
        · skip
          refine g_iload_n C 3 rfl d_Mo_debt_25 ?_
          refine g_iconst (v := 5) C rfl d_Mo_debt_26 ?_
          refine g_icmp_ge C d_Mo_debt_27 (fun c_5 => ?_) (fun c_5 => ?_)
          · skip
            refine g_iconst (v := (-1)) C rfl d_Mo_debt_61 ?_
            exact g_iret C rfl ⟨congrArg (fun z => some (Value.int z)) (by simp [dbtM, c_1, c_2, c_3, c_4, Int32.not_lt.mp c_4, c_5, Int32.not_lt.mpr c_5]), (by simp [dbtM, c_1, c_2, c_3, c_4, Int32.not_lt.mp c_4, c_5, Int32.not_lt.mpr c_5]), rfl⟩ (by decide) (by decide) d_Mo_debt_62
          · skip
            refine g_iload C 4 rfl d_Mo_debt_30 ?_
            refine g_iconst (v := 1) C rfl d_Mo_debt_32 ?_
            refine g_icmp_lt C d_Mo_debt_33 (fun c_6 => ?_) (fun c_6 => ?_)
            · skip
              refine g_iconst (v := (-1)) C rfl d_Mo_debt_61 ?_
              exact g_iret C rfl ⟨congrArg (fun z => some (Value.int z)) (by simp [dbtM, c_1, c_2, c_3, c_4, Int32.not_lt.mp c_4, c_5, Int32.not_le.mp c_5, c_6, Int32.not_le.mpr c_6]), (by simp [dbtM, c_1, c_2, c_3, c_4, Int32.not_lt.mp c_4, c_5, Int32.not_le.mp c_5, c_6, Int32.not_le.mpr c_6]), rfl⟩ (by decide) (by decide) d_Mo_debt_62
            · skip
              refine g_iload C 4 rfl d_Mo_debt_36 ?_
              refine g_sipush (v := 1000) C rfl d_Mo_debt_38 ?_
              refine g_icmp_gt C d_Mo_debt_41 (fun c_7 => ?_) (fun c_7 => ?_)
              · skip
                refine g_iconst (v := (-1)) C rfl d_Mo_debt_61 ?_
                exact g_iret C rfl ⟨congrArg (fun z => some (Value.int z)) (by simp [dbtM, c_1, c_2, c_3, c_4, Int32.not_lt.mp c_4, c_5, Int32.not_le.mp c_5, c_6, Int32.not_lt.mp c_6, c_7, Int32.not_le.mpr c_7]), (by simp [dbtM, c_1, c_2, c_3, c_4, Int32.not_lt.mp c_4, c_5, Int32.not_le.mp c_5, c_6, Int32.not_lt.mp c_6, c_7, Int32.not_le.mpr c_7]), rfl⟩ (by decide) (by decide) d_Mo_debt_62
              · skip
                refine g_iload C 5 rfl d_Mo_debt_44 ?_
                refine g_callS0 (rest := []) (Xn := [(h, .inr (13, [.ref r0, .ref r1, .ref r2, .int mn, .int dt, .ref r5, .ref r6, .int tp, .int sz, .int fk, .int fp, .int at1, .int en, .int tk, .int nu, .long nm, .ref r16, .ref r17, .ref r18, .ref r19, .ref r20, .ref r21, .ref r22, .ref r23, .int fl, .ref r25, .int wa, .ref r27, .ref r28, .ref r29, .ref r30, .ref r31, .int co, .ref r33, .ref r34, .ref r35, .ref r36, .ref r37, .ref r38, .ref r39, .ref r40, .int (nI n)])), (r33, .inl (g.2.1 0, 60, .inl byf)), (r34, .inl (g.2.1 0, 60, .inl tof)), (r35, .inl (g.2.1 0, 60, .inl gof)), (r36, .inl (g.2.1 0, 60, .inl myf)), (r37, .inl (g.2.1 0, 60, .inl dyf)), (r38, .inl (g.2.1 0, 60, .inl pdf))]) C (c_Mo_isDay l g p4) [] [0, 1, 2, 3, 4, 5, 6] [0, 1, 2, 3, 4, 5, 6] rfl (by decide) (by decide) rfl mo_Mo_isDay ms_Mo_isDay kw_974 (by decide) rfl (Nat.le_of_ble_eq_true rfl) ⟨Nat.le_of_ble_eq_true rfl, Nat.le_of_ble_eq_true rfl⟩ d_Mo_debt_46 ?_
                refine g_if_eq C d_Mo_debt_49 (fun c_8 => ?_) (fun c_8 => ?_)
                · have c_8 := zb_0.mp c_8
                  refine g_iconst (v := (-1)) C rfl d_Mo_debt_61 ?_
                  exact g_iret C rfl ⟨congrArg (fun z => some (Value.int z)) (by simp [dbtM, c_1, c_2, c_3, c_4, Int32.not_lt.mp c_4, c_5, Int32.not_le.mp c_5, c_6, Int32.not_lt.mp c_6, c_7, Int32.not_lt.mp c_7, c_8]), (by simp [dbtM, c_1, c_2, c_3, c_4, Int32.not_lt.mp c_4, c_5, Int32.not_le.mp c_5, c_6, Int32.not_lt.mp c_6, c_7, Int32.not_lt.mp c_7, c_8]), rfl⟩ (by decide) (by decide) d_Mo_debt_62
                · have c_8 := zb_n0.mp c_8
                  refine g_aload_n C 0 rfl d_Mo_debt_52 ?_
                  refine g_get C 0 rfl rfl in_Mo 41 (by decide) kw_1061 rfl d_Mo_debt_53 ?_
                  refine g_bipush (v := 60) C rfl d_Mo_debt_56 ?_
                  refine g_icmp_ne C d_Mo_debt_58 (fun c_9 => ?_) (fun c_9 => ?_)
                  · skip
                    have n_9 : ¬ (n = 60) := fun z => c_9 ((nI_eq (a := n) (b := 60) (by omega) (by omega)).mpr z)
                    refine g_aload_n C 0 rfl d_Mo_debt_63 ?_
                    refine g_get C 0 rfl rfl in_Mo 33 (by decide) kw_1053 rfl d_Mo_debt_64 ?_
                    refine g_aload_n C 0 rfl d_Mo_debt_67 ?_
                    refine g_get C 0 rfl rfl in_Mo 41 (by decide) kw_1061 rfl d_Mo_debt_68 ?_
                    refine g_iload_n C 1 rfl d_Mo_debt_71 ?_
                    refine g_iast (X1 := [(h, .inr (13, [.ref r0, .ref r1, .ref r2, .int mn, .int dt, .ref r5, .ref r6, .int tp, .int sz, .int fk, .int fp, .int at1, .int en, .int tk, .int nu, .long nm, .ref r16, .ref r17, .ref r18, .ref r19, .ref r20, .ref r21, .ref r22, .ref r23, .int fl, .ref r25, .int wa, .ref r27, .ref r28, .ref r29, .ref r30, .ref r31, .int co, .ref r33, .ref r34, .ref r35, .ref r36, .ref r37, .ref r38, .ref r39, .ref r40, .int (nI n)])), (r33, .inl (g.2.1 0, 60, .inl (upd byf (Int32.toNatClampNeg (nI n)) p0))), (r34, .inl (g.2.1 0, 60, .inl tof)), (r35, .inl (g.2.1 0, 60, .inl gof)), (r36, .inl (g.2.1 0, 60, .inl myf)), (r37, .inl (g.2.1 0, 60, .inl dyf)), (r38, .inl (g.2.1 0, 60, .inl pdf))]) C 1 rfl (vp_in_nI (by omega) (by decide)) rfl d_Mo_debt_72 ?_
                    refine g_eq (X1 := [(h, .inr (13, [.ref r0, .ref r1, .ref r2, .int mn, .int dt, .ref r5, .ref r6, .int tp, .int sz, .int fk, .int fp, .int at1, .int en, .int tk, .int nu, .long nm, .ref r16, .ref r17, .ref r18, .ref r19, .ref r20, .ref r21, .ref r22, .ref r23, .int fl, .ref r25, .int wa, .ref r27, .ref r28, .ref r29, .ref r30, .ref r31, .int co, .ref r33, .ref r34, .ref r35, .ref r36, .ref r37, .ref r38, .ref r39, .ref r40, .int (nI n)])), (r33, .inl (g.2.1 0, 60, .inl (upd byf n p0))), (r34, .inl (g.2.1 0, 60, .inl tof)), (r35, .inl (g.2.1 0, 60, .inl gof)), (r36, .inl (g.2.1 0, 60, .inl myf)), (r37, .inl (g.2.1 0, 60, .inl dyf)), (r38, .inl (g.2.1 0, 60, .inl pdf))]) rfl (by rw [nI_clamp (by omega)]) ?_
                    refine g_aload_n C 0 rfl d_Mo_debt_73 ?_
                    refine g_get C 0 rfl rfl in_Mo 34 (by decide) kw_1054 rfl d_Mo_debt_74 ?_
                    refine g_aload_n C 0 rfl d_Mo_debt_77 ?_
                    refine g_get C 0 rfl rfl in_Mo 41 (by decide) kw_1061 rfl d_Mo_debt_78 ?_
                    refine g_iload_n C 2 rfl d_Mo_debt_81 ?_
                    refine g_iast (X1 := [(h, .inr (13, [.ref r0, .ref r1, .ref r2, .int mn, .int dt, .ref r5, .ref r6, .int tp, .int sz, .int fk, .int fp, .int at1, .int en, .int tk, .int nu, .long nm, .ref r16, .ref r17, .ref r18, .ref r19, .ref r20, .ref r21, .ref r22, .ref r23, .int fl, .ref r25, .int wa, .ref r27, .ref r28, .ref r29, .ref r30, .ref r31, .int co, .ref r33, .ref r34, .ref r35, .ref r36, .ref r37, .ref r38, .ref r39, .ref r40, .int (nI n)])), (r33, .inl (g.2.1 0, 60, .inl (upd byf n p0))), (r34, .inl (g.2.1 0, 60, .inl (upd tof (Int32.toNatClampNeg (nI n)) p1))), (r35, .inl (g.2.1 0, 60, .inl gof)), (r36, .inl (g.2.1 0, 60, .inl myf)), (r37, .inl (g.2.1 0, 60, .inl dyf)), (r38, .inl (g.2.1 0, 60, .inl pdf))]) C 2 rfl (vp_in_nI (by omega) (by decide)) rfl d_Mo_debt_82 ?_
                    refine g_eq (X1 := [(h, .inr (13, [.ref r0, .ref r1, .ref r2, .int mn, .int dt, .ref r5, .ref r6, .int tp, .int sz, .int fk, .int fp, .int at1, .int en, .int tk, .int nu, .long nm, .ref r16, .ref r17, .ref r18, .ref r19, .ref r20, .ref r21, .ref r22, .ref r23, .int fl, .ref r25, .int wa, .ref r27, .ref r28, .ref r29, .ref r30, .ref r31, .int co, .ref r33, .ref r34, .ref r35, .ref r36, .ref r37, .ref r38, .ref r39, .ref r40, .int (nI n)])), (r33, .inl (g.2.1 0, 60, .inl (upd byf n p0))), (r34, .inl (g.2.1 0, 60, .inl (upd tof n p1))), (r35, .inl (g.2.1 0, 60, .inl gof)), (r36, .inl (g.2.1 0, 60, .inl myf)), (r37, .inl (g.2.1 0, 60, .inl dyf)), (r38, .inl (g.2.1 0, 60, .inl pdf))]) rfl (by rw [nI_clamp (by omega)]) ?_
                    refine g_aload_n C 0 rfl d_Mo_debt_83 ?_
                    refine g_get C 0 rfl rfl in_Mo 35 (by decide) kw_1055 rfl d_Mo_debt_84 ?_
                    refine g_aload_n C 0 rfl d_Mo_debt_87 ?_
                    refine g_get C 0 rfl rfl in_Mo 41 (by decide) kw_1061 rfl d_Mo_debt_88 ?_
                    refine g_iload_n C 3 rfl d_Mo_debt_91 ?_
                    refine g_iast (X1 := [(h, .inr (13, [.ref r0, .ref r1, .ref r2, .int mn, .int dt, .ref r5, .ref r6, .int tp, .int sz, .int fk, .int fp, .int at1, .int en, .int tk, .int nu, .long nm, .ref r16, .ref r17, .ref r18, .ref r19, .ref r20, .ref r21, .ref r22, .ref r23, .int fl, .ref r25, .int wa, .ref r27, .ref r28, .ref r29, .ref r30, .ref r31, .int co, .ref r33, .ref r34, .ref r35, .ref r36, .ref r37, .ref r38, .ref r39, .ref r40, .int (nI n)])), (r33, .inl (g.2.1 0, 60, .inl (upd byf n p0))), (r34, .inl (g.2.1 0, 60, .inl (upd tof n p1))), (r35, .inl (g.2.1 0, 60, .inl (upd gof (Int32.toNatClampNeg (nI n)) p2))), (r36, .inl (g.2.1 0, 60, .inl myf)), (r37, .inl (g.2.1 0, 60, .inl dyf)), (r38, .inl (g.2.1 0, 60, .inl pdf))]) C 3 rfl (vp_in_nI (by omega) (by decide)) rfl d_Mo_debt_92 ?_
                    refine g_eq (X1 := [(h, .inr (13, [.ref r0, .ref r1, .ref r2, .int mn, .int dt, .ref r5, .ref r6, .int tp, .int sz, .int fk, .int fp, .int at1, .int en, .int tk, .int nu, .long nm, .ref r16, .ref r17, .ref r18, .ref r19, .ref r20, .ref r21, .ref r22, .ref r23, .int fl, .ref r25, .int wa, .ref r27, .ref r28, .ref r29, .ref r30, .ref r31, .int co, .ref r33, .ref r34, .ref r35, .ref r36, .ref r37, .ref r38, .ref r39, .ref r40, .int (nI n)])), (r33, .inl (g.2.1 0, 60, .inl (upd byf n p0))), (r34, .inl (g.2.1 0, 60, .inl (upd tof n p1))), (r35, .inl (g.2.1 0, 60, .inl (upd gof n p2))), (r36, .inl (g.2.1 0, 60, .inl myf)), (r37, .inl (g.2.1 0, 60, .inl dyf)), (r38, .inl (g.2.1 0, 60, .inl pdf))]) rfl (by rw [nI_clamp (by omega)]) ?_
                    refine g_aload_n C 0 rfl d_Mo_debt_93 ?_
                    refine g_get C 0 rfl rfl in_Mo 36 (by decide) kw_1056 rfl d_Mo_debt_94 ?_
                    refine g_aload_n C 0 rfl d_Mo_debt_97 ?_
                    refine g_get C 0 rfl rfl in_Mo 41 (by decide) kw_1061 rfl d_Mo_debt_98 ?_
                    refine g_iload C 4 rfl d_Mo_debt_101 ?_
                    refine g_iast (X1 := [(h, .inr (13, [.ref r0, .ref r1, .ref r2, .int mn, .int dt, .ref r5, .ref r6, .int tp, .int sz, .int fk, .int fp, .int at1, .int en, .int tk, .int nu, .long nm, .ref r16, .ref r17, .ref r18, .ref r19, .ref r20, .ref r21, .ref r22, .ref r23, .int fl, .ref r25, .int wa, .ref r27, .ref r28, .ref r29, .ref r30, .ref r31, .int co, .ref r33, .ref r34, .ref r35, .ref r36, .ref r37, .ref r38, .ref r39, .ref r40, .int (nI n)])), (r33, .inl (g.2.1 0, 60, .inl (upd byf n p0))), (r34, .inl (g.2.1 0, 60, .inl (upd tof n p1))), (r35, .inl (g.2.1 0, 60, .inl (upd gof n p2))), (r36, .inl (g.2.1 0, 60, .inl (upd myf (Int32.toNatClampNeg (nI n)) p3))), (r37, .inl (g.2.1 0, 60, .inl dyf)), (r38, .inl (g.2.1 0, 60, .inl pdf))]) C 4 rfl (vp_in_nI (by omega) (by decide)) rfl d_Mo_debt_103 ?_
                    refine g_eq (X1 := [(h, .inr (13, [.ref r0, .ref r1, .ref r2, .int mn, .int dt, .ref r5, .ref r6, .int tp, .int sz, .int fk, .int fp, .int at1, .int en, .int tk, .int nu, .long nm, .ref r16, .ref r17, .ref r18, .ref r19, .ref r20, .ref r21, .ref r22, .ref r23, .int fl, .ref r25, .int wa, .ref r27, .ref r28, .ref r29, .ref r30, .ref r31, .int co, .ref r33, .ref r34, .ref r35, .ref r36, .ref r37, .ref r38, .ref r39, .ref r40, .int (nI n)])), (r33, .inl (g.2.1 0, 60, .inl (upd byf n p0))), (r34, .inl (g.2.1 0, 60, .inl (upd tof n p1))), (r35, .inl (g.2.1 0, 60, .inl (upd gof n p2))), (r36, .inl (g.2.1 0, 60, .inl (upd myf n p3))), (r37, .inl (g.2.1 0, 60, .inl dyf)), (r38, .inl (g.2.1 0, 60, .inl pdf))]) rfl (by rw [nI_clamp (by omega)]) ?_
                    refine g_aload_n C 0 rfl d_Mo_debt_104 ?_
                    refine g_get C 0 rfl rfl in_Mo 37 (by decide) kw_1057 rfl d_Mo_debt_105 ?_
                    refine g_aload_n C 0 rfl d_Mo_debt_108 ?_
                    refine g_get C 0 rfl rfl in_Mo 41 (by decide) kw_1061 rfl d_Mo_debt_109 ?_
                    refine g_iload C 5 rfl d_Mo_debt_112 ?_
                    refine g_iast (X1 := [(h, .inr (13, [.ref r0, .ref r1, .ref r2, .int mn, .int dt, .ref r5, .ref r6, .int tp, .int sz, .int fk, .int fp, .int at1, .int en, .int tk, .int nu, .long nm, .ref r16, .ref r17, .ref r18, .ref r19, .ref r20, .ref r21, .ref r22, .ref r23, .int fl, .ref r25, .int wa, .ref r27, .ref r28, .ref r29, .ref r30, .ref r31, .int co, .ref r33, .ref r34, .ref r35, .ref r36, .ref r37, .ref r38, .ref r39, .ref r40, .int (nI n)])), (r33, .inl (g.2.1 0, 60, .inl (upd byf n p0))), (r34, .inl (g.2.1 0, 60, .inl (upd tof n p1))), (r35, .inl (g.2.1 0, 60, .inl (upd gof n p2))), (r36, .inl (g.2.1 0, 60, .inl (upd myf n p3))), (r37, .inl (g.2.1 0, 60, .inl (upd dyf (Int32.toNatClampNeg (nI n)) p4))), (r38, .inl (g.2.1 0, 60, .inl pdf))]) C 5 rfl (vp_in_nI (by omega) (by decide)) rfl d_Mo_debt_114 ?_
                    refine g_eq (X1 := [(h, .inr (13, [.ref r0, .ref r1, .ref r2, .int mn, .int dt, .ref r5, .ref r6, .int tp, .int sz, .int fk, .int fp, .int at1, .int en, .int tk, .int nu, .long nm, .ref r16, .ref r17, .ref r18, .ref r19, .ref r20, .ref r21, .ref r22, .ref r23, .int fl, .ref r25, .int wa, .ref r27, .ref r28, .ref r29, .ref r30, .ref r31, .int co, .ref r33, .ref r34, .ref r35, .ref r36, .ref r37, .ref r38, .ref r39, .ref r40, .int (nI n)])), (r33, .inl (g.2.1 0, 60, .inl (upd byf n p0))), (r34, .inl (g.2.1 0, 60, .inl (upd tof n p1))), (r35, .inl (g.2.1 0, 60, .inl (upd gof n p2))), (r36, .inl (g.2.1 0, 60, .inl (upd myf n p3))), (r37, .inl (g.2.1 0, 60, .inl (upd dyf n p4))), (r38, .inl (g.2.1 0, 60, .inl pdf))]) rfl (by rw [nI_clamp (by omega)]) ?_
                    refine g_aload_n C 0 rfl d_Mo_debt_115 ?_
                    refine g_get C 0 rfl rfl in_Mo 38 (by decide) kw_1058 rfl d_Mo_debt_116 ?_
                    refine g_aload_n C 0 rfl d_Mo_debt_119 ?_
                    refine g_get C 0 rfl rfl in_Mo 41 (by decide) kw_1061 rfl d_Mo_debt_120 ?_
                    refine g_iconst (v := (-1)) C rfl d_Mo_debt_123 ?_
                    refine g_iast (X1 := [(h, .inr (13, [.ref r0, .ref r1, .ref r2, .int mn, .int dt, .ref r5, .ref r6, .int tp, .int sz, .int fk, .int fp, .int at1, .int en, .int tk, .int nu, .long nm, .ref r16, .ref r17, .ref r18, .ref r19, .ref r20, .ref r21, .ref r22, .ref r23, .int fl, .ref r25, .int wa, .ref r27, .ref r28, .ref r29, .ref r30, .ref r31, .int co, .ref r33, .ref r34, .ref r35, .ref r36, .ref r37, .ref r38, .ref r39, .ref r40, .int (nI n)])), (r33, .inl (g.2.1 0, 60, .inl (upd byf n p0))), (r34, .inl (g.2.1 0, 60, .inl (upd tof n p1))), (r35, .inl (g.2.1 0, 60, .inl (upd gof n p2))), (r36, .inl (g.2.1 0, 60, .inl (upd myf n p3))), (r37, .inl (g.2.1 0, 60, .inl (upd dyf n p4))), (r38, .inl (g.2.1 0, 60, .inl (upd pdf (Int32.toNatClampNeg (nI n)) (-1))))]) C 6 rfl (vp_in_nI (by omega) (by decide)) rfl d_Mo_debt_124 ?_
                    refine g_eq (X1 := [(h, .inr (13, [.ref r0, .ref r1, .ref r2, .int mn, .int dt, .ref r5, .ref r6, .int tp, .int sz, .int fk, .int fp, .int at1, .int en, .int tk, .int nu, .long nm, .ref r16, .ref r17, .ref r18, .ref r19, .ref r20, .ref r21, .ref r22, .ref r23, .int fl, .ref r25, .int wa, .ref r27, .ref r28, .ref r29, .ref r30, .ref r31, .int co, .ref r33, .ref r34, .ref r35, .ref r36, .ref r37, .ref r38, .ref r39, .ref r40, .int (nI n)])), (r33, .inl (g.2.1 0, 60, .inl (upd byf n p0))), (r34, .inl (g.2.1 0, 60, .inl (upd tof n p1))), (r35, .inl (g.2.1 0, 60, .inl (upd gof n p2))), (r36, .inl (g.2.1 0, 60, .inl (upd myf n p3))), (r37, .inl (g.2.1 0, 60, .inl (upd dyf n p4))), (r38, .inl (g.2.1 0, 60, .inl (upd pdf n (-1))))]) rfl (by rw [nI_clamp (by omega)]) ?_
                    refine g_aload_n C 0 rfl d_Mo_debt_125 ?_
                    refine g_dup C rfl d_Mo_debt_126 ?_
                    refine g_get C 0 rfl rfl in_Mo 41 (by decide) kw_1061 rfl d_Mo_debt_127 ?_
                    refine g_iconst (v := 1) C rfl d_Mo_debt_130 ?_
                    refine g_iadd C d_Mo_debt_131 ?_
                    refine g_eq (st1 := [.int (nI (n + 1)), .ref h]) (congrArg (fun z => Value.int z :: [.ref h]) (nI_add n 1)) rfl ?_
                    refine g_put (X1 := [(h, .inr (13, [.ref r0, .ref r1, .ref r2, .int mn, .int dt, .ref r5, .ref r6, .int tp, .int sz, .int fk, .int fp, .int at1, .int en, .int tk, .int nu, .long nm, .ref r16, .ref r17, .ref r18, .ref r19, .ref r20, .ref r21, .ref r22, .ref r23, .int fl, .ref r25, .int wa, .ref r27, .ref r28, .ref r29, .ref r30, .ref r31, .int co, .ref r33, .ref r34, .ref r35, .ref r36, .ref r37, .ref r38, .ref r39, .ref r40, .int (nI (n + 1))])), (r33, .inl (g.2.1 0, 60, .inl (upd byf n p0))), (r34, .inl (g.2.1 0, 60, .inl (upd tof n p1))), (r35, .inl (g.2.1 0, 60, .inl (upd gof n p2))), (r36, .inl (g.2.1 0, 60, .inl (upd myf n p3))), (r37, .inl (g.2.1 0, 60, .inl (upd dyf n p4))), (r38, .inl (g.2.1 0, 60, .inl (upd pdf n (-1))))]) C 0 rfl rfl in_Mo 41 (by decide) ok_Mo nm_Mo kw_1061 rfl rfl rfl (Nat.le_of_ble_eq_true rfl) rfl d_Mo_debt_132 ?_
                    refine g_aload_n C 0 rfl d_Mo_debt_135 ?_
                    refine g_get C 0 rfl rfl in_Mo 41 (by decide) kw_1061 rfl d_Mo_debt_136 ?_
                    refine g_iconst (v := 1) C rfl d_Mo_debt_139 ?_
                    refine g_isub C d_Mo_debt_140 ?_
                    refine g_eq (st1 := [.int (nI n)]) (congrArg (fun z => Value.int z :: []) (nI_pred n)) rfl ?_
                    exact g_iret C rfl ⟨congrArg (fun z => some (Value.int z)) (by simp [dbtM, c_1, c_2, c_3, c_4, Int32.not_lt.mp c_4, c_5, Int32.not_le.mp c_5, c_6, Int32.not_lt.mp c_6, c_7, Int32.not_lt.mp c_7, c_8, c_9, n_9]), (by simp [dbtM, c_1, c_2, c_3, c_4, Int32.not_lt.mp c_4, c_5, Int32.not_le.mp c_5, c_6, Int32.not_lt.mp c_6, c_7, Int32.not_lt.mp c_7, c_8, c_9, n_9]), rfl⟩ (by decide) (by decide) d_Mo_debt_141
                  · skip
                    have n_9 : n = 60 := (nI_eq (a := n) (b := 60) (by omega) (by omega)).mp c_9
                    refine g_iconst (v := (-1)) C rfl d_Mo_debt_61 ?_
                    exact g_iret C rfl ⟨congrArg (fun z => some (Value.int z)) (by simp [dbtM, c_1, c_2, c_3, c_4, Int32.not_lt.mp c_4, c_5, Int32.not_le.mp c_5, c_6, Int32.not_lt.mp c_6, c_7, Int32.not_lt.mp c_7, c_8, eq_true c_9, eq_true n_9]), (by simp [dbtM, c_1, c_2, c_3, c_4, Int32.not_lt.mp c_4, c_5, Int32.not_le.mp c_5, c_6, Int32.not_lt.mp c_6, c_7, Int32.not_lt.mp c_7, c_8, eq_true c_9, eq_true n_9]), rfl⟩ (by decide) (by decide) d_Mo_debt_62

def payM1 (n : Nat) (pd dy : Nat → Int32) (x d : Int32) : Bool := decide (¬ x < 0 ∧ ¬ nI n ≤ x ∧ ¬ 0 ≤ pd x.toNatClampNeg ∧ inB d 3600 = true ∧ ¬ d < dy x.toNatClampNeg)
set_option maxHeartbeats 4000000 in
set_option maxRecDepth 100000 in
theorem c_Mo_pay (l : Launch) (g : Gx) (h r0 r1 r2 r5 r6 r16 r17 r18 r19 r20 r21 r22 r23 r25 r27 r28 r29 r30 r31 r33 r34 r35 r36 r37 r38 r39 r40 n : Nat) (mn dt tp sz fk fp at1 en tk nu fl wa co : Int32) (nm : Int64) (dyf pdf : Nat → Int32) (p0 p1 : Int32) (hn : n ≤ 60) : M0 l g y_Mo_pay b_Mo_pay 3 (some FieldType.boolean) ({ frames := 1, cells := 0, slots := 0, locals := 20 }) [.ref h, .int p0, .int p1] [(h, .inr (13, [.ref r0, .ref r1, .ref r2, .int mn, .int dt, .ref r5, .ref r6, .int tp, .int sz, .int fk, .int fp, .int at1, .int en, .int tk, .int nu, .long nm, .ref r16, .ref r17, .ref r18, .ref r19, .ref r20, .ref r21, .ref r22, .ref r23, .int fl, .ref r25, .int wa, .ref r27, .ref r28, .ref r29, .ref r30, .ref r31, .int co, .ref r33, .ref r34, .ref r35, .ref r36, .ref r37, .ref r38, .ref r39, .ref r40, .int (nI n)])), (r37, .inl (g.2.1 0, 60, .inl dyf)), (r38, .inl (g.2.1 0, 60, .inl pdf))] (some (.int (zb (payM1 n pdf dyf p0 p1)))) [(h, .inr (13, [.ref r0, .ref r1, .ref r2, .int mn, .int dt, .ref r5, .ref r6, .int tp, .int sz, .int fk, .int fp, .int at1, .int en, .int tk, .int nu, .long nm, .ref r16, .ref r17, .ref r18, .ref r19, .ref r20, .ref r21, .ref r22, .ref r23, .int fl, .ref r25, .int wa, .ref r27, .ref r28, .ref r29, .ref r30, .ref r31, .int co, .ref r33, .ref r34, .ref r35, .ref r36, .ref r37, .ref r38, .ref r39, .ref r40, .int (nI n)])), (r37, .inl (g.2.1 0, 60, .inl dyf)), (r38, .inl (g.2.1 0, 60, .inl (if payM1 n pdf dyf p0 p1 then upd pdf p0.toNatClampNeg p1 else pdf)))] := by
  refine MP.of (by decide) (Nat.le_of_ble_eq_true rfl) (fun κ C => ?_)
  have C : zC κ l g ({ frames := 1, cells := 0, slots := 0, locals := 20 }) b_Mo_pay 3 "TombLaneModel" "pay" (some FieldType.boolean) _ := C
  refine g_lv (lv1 := [(0, .ref h), (1, .int p0), (2, .int p1)]) [0, 1, 2] rfl ?_
  refine g_iload_n C 1 rfl d_Mo_pay_0 ?_
  refine g_if_lt C d_Mo_pay_1 (fun c_1 => ?_) (fun c_1 => ?_)
  · skip
    refine g_iconst (v := 0) C rfl d_Mo_pay_38 ?_
    exact g_zret C (Or.inl rfl) rfl ⟨congrArg (fun z => some (Value.int z)) (by simp [zb, payM1, c_1, Int32.not_le.mpr c_1]), (by simp [zb, payM1, c_1, Int32.not_le.mpr c_1]), rfl⟩ (by decide) (by decide) d_Mo_pay_39
  · skip
    refine g_iload_n C 1 rfl d_Mo_pay_4 ?_
    refine g_aload_n C 0 rfl d_Mo_pay_5 ?_
    refine g_get C 0 rfl rfl in_Mo 41 (by decide) kw_1061 rfl d_Mo_pay_6 ?_
    refine g_icmp_ge C d_Mo_pay_9 (fun c_2 => ?_) (fun c_2 => ?_)
    · skip
      refine g_iconst (v := 0) C rfl d_Mo_pay_38 ?_
      exact g_zret C (Or.inl rfl) rfl ⟨congrArg (fun z => some (Value.int z)) (by simp [zb, payM1, c_1, Int32.not_lt.mp c_1, c_2, Int32.not_lt.mpr c_2]), (by simp [zb, payM1, c_1, Int32.not_lt.mp c_1, c_2, Int32.not_lt.mpr c_2]), rfl⟩ (by decide) (by decide) d_Mo_pay_39
    · skip
      refine g_aload_n C 0 rfl d_Mo_pay_12 ?_
      refine g_get C 0 rfl rfl in_Mo 38 (by decide) kw_1058 rfl d_Mo_pay_13 ?_
      refine g_iload_n C 1 rfl d_Mo_pay_16 ?_
      refine g_iald C 2 rfl (ix_vp c_1 c_2 (by omega) (by decide)) d_Mo_pay_17 ?_
      refine g_if_ge C d_Mo_pay_18 (fun c_3 => ?_) (fun c_3 => ?_)
      · skip
        refine g_iconst (v := 0) C rfl d_Mo_pay_38 ?_
        exact g_zret C (Or.inl rfl) rfl ⟨congrArg (fun z => some (Value.int z)) (by simp [zb, payM1, c_1, Int32.not_lt.mp c_1, c_2, Int32.not_le.mp c_2, c_3, Int32.not_lt.mpr c_3]), (by simp [zb, payM1, c_1, Int32.not_lt.mp c_1, c_2, Int32.not_le.mp c_2, c_3, Int32.not_lt.mpr c_3]), rfl⟩ (by decide) (by decide) d_Mo_pay_39
      · skip
        refine g_iload_n C 2 rfl d_Mo_pay_21 ?_
        refine g_callS0 (rest := []) (Xn := [(h, .inr (13, [.ref r0, .ref r1, .ref r2, .int mn, .int dt, .ref r5, .ref r6, .int tp, .int sz, .int fk, .int fp, .int at1, .int en, .int tk, .int nu, .long nm, .ref r16, .ref r17, .ref r18, .ref r19, .ref r20, .ref r21, .ref r22, .ref r23, .int fl, .ref r25, .int wa, .ref r27, .ref r28, .ref r29, .ref r30, .ref r31, .int co, .ref r33, .ref r34, .ref r35, .ref r36, .ref r37, .ref r38, .ref r39, .ref r40, .int (nI n)])), (r37, .inl (g.2.1 0, 60, .inl dyf)), (r38, .inl (g.2.1 0, 60, .inl pdf))]) C (c_Mo_isDay l g p1) [] [0, 1, 2] [0, 1, 2] rfl (by decide) (by decide) rfl mo_Mo_isDay ms_Mo_isDay kw_974 (by decide) rfl (Nat.le_of_ble_eq_true rfl) ⟨Nat.le_of_ble_eq_true rfl, Nat.le_of_ble_eq_true rfl⟩ d_Mo_pay_22 ?_
        refine g_if_eq C d_Mo_pay_25 (fun c_4 => ?_) (fun c_4 => ?_)
        · have c_4 := zb_0.mp c_4
          refine g_iconst (v := 0) C rfl d_Mo_pay_38 ?_
          exact g_zret C (Or.inl rfl) rfl ⟨congrArg (fun z => some (Value.int z)) (by simp [zb, payM1, c_1, Int32.not_lt.mp c_1, c_2, Int32.not_le.mp c_2, c_3, Int32.not_le.mp c_3, c_4]), (by simp [zb, payM1, c_1, Int32.not_lt.mp c_1, c_2, Int32.not_le.mp c_2, c_3, Int32.not_le.mp c_3, c_4]), rfl⟩ (by decide) (by decide) d_Mo_pay_39
        · have c_4 := zb_n0.mp c_4
          refine g_iload_n C 2 rfl d_Mo_pay_28 ?_
          refine g_aload_n C 0 rfl d_Mo_pay_29 ?_
          refine g_get C 0 rfl rfl in_Mo 37 (by decide) kw_1057 rfl d_Mo_pay_30 ?_
          refine g_iload_n C 1 rfl d_Mo_pay_33 ?_
          refine g_iald C 1 rfl (ix_vp c_1 c_2 (by omega) (by decide)) d_Mo_pay_34 ?_
          refine g_icmp_ge C d_Mo_pay_35 (fun c_5 => ?_) (fun c_5 => ?_)
          · skip
            refine g_aload_n C 0 rfl d_Mo_pay_40 ?_
            refine g_get C 0 rfl rfl in_Mo 38 (by decide) kw_1058 rfl d_Mo_pay_41 ?_
            refine g_iload_n C 1 rfl d_Mo_pay_44 ?_
            refine g_iload_n C 2 rfl d_Mo_pay_45 ?_
            refine g_iast (X1 := [(h, .inr (13, [.ref r0, .ref r1, .ref r2, .int mn, .int dt, .ref r5, .ref r6, .int tp, .int sz, .int fk, .int fp, .int at1, .int en, .int tk, .int nu, .long nm, .ref r16, .ref r17, .ref r18, .ref r19, .ref r20, .ref r21, .ref r22, .ref r23, .int fl, .ref r25, .int wa, .ref r27, .ref r28, .ref r29, .ref r30, .ref r31, .int co, .ref r33, .ref r34, .ref r35, .ref r36, .ref r37, .ref r38, .ref r39, .ref r40, .int (nI n)])), (r37, .inl (g.2.1 0, 60, .inl dyf)), (r38, .inl (g.2.1 0, 60, .inl (upd pdf (Int32.toNatClampNeg p0) p1)))]) C 2 rfl (ix_vp c_1 c_2 (by omega) (by decide)) rfl d_Mo_pay_46 ?_
            refine g_iconst (v := 1) C rfl d_Mo_pay_47 ?_
            exact g_zret C (Or.inr rfl) rfl ⟨congrArg (fun z => some (Value.int z)) (by simp [zb, payM1, c_1, Int32.not_lt.mp c_1, c_2, Int32.not_le.mp c_2, c_3, Int32.not_le.mp c_3, c_4, c_5, Int32.not_lt.mpr c_5]), (by simp [zb, payM1, c_1, Int32.not_lt.mp c_1, c_2, Int32.not_le.mp c_2, c_3, Int32.not_le.mp c_3, c_4, c_5, Int32.not_lt.mpr c_5]), rfl⟩ (by decide) (by decide) d_Mo_pay_48
          · skip
            refine g_iconst (v := 0) C rfl d_Mo_pay_38 ?_
            exact g_zret C (Or.inl rfl) rfl ⟨congrArg (fun z => some (Value.int z)) (by simp [zb, payM1, c_1, Int32.not_lt.mp c_1, c_2, Int32.not_le.mp c_2, c_3, Int32.not_le.mp c_3, c_4, c_5, Int32.not_le.mp c_5]), (by simp [zb, payM1, c_1, Int32.not_lt.mp c_1, c_2, Int32.not_le.mp c_2, c_3, Int32.not_le.mp c_3, c_4, c_5, Int32.not_le.mp c_5]), rfl⟩ (by decide) (by decide) d_Mo_pay_39

def abtM (mn dt co db tp : Int32) (n : Nat) (lm : Nat → Int32) (x : Int32) : Int32 := if x = 0 then mn else if x = 1 then nI n else if x = 2 then dt else if x = 3 then co else if x = 4 then db else if x = 5 then tp else if ¬ x < 10 ∧ ¬ nI (10 + n) ≤ x then lm (x - 10).toNatClampNeg else (-1)
theorem abt_vp {x : Int32} {n : Nat} (hn : n ≤ 40) (h1 : ¬ x < 10) (h2 : ¬ nI (10 + n) ≤ x) : vp_in (x - 10) 41 := by
  have h0 : ¬ x < 0 := fun z => h1 (Int32.lt_trans z (by decide))
  obtain ⟨j, hj, rfl⟩ := nI_of h0
  have a1 : ¬ j < 10 := fun z => h1 (nI_lt (b := 10) z (by decide))
  have a2 : ¬ 10 + n ≤ j := fun z => h2 (nI_le z hj)
  have e : nI j - 10 = nI (j - 10) := pk_sub (b := 10) (by omega)
  rw [e]
  exact vp_in_nI (by omega) (by decide)
set_option maxHeartbeats 4000000 in
set_option maxRecDepth 100000 in
theorem c_Mo_about (l : Launch) (g : Gx) (h r0 r1 r2 r5 r6 r16 r17 r18 r19 r20 r21 r22 r23 r25 r27 r28 r29 r30 r31 r33 r34 r35 r36 r37 r38 r39 r40 n : Nat) (mn dt tp sz fk fp at1 en tk nu wa co db : Int32) (nm : Int64) (lmf : Nat → Int32) (p0 : Int32) (hn : n ≤ 40) : M0 l g y_Mo_about b_Mo_about 2 (some FieldType.int) ({ frames := 0, cells := 0, slots := 0, locals := 0 }) [.ref h, .int p0] [(h, .inr (13, [.ref r0, .ref r1, .ref r2, .int mn, .int dt, .ref r5, .ref r6, .int tp, .int sz, .int fk, .int fp, .int at1, .int en, .int tk, .int nu, .long nm, .ref r16, .ref r17, .ref r18, .ref r19, .ref r20, .ref r21, .ref r22, .ref r23, .int (nI n), .ref r25, .int wa, .ref r27, .ref r28, .ref r29, .ref r30, .ref r31, .int co, .ref r33, .ref r34, .ref r35, .ref r36, .ref r37, .ref r38, .ref r39, .ref r40, .int db])), (r16, .inl (g.2.1 0, 41, .inl lmf))] (some (.int (abtM mn dt co db tp n lmf p0))) [(h, .inr (13, [.ref r0, .ref r1, .ref r2, .int mn, .int dt, .ref r5, .ref r6, .int tp, .int sz, .int fk, .int fp, .int at1, .int en, .int tk, .int nu, .long nm, .ref r16, .ref r17, .ref r18, .ref r19, .ref r20, .ref r21, .ref r22, .ref r23, .int (nI n), .ref r25, .int wa, .ref r27, .ref r28, .ref r29, .ref r30, .ref r31, .int co, .ref r33, .ref r34, .ref r35, .ref r36, .ref r37, .ref r38, .ref r39, .ref r40, .int db])), (r16, .inl (g.2.1 0, 41, .inl lmf))] := by
  refine MP.of (by decide) (Nat.le_of_ble_eq_true rfl) (fun κ C => ?_)
  have C : zC κ l g ({ frames := 0, cells := 0, slots := 0, locals := 0 }) b_Mo_about 2 "TombLaneModel" "about" (some FieldType.int) _ := C
  refine g_lv (lv1 := [(0, .ref h), (1, .int p0)]) [0, 1] rfl ?_
  refine g_iload_n C 1 rfl d_Mo_about_0 ?_
  by_cases t_1 : p0 = 0
  · refine g_tabIn (tgt := 40) C 0 t_1 d_Mo_about_1 (by decide) (by decide) rfl (by decide) ?_
    refine g_aload_n C 0 rfl d_Mo_about_40 ?_
    refine g_get C 0 rfl rfl in_Mo 3 (by decide) kw_1023 rfl d_Mo_about_41 ?_
    exact g_iret C rfl ⟨congrArg (fun z => some (Value.int z)) (by simp [abtM, eq_true t_1]), rfl, rfl⟩ (by decide) (by decide) d_Mo_about_44
  by_cases t_2 : p0 = 1
  · refine g_tabIn (tgt := 45) C 1 t_2 d_Mo_about_1 (by decide) (by decide) rfl (by decide) ?_
    refine g_aload_n C 0 rfl d_Mo_about_45 ?_
    refine g_get C 0 rfl rfl in_Mo 24 (by decide) kw_1044 rfl d_Mo_about_46 ?_
    exact g_iret C rfl ⟨congrArg (fun z => some (Value.int z)) (by simp [abtM, t_1, eq_true t_2]), rfl, rfl⟩ (by decide) (by decide) d_Mo_about_49
  by_cases t_3 : p0 = 2
  · refine g_tabIn (tgt := 50) C 2 t_3 d_Mo_about_1 (by decide) (by decide) rfl (by decide) ?_
    refine g_aload_n C 0 rfl d_Mo_about_50 ?_
    refine g_get C 0 rfl rfl in_Mo 4 (by decide) kw_1024 rfl d_Mo_about_51 ?_
    exact g_iret C rfl ⟨congrArg (fun z => some (Value.int z)) (by simp [abtM, t_1, t_2, eq_true t_3]), rfl, rfl⟩ (by decide) (by decide) d_Mo_about_54
  by_cases t_4 : p0 = 3
  · refine g_tabIn (tgt := 55) C 3 t_4 d_Mo_about_1 (by decide) (by decide) rfl (by decide) ?_
    refine g_aload_n C 0 rfl d_Mo_about_55 ?_
    refine g_get C 0 rfl rfl in_Mo 32 (by decide) kw_1052 rfl d_Mo_about_56 ?_
    exact g_iret C rfl ⟨congrArg (fun z => some (Value.int z)) (by simp [abtM, t_1, t_2, t_3, eq_true t_4]), rfl, rfl⟩ (by decide) (by decide) d_Mo_about_59
  by_cases t_5 : p0 = 4
  · refine g_tabIn (tgt := 60) C 4 t_5 d_Mo_about_1 (by decide) (by decide) rfl (by decide) ?_
    refine g_aload_n C 0 rfl d_Mo_about_60 ?_
    refine g_get C 0 rfl rfl in_Mo 41 (by decide) kw_1061 rfl d_Mo_about_61 ?_
    exact g_iret C rfl ⟨congrArg (fun z => some (Value.int z)) (by simp [abtM, t_1, t_2, t_3, t_4, eq_true t_5]), rfl, rfl⟩ (by decide) (by decide) d_Mo_about_64
  by_cases t_6 : p0 = 5
  · refine g_tabIn (tgt := 65) C 5 t_6 d_Mo_about_1 (by decide) (by decide) rfl (by decide) ?_
    refine g_aload_n C 0 rfl d_Mo_about_65 ?_
    refine g_get C 0 rfl rfl in_Mo 7 (by decide) kw_1027 rfl d_Mo_about_66 ?_
    exact g_iret C rfl ⟨congrArg (fun z => some (Value.int z)) (by simp [abtM, t_1, t_2, t_3, t_4, t_5, eq_true t_6]), rfl, rfl⟩ (by decide) (by decide) d_Mo_about_69
  refine g_tabOut (tgt := 70) C 5 (by decide) rfl (fun c hc => by rcases (show c = 0 ∨ c = 1 ∨ c = 2 ∨ c = 3 ∨ c = 4 ∨ c = 5 by omega) with rfl | rfl | rfl | rfl | rfl | rfl <;> assumption) d_Mo_about_1 (by decide) ?_
  refine g_iload_n C 1 rfl d_Mo_about_70 ?_
  refine g_bipush (v := 10) C rfl d_Mo_about_71 ?_
  refine g_icmp_lt C d_Mo_about_73 (fun c_7 => ?_) (fun c_7 => ?_)
  · skip
    refine g_iconst (v := (-1)) C rfl d_Mo_about_87 ?_
    refine g_goto C d_Mo_about_88 ?_
    exact g_iret C rfl ⟨congrArg (fun z => some (Value.int z)) (by simp [abtM, t_1, t_2, t_3, t_4, t_5, t_6, c_7, Int32.not_le.mpr c_7]), rfl, rfl⟩ (by decide) (by decide) d_Mo_about_100
  · skip
    refine g_iload_n C 1 rfl d_Mo_about_76 ?_
    refine g_bipush (v := 10) C rfl d_Mo_about_77 ?_
    refine g_aload_n C 0 rfl d_Mo_about_79 ?_
    refine g_get C 0 rfl rfl in_Mo 24 (by decide) kw_1044 rfl d_Mo_about_80 ?_
    refine g_iadd C d_Mo_about_83 ?_
    refine g_eq (st1 := [.int (nI (10 + n)), .int p0]) (congrArg (fun z => Value.int z :: [.int p0]) (nI_add 10 n)) rfl ?_
    refine g_icmp_lt C d_Mo_about_84 (fun c_8 => ?_) (fun c_8 => ?_)
    · skip
      refine g_aload_n C 0 rfl d_Mo_about_91 ?_
      refine g_get C 0 rfl rfl in_Mo 16 (by decide) kw_1036 rfl d_Mo_about_92 ?_
      refine g_iload_n C 1 rfl d_Mo_about_95 ?_
      refine g_bipush (v := 10) C rfl d_Mo_about_96 ?_
      refine g_isub C d_Mo_about_98 ?_
      refine g_iald C 1 rfl (abt_vp hn c_7 (Int32.not_le.mpr c_8)) d_Mo_about_99 ?_
      exact g_iret C rfl ⟨congrArg (fun z => some (Value.int z)) (by simp [abtM, t_1, t_2, t_3, t_4, t_5, t_6, c_7, Int32.not_lt.mp c_7, c_8, Int32.not_le.mpr c_8]), rfl, rfl⟩ (by decide) (by decide) d_Mo_about_100
    · skip
      refine g_iconst (v := (-1)) C rfl d_Mo_about_87 ?_
      refine g_goto C d_Mo_about_88 ?_
      exact g_iret C rfl ⟨congrArg (fun z => some (Value.int z)) (by simp [abtM, t_1, t_2, t_3, t_4, t_5, t_6, c_7, Int32.not_lt.mp c_7, c_8, Int32.not_lt.mp c_8]), rfl, rfl⟩ (by decide) (by decide) d_Mo_about_100

set_option maxHeartbeats 4000000 in
set_option maxRecDepth 100000 in
theorem c_Mo_end (l : Launch) (g : Gx) (h r0 r1 r2 r5 r6 r16 r17 r18 r19 r20 r21 r22 r23 r25 r27 r28 r29 r30 r31 r33 r34 r35 r36 r37 r38 r39 r40 t : Nat) (mn dt sz fk fp at1 en tk nu fl wa co db : Int32) (nm : Int64) (p0 : Int32) : M0 l g y_Mo_end b_Mo_end 2 (some FieldType.int) ({ frames := 0, cells := 0, slots := 0, locals := 0 }) [.ref h, .int p0] [(h, .inr (13, [.ref r0, .ref r1, .ref r2, .int mn, .int dt, .ref r5, .ref r6, .int (nI t), .int sz, .int fk, .int fp, .int at1, .int en, .int tk, .int nu, .long nm, .ref r16, .ref r17, .ref r18, .ref r19, .ref r20, .ref r21, .ref r22, .ref r23, .int fl, .ref r25, .int wa, .ref r27, .ref r28, .ref r29, .ref r30, .ref r31, .int co, .ref r33, .ref r34, .ref r35, .ref r36, .ref r37, .ref r38, .ref r39, .ref r40, .int db]))] (some (.int (if cutOk t p0 then p0 else (-1)))) [(h, .inr (13, [.ref r0, .ref r1, .ref r2, .int mn, .int dt, .ref r5, .ref r6, .int (nI (cutT t p0)), .int sz, .int fk, .int fp, .int at1, .int en, .int tk, .int nu, .long nm, .ref r16, .ref r17, .ref r18, .ref r19, .ref r20, .ref r21, .ref r22, .ref r23, .int fl, .ref r25, .int wa, .ref r27, .ref r28, .ref r29, .ref r30, .ref r31, .int co, .ref r33, .ref r34, .ref r35, .ref r36, .ref r37, .ref r38, .ref r39, .ref r40, .int db]))] := by
  refine MP.of (by decide) (Nat.le_of_ble_eq_true rfl) (fun κ C => ?_)
  have C : zC κ l g ({ frames := 0, cells := 0, slots := 0, locals := 0 }) b_Mo_end 2 "TombLaneModel" "end" (some FieldType.int) _ := C
  refine g_lv (lv1 := [(0, .ref h), (1, .int p0)]) [0, 1] rfl ?_
  refine g_iload_n C 1 rfl d_Mo_end_0 ?_
  refine g_if_lt C d_Mo_end_1 (fun c_1 => ?_) (fun c_1 => ?_)
  · skip
    refine g_iconst (v := (-1)) C rfl d_Mo_end_12 ?_
    exact g_iret C rfl ⟨congrArg (fun z => some (Value.int z)) (by simp [cutOk, c_1, Int32.not_le.mpr c_1]), (by simp [cutT, cutOk, nI_clampI, c_1, Int32.not_le.mpr c_1]), rfl⟩ (by decide) (by decide) d_Mo_end_13
  · skip
    refine g_iload_n C 1 rfl d_Mo_end_4 ?_
    refine g_aload_n C 0 rfl d_Mo_end_5 ?_
    refine g_get C 0 rfl rfl in_Mo 7 (by decide) kw_1027 rfl d_Mo_end_6 ?_
    refine g_icmp_le C d_Mo_end_9 (fun c_2 => ?_) (fun c_2 => ?_)
    · skip
      refine g_aload_n C 0 rfl d_Mo_end_14 ?_
      refine g_iload_n C 1 rfl d_Mo_end_15 ?_
      refine g_put (X1 := [(h, .inr (13, [.ref r0, .ref r1, .ref r2, .int mn, .int dt, .ref r5, .ref r6, .int p0, .int sz, .int fk, .int fp, .int at1, .int en, .int tk, .int nu, .long nm, .ref r16, .ref r17, .ref r18, .ref r19, .ref r20, .ref r21, .ref r22, .ref r23, .int fl, .ref r25, .int wa, .ref r27, .ref r28, .ref r29, .ref r30, .ref r31, .int co, .ref r33, .ref r34, .ref r35, .ref r36, .ref r37, .ref r38, .ref r39, .ref r40, .int db]))]) C 0 rfl rfl in_Mo 7 (by decide) ok_Mo nm_Mo kw_1027 rfl rfl rfl (Nat.le_of_ble_eq_true rfl) rfl d_Mo_end_16 ?_
      refine g_iload_n C 1 rfl d_Mo_end_19 ?_
      exact g_iret C rfl ⟨congrArg (fun z => some (Value.int z)) (by simp [cutOk, c_1, Int32.not_lt.mp c_1, c_2, Int32.not_lt.mpr c_2]), (by simp [cutT, cutOk, nI_clampI, c_1, Int32.not_lt.mp c_1, c_2, Int32.not_lt.mpr c_2]), rfl⟩ (by decide) (by decide) d_Mo_end_20
    · skip
      refine g_iconst (v := (-1)) C rfl d_Mo_end_12 ?_
      exact g_iret C rfl ⟨congrArg (fun z => some (Value.int z)) (by simp [cutOk, c_1, Int32.not_lt.mp c_1, c_2, Int32.not_le.mp c_2]), (by simp [cutT, cutOk, nI_clampI, c_1, Int32.not_lt.mp c_1, c_2, Int32.not_le.mp c_2]), rfl⟩ (by decide) (by decide) d_Mo_end_13

def bbM (x s : Int32) : Int32 := vp_nar .byte (Int8.toInt32 (Int32.toInt8 (x >>> (s &&& 31))))
def fd4 (f : Nat → Int32) (t : Nat) (x : Int32) : Nat → Int32 := upd (upd (upd (upd f t (bbM x 24)) (t + 1) (bbM x 16)) (t + 2) (bbM x 8)) (t + 3) (bbM x 0)
def fd20 (f : Nat → Int32) (t : Nat) (a b c d e : Int32) : Nat → Int32 := fd4 (fd4 (fd4 (fd4 (fd4 f t a) (t + 4) b) (t + 8) c) (t + 12) d) (t + 16) e
set_option maxHeartbeats 4000000 in
set_option maxRecDepth 100000 in
theorem c_Mo_feed (l : Launch) (g : Gx) (h r0 r1 r2 r5 r6 r16 r17 r18 r19 r20 r21 r22 r23 r25 r27 r28 r29 r30 r31 r33 r34 r35 r36 r37 r38 r39 r40 t : Nat) (mn dt sz fk fp at1 en tk nu fl wa co db : Int32) (nm : Int64) (tf : Nat → Int32) (p0 p1 p2 p3 p4 : Int32) (ht : t ≤ 300) : M0 l g y_Mo_feed b_Mo_feed 8 (some FieldType.int) ({ frames := 0, cells := 0, slots := 0, locals := 0 }) [.ref h, .int p0, .int p1, .int p2, .int p3, .int p4] [(h, .inr (13, [.ref r0, .ref r1, .ref r2, .int mn, .int dt, .ref r5, .ref r6, .int (nI t), .int sz, .int fk, .int fp, .int at1, .int en, .int tk, .int nu, .long nm, .ref r16, .ref r17, .ref r18, .ref r19, .ref r20, .ref r21, .ref r22, .ref r23, .int fl, .ref r25, .int wa, .ref r27, .ref r28, .ref r29, .ref r30, .ref r31, .int co, .ref r33, .ref r34, .ref r35, .ref r36, .ref r37, .ref r38, .ref r39, .ref r40, .int db])), (r5, .inl (g.2.1 2, 320, .inl tf))] (some (.int (if t + 20 ≤ 300 then nI (t + 20) else (-1)))) [(h, .inr (13, [.ref r0, .ref r1, .ref r2, .int mn, .int dt, .ref r5, .ref r6, .int (nI (if t + 20 ≤ 300 then t + 20 else t)), .int sz, .int fk, .int fp, .int at1, .int en, .int tk, .int nu, .long nm, .ref r16, .ref r17, .ref r18, .ref r19, .ref r20, .ref r21, .ref r22, .ref r23, .int fl, .ref r25, .int wa, .ref r27, .ref r28, .ref r29, .ref r30, .ref r31, .int co, .ref r33, .ref r34, .ref r35, .ref r36, .ref r37, .ref r38, .ref r39, .ref r40, .int db])), (r5, .inl (g.2.1 2, 320, .inl (if t + 20 ≤ 300 then fd20 tf t p0 p1 p2 p3 p4 else tf)))] := by
  refine MP.of (by decide) (Nat.le_of_ble_eq_true rfl) (fun κ C => ?_)
  have C : zC κ l g ({ frames := 0, cells := 0, slots := 0, locals := 0 }) b_Mo_feed 8 "TombLaneModel" "feed" (some FieldType.int) _ := C
  refine g_lv (lv1 := [(0, .ref h), (1, .int p0), (2, .int p1), (3, .int p2), (4, .int p3), (5, .int p4)]) [0, 1, 2, 3, 4, 5] rfl ?_
  refine g_aload_n C 0 rfl d_Mo_feed_0 ?_
  refine g_get C 0 rfl rfl in_Mo 7 (by decide) kw_1027 rfl d_Mo_feed_1 ?_
  refine g_bipush (v := 20) C rfl d_Mo_feed_4 ?_
  refine g_iadd C d_Mo_feed_6 ?_
  refine g_eq (st1 := [.int (nI (t + 20))]) (congrArg (fun z => Value.int z :: []) (nI_add t 20)) rfl ?_
  refine g_sipush (v := 300) C rfl d_Mo_feed_7 ?_
  refine g_icmp_le C d_Mo_feed_10 (fun c_1 => ?_) (fun c_1 => ?_)
  · skip
    have n_1 : t + 20 ≤ 300 := (nI_leI (a := (t + 20)) (b := 300) (by omega) (by omega)).mp c_1
    refine g_iconst (v := 0) C rfl d_Mo_feed_15 ?_
    refine g_istore (lv1 := [(0, .ref h), (1, .int p0), (2, .int p1), (3, .int p2), (4, .int p3), (5, .int p4), (6, .int 0)]) C d_Mo_feed_16 [1, 2, 3, 4, 5, 6, 0] (by decide) rfl ?_
    refine g_iload C 6 rfl d_Mo_feed_18 ?_
    refine g_bipush (v := 20) C rfl d_Mo_feed_20 ?_
    refine g_icmp_ge C d_Mo_feed_22 (fun c_2 => absurd c_2 (by decide)) (fun _ => ?_)
    refine g_iload C 6 rfl d_Mo_feed_25 ?_
    refine g_iconst (v := 4) C rfl d_Mo_feed_27 ?_
    refine g_icmp_ge C d_Mo_feed_28 (fun c_3 => absurd c_3 (by decide)) (fun _ => ?_)
    refine g_iload_n C 1 rfl d_Mo_feed_31 ?_
    refine g_goto C d_Mo_feed_32 ?_
    refine g_istore (lv1 := [(0, .ref h), (1, .int p0), (2, .int p1), (3, .int p2), (4, .int p3), (5, .int p4), (6, .int 0), (7, .int p0)]) C d_Mo_feed_71 [1, 2, 3, 4, 5, 6, 7, 0] (by decide) rfl ?_
    refine g_aload_n C 0 rfl d_Mo_feed_73 ?_
    refine g_get C 0 rfl rfl in_Mo 5 (by decide) kw_1025 rfl d_Mo_feed_74 ?_
    refine g_aload_n C 0 rfl d_Mo_feed_77 ?_
    refine g_get C 0 rfl rfl in_Mo 7 (by decide) kw_1027 rfl d_Mo_feed_78 ?_
    refine g_iload C 6 rfl d_Mo_feed_81 ?_
    refine g_iadd C d_Mo_feed_83 ?_
    refine g_eq (st1 := [.int (nI (t + 0)), .ref r5]) (congrArg (fun z => Value.int z :: [.ref r5]) (nI_add t 0)) rfl ?_
    refine g_iload C 7 rfl d_Mo_feed_84 ?_
    refine g_bipush (v := 24) C rfl d_Mo_feed_86 ?_
    refine g_bipush (v := 8) C rfl d_Mo_feed_88 ?_
    refine g_iload C 6 rfl d_Mo_feed_90 ?_
    refine g_iconst (v := 3) C rfl d_Mo_feed_92 ?_
    refine g_iand C d_Mo_feed_93 ?_
    refine g_eq (st1 := [.int 0, .int 8, .int 24, .int p0, .int (nI (t + 0)), .ref r5]) (congrArg (fun z => Value.int z :: [.int 8, .int 24, .int p0, .int (nI (t + 0)), .ref r5]) (by decide)) rfl ?_
    refine g_imul C d_Mo_feed_94 ?_
    refine g_eq (st1 := [.int 0, .int 24, .int p0, .int (nI (t + 0)), .ref r5]) (congrArg (fun z => Value.int z :: [.int 24, .int p0, .int (nI (t + 0)), .ref r5]) (by decide)) rfl ?_
    refine g_isub C d_Mo_feed_95 ?_
    refine g_eq (st1 := [.int 24, .int p0, .int (nI (t + 0)), .ref r5]) (congrArg (fun z => Value.int z :: [.int p0, .int (nI (t + 0)), .ref r5]) (by decide)) rfl ?_
    refine g_ishr C d_Mo_feed_96 ?_
    refine g_i2b C d_Mo_feed_97 ?_
    refine g_bast (X1 := [(h, .inr (13, [.ref r0, .ref r1, .ref r2, .int mn, .int dt, .ref r5, .ref r6, .int (nI t), .int sz, .int fk, .int fp, .int at1, .int en, .int tk, .int nu, .long nm, .ref r16, .ref r17, .ref r18, .ref r19, .ref r20, .ref r21, .ref r22, .ref r23, .int fl, .ref r25, .int wa, .ref r27, .ref r28, .ref r29, .ref r30, .ref r31, .int co, .ref r33, .ref r34, .ref r35, .ref r36, .ref r37, .ref r38, .ref r39, .ref r40, .int db])), (r5, .inl (g.2.1 2, 320, .inl (upd tf (Int32.toNatClampNeg (nI (t + 0))) (vp_nar .byte (Int8.toInt32 (Int32.toInt8 (p0 >>> (24 &&& 31))))))))]) C 1 rfl (vp_in_nI (by omega) (by decide)) rfl d_Mo_feed_98 ?_
    refine g_eq (X1 := [(h, .inr (13, [.ref r0, .ref r1, .ref r2, .int mn, .int dt, .ref r5, .ref r6, .int (nI t), .int sz, .int fk, .int fp, .int at1, .int en, .int tk, .int nu, .long nm, .ref r16, .ref r17, .ref r18, .ref r19, .ref r20, .ref r21, .ref r22, .ref r23, .int fl, .ref r25, .int wa, .ref r27, .ref r28, .ref r29, .ref r30, .ref r31, .int co, .ref r33, .ref r34, .ref r35, .ref r36, .ref r37, .ref r38, .ref r39, .ref r40, .int db])), (r5, .inl (g.2.1 2, 320, .inl (upd tf (t + 0) (vp_nar .byte (Int8.toInt32 (Int32.toInt8 (p0 >>> (24 &&& 31))))))))]) rfl (by rw [nI_clamp (by omega)]) ?_
    refine g_iinc (v := 1) (lv1 := [(0, .ref h), (1, .int p0), (2, .int p1), (3, .int p2), (4, .int p3), (5, .int p4), (6, .int 1), (7, .int p0)]) C d_Mo_feed_99 6 rfl (by decide) [1, 2, 3, 4, 5, 6, 0, 7] (by decide) rfl ?_
    refine g_goto C d_Mo_feed_102 ?_
    refine g_iload C 6 rfl d_Mo_feed_18 ?_
    refine g_bipush (v := 20) C rfl d_Mo_feed_20 ?_
    refine g_icmp_ge C d_Mo_feed_22 (fun c_4 => absurd c_4 (by decide)) (fun _ => ?_)
    refine g_iload C 6 rfl d_Mo_feed_25 ?_
    refine g_iconst (v := 4) C rfl d_Mo_feed_27 ?_
    refine g_icmp_ge C d_Mo_feed_28 (fun c_5 => absurd c_5 (by decide)) (fun _ => ?_)
    refine g_iload_n C 1 rfl d_Mo_feed_31 ?_
    refine g_goto C d_Mo_feed_32 ?_
    refine g_istore (lv1 := [(0, .ref h), (1, .int p0), (2, .int p1), (3, .int p2), (4, .int p3), (5, .int p4), (6, .int 1), (7, .int p0)]) C d_Mo_feed_71 [1, 2, 3, 4, 5, 6, 7, 0] (by decide) rfl ?_
    refine g_aload_n C 0 rfl d_Mo_feed_73 ?_
    refine g_get C 0 rfl rfl in_Mo 5 (by decide) kw_1025 rfl d_Mo_feed_74 ?_
    refine g_aload_n C 0 rfl d_Mo_feed_77 ?_
    refine g_get C 0 rfl rfl in_Mo 7 (by decide) kw_1027 rfl d_Mo_feed_78 ?_
    refine g_iload C 6 rfl d_Mo_feed_81 ?_
    refine g_iadd C d_Mo_feed_83 ?_
    refine g_eq (st1 := [.int (nI (t + 1)), .ref r5]) (congrArg (fun z => Value.int z :: [.ref r5]) (nI_add t 1)) rfl ?_
    refine g_iload C 7 rfl d_Mo_feed_84 ?_
    refine g_bipush (v := 24) C rfl d_Mo_feed_86 ?_
    refine g_bipush (v := 8) C rfl d_Mo_feed_88 ?_
    refine g_iload C 6 rfl d_Mo_feed_90 ?_
    refine g_iconst (v := 3) C rfl d_Mo_feed_92 ?_
    refine g_iand C d_Mo_feed_93 ?_
    refine g_eq (st1 := [.int 1, .int 8, .int 24, .int p0, .int (nI (t + 1)), .ref r5]) (congrArg (fun z => Value.int z :: [.int 8, .int 24, .int p0, .int (nI (t + 1)), .ref r5]) (by decide)) rfl ?_
    refine g_imul C d_Mo_feed_94 ?_
    refine g_eq (st1 := [.int 8, .int 24, .int p0, .int (nI (t + 1)), .ref r5]) (congrArg (fun z => Value.int z :: [.int 24, .int p0, .int (nI (t + 1)), .ref r5]) (by decide)) rfl ?_
    refine g_isub C d_Mo_feed_95 ?_
    refine g_eq (st1 := [.int 16, .int p0, .int (nI (t + 1)), .ref r5]) (congrArg (fun z => Value.int z :: [.int p0, .int (nI (t + 1)), .ref r5]) (by decide)) rfl ?_
    refine g_ishr C d_Mo_feed_96 ?_
    refine g_i2b C d_Mo_feed_97 ?_
    refine g_bast (X1 := [(h, .inr (13, [.ref r0, .ref r1, .ref r2, .int mn, .int dt, .ref r5, .ref r6, .int (nI t), .int sz, .int fk, .int fp, .int at1, .int en, .int tk, .int nu, .long nm, .ref r16, .ref r17, .ref r18, .ref r19, .ref r20, .ref r21, .ref r22, .ref r23, .int fl, .ref r25, .int wa, .ref r27, .ref r28, .ref r29, .ref r30, .ref r31, .int co, .ref r33, .ref r34, .ref r35, .ref r36, .ref r37, .ref r38, .ref r39, .ref r40, .int db])), (r5, .inl (g.2.1 2, 320, .inl (upd (upd tf (t + 0) (vp_nar .byte (Int8.toInt32 (Int32.toInt8 (p0 >>> (24 &&& 31)))))) (Int32.toNatClampNeg (nI (t + 1))) (vp_nar .byte (Int8.toInt32 (Int32.toInt8 (p0 >>> (16 &&& 31))))))))]) C 1 rfl (vp_in_nI (by omega) (by decide)) rfl d_Mo_feed_98 ?_
    refine g_eq (X1 := [(h, .inr (13, [.ref r0, .ref r1, .ref r2, .int mn, .int dt, .ref r5, .ref r6, .int (nI t), .int sz, .int fk, .int fp, .int at1, .int en, .int tk, .int nu, .long nm, .ref r16, .ref r17, .ref r18, .ref r19, .ref r20, .ref r21, .ref r22, .ref r23, .int fl, .ref r25, .int wa, .ref r27, .ref r28, .ref r29, .ref r30, .ref r31, .int co, .ref r33, .ref r34, .ref r35, .ref r36, .ref r37, .ref r38, .ref r39, .ref r40, .int db])), (r5, .inl (g.2.1 2, 320, .inl (upd (upd tf (t + 0) (vp_nar .byte (Int8.toInt32 (Int32.toInt8 (p0 >>> (24 &&& 31)))))) (t + 1) (vp_nar .byte (Int8.toInt32 (Int32.toInt8 (p0 >>> (16 &&& 31))))))))]) rfl (by rw [nI_clamp (by omega)]) ?_
    refine g_iinc (v := 2) (lv1 := [(0, .ref h), (1, .int p0), (2, .int p1), (3, .int p2), (4, .int p3), (5, .int p4), (6, .int 2), (7, .int p0)]) C d_Mo_feed_99 6 rfl (by decide) [1, 2, 3, 4, 5, 6, 0, 7] (by decide) rfl ?_
    refine g_goto C d_Mo_feed_102 ?_
    refine g_iload C 6 rfl d_Mo_feed_18 ?_
    refine g_bipush (v := 20) C rfl d_Mo_feed_20 ?_
    refine g_icmp_ge C d_Mo_feed_22 (fun c_6 => absurd c_6 (by decide)) (fun _ => ?_)
    refine g_iload C 6 rfl d_Mo_feed_25 ?_
    refine g_iconst (v := 4) C rfl d_Mo_feed_27 ?_
    refine g_icmp_ge C d_Mo_feed_28 (fun c_7 => absurd c_7 (by decide)) (fun _ => ?_)
    refine g_iload_n C 1 rfl d_Mo_feed_31 ?_
    refine g_goto C d_Mo_feed_32 ?_
    refine g_istore (lv1 := [(0, .ref h), (1, .int p0), (2, .int p1), (3, .int p2), (4, .int p3), (5, .int p4), (6, .int 2), (7, .int p0)]) C d_Mo_feed_71 [1, 2, 3, 4, 5, 6, 7, 0] (by decide) rfl ?_
    refine g_aload_n C 0 rfl d_Mo_feed_73 ?_
    refine g_get C 0 rfl rfl in_Mo 5 (by decide) kw_1025 rfl d_Mo_feed_74 ?_
    refine g_aload_n C 0 rfl d_Mo_feed_77 ?_
    refine g_get C 0 rfl rfl in_Mo 7 (by decide) kw_1027 rfl d_Mo_feed_78 ?_
    refine g_iload C 6 rfl d_Mo_feed_81 ?_
    refine g_iadd C d_Mo_feed_83 ?_
    refine g_eq (st1 := [.int (nI (t + 2)), .ref r5]) (congrArg (fun z => Value.int z :: [.ref r5]) (nI_add t 2)) rfl ?_
    refine g_iload C 7 rfl d_Mo_feed_84 ?_
    refine g_bipush (v := 24) C rfl d_Mo_feed_86 ?_
    refine g_bipush (v := 8) C rfl d_Mo_feed_88 ?_
    refine g_iload C 6 rfl d_Mo_feed_90 ?_
    refine g_iconst (v := 3) C rfl d_Mo_feed_92 ?_
    refine g_iand C d_Mo_feed_93 ?_
    refine g_eq (st1 := [.int 2, .int 8, .int 24, .int p0, .int (nI (t + 2)), .ref r5]) (congrArg (fun z => Value.int z :: [.int 8, .int 24, .int p0, .int (nI (t + 2)), .ref r5]) (by decide)) rfl ?_
    refine g_imul C d_Mo_feed_94 ?_
    refine g_eq (st1 := [.int 16, .int 24, .int p0, .int (nI (t + 2)), .ref r5]) (congrArg (fun z => Value.int z :: [.int 24, .int p0, .int (nI (t + 2)), .ref r5]) (by decide)) rfl ?_
    refine g_isub C d_Mo_feed_95 ?_
    refine g_eq (st1 := [.int 8, .int p0, .int (nI (t + 2)), .ref r5]) (congrArg (fun z => Value.int z :: [.int p0, .int (nI (t + 2)), .ref r5]) (by decide)) rfl ?_
    refine g_ishr C d_Mo_feed_96 ?_
    refine g_i2b C d_Mo_feed_97 ?_
    refine g_bast (X1 := [(h, .inr (13, [.ref r0, .ref r1, .ref r2, .int mn, .int dt, .ref r5, .ref r6, .int (nI t), .int sz, .int fk, .int fp, .int at1, .int en, .int tk, .int nu, .long nm, .ref r16, .ref r17, .ref r18, .ref r19, .ref r20, .ref r21, .ref r22, .ref r23, .int fl, .ref r25, .int wa, .ref r27, .ref r28, .ref r29, .ref r30, .ref r31, .int co, .ref r33, .ref r34, .ref r35, .ref r36, .ref r37, .ref r38, .ref r39, .ref r40, .int db])), (r5, .inl (g.2.1 2, 320, .inl (upd (upd (upd tf (t + 0) (vp_nar .byte (Int8.toInt32 (Int32.toInt8 (p0 >>> (24 &&& 31)))))) (t + 1) (vp_nar .byte (Int8.toInt32 (Int32.toInt8 (p0 >>> (16 &&& 31)))))) (Int32.toNatClampNeg (nI (t + 2))) (vp_nar .byte (Int8.toInt32 (Int32.toInt8 (p0 >>> (8 &&& 31))))))))]) C 1 rfl (vp_in_nI (by omega) (by decide)) rfl d_Mo_feed_98 ?_
    refine g_eq (X1 := [(h, .inr (13, [.ref r0, .ref r1, .ref r2, .int mn, .int dt, .ref r5, .ref r6, .int (nI t), .int sz, .int fk, .int fp, .int at1, .int en, .int tk, .int nu, .long nm, .ref r16, .ref r17, .ref r18, .ref r19, .ref r20, .ref r21, .ref r22, .ref r23, .int fl, .ref r25, .int wa, .ref r27, .ref r28, .ref r29, .ref r30, .ref r31, .int co, .ref r33, .ref r34, .ref r35, .ref r36, .ref r37, .ref r38, .ref r39, .ref r40, .int db])), (r5, .inl (g.2.1 2, 320, .inl (upd (upd (upd tf (t + 0) (vp_nar .byte (Int8.toInt32 (Int32.toInt8 (p0 >>> (24 &&& 31)))))) (t + 1) (vp_nar .byte (Int8.toInt32 (Int32.toInt8 (p0 >>> (16 &&& 31)))))) (t + 2) (vp_nar .byte (Int8.toInt32 (Int32.toInt8 (p0 >>> (8 &&& 31))))))))]) rfl (by rw [nI_clamp (by omega)]) ?_
    refine g_iinc (v := 3) (lv1 := [(0, .ref h), (1, .int p0), (2, .int p1), (3, .int p2), (4, .int p3), (5, .int p4), (6, .int 3), (7, .int p0)]) C d_Mo_feed_99 6 rfl (by decide) [1, 2, 3, 4, 5, 6, 0, 7] (by decide) rfl ?_
    refine g_goto C d_Mo_feed_102 ?_
    refine g_iload C 6 rfl d_Mo_feed_18 ?_
    refine g_bipush (v := 20) C rfl d_Mo_feed_20 ?_
    refine g_icmp_ge C d_Mo_feed_22 (fun c_8 => absurd c_8 (by decide)) (fun _ => ?_)
    refine g_iload C 6 rfl d_Mo_feed_25 ?_
    refine g_iconst (v := 4) C rfl d_Mo_feed_27 ?_
    refine g_icmp_ge C d_Mo_feed_28 (fun c_9 => absurd c_9 (by decide)) (fun _ => ?_)
    refine g_iload_n C 1 rfl d_Mo_feed_31 ?_
    refine g_goto C d_Mo_feed_32 ?_
    refine g_istore (lv1 := [(0, .ref h), (1, .int p0), (2, .int p1), (3, .int p2), (4, .int p3), (5, .int p4), (6, .int 3), (7, .int p0)]) C d_Mo_feed_71 [1, 2, 3, 4, 5, 6, 7, 0] (by decide) rfl ?_
    refine g_aload_n C 0 rfl d_Mo_feed_73 ?_
    refine g_get C 0 rfl rfl in_Mo 5 (by decide) kw_1025 rfl d_Mo_feed_74 ?_
    refine g_aload_n C 0 rfl d_Mo_feed_77 ?_
    refine g_get C 0 rfl rfl in_Mo 7 (by decide) kw_1027 rfl d_Mo_feed_78 ?_
    refine g_iload C 6 rfl d_Mo_feed_81 ?_
    refine g_iadd C d_Mo_feed_83 ?_
    refine g_eq (st1 := [.int (nI (t + 3)), .ref r5]) (congrArg (fun z => Value.int z :: [.ref r5]) (nI_add t 3)) rfl ?_
    refine g_iload C 7 rfl d_Mo_feed_84 ?_
    refine g_bipush (v := 24) C rfl d_Mo_feed_86 ?_
    refine g_bipush (v := 8) C rfl d_Mo_feed_88 ?_
    refine g_iload C 6 rfl d_Mo_feed_90 ?_
    refine g_iconst (v := 3) C rfl d_Mo_feed_92 ?_
    refine g_iand C d_Mo_feed_93 ?_
    refine g_eq (st1 := [.int 3, .int 8, .int 24, .int p0, .int (nI (t + 3)), .ref r5]) (congrArg (fun z => Value.int z :: [.int 8, .int 24, .int p0, .int (nI (t + 3)), .ref r5]) (by decide)) rfl ?_
    refine g_imul C d_Mo_feed_94 ?_
    refine g_eq (st1 := [.int 24, .int 24, .int p0, .int (nI (t + 3)), .ref r5]) (congrArg (fun z => Value.int z :: [.int 24, .int p0, .int (nI (t + 3)), .ref r5]) (by decide)) rfl ?_
    refine g_isub C d_Mo_feed_95 ?_
    refine g_eq (st1 := [.int 0, .int p0, .int (nI (t + 3)), .ref r5]) (congrArg (fun z => Value.int z :: [.int p0, .int (nI (t + 3)), .ref r5]) (by decide)) rfl ?_
    refine g_ishr C d_Mo_feed_96 ?_
    refine g_i2b C d_Mo_feed_97 ?_
    refine g_bast (X1 := [(h, .inr (13, [.ref r0, .ref r1, .ref r2, .int mn, .int dt, .ref r5, .ref r6, .int (nI t), .int sz, .int fk, .int fp, .int at1, .int en, .int tk, .int nu, .long nm, .ref r16, .ref r17, .ref r18, .ref r19, .ref r20, .ref r21, .ref r22, .ref r23, .int fl, .ref r25, .int wa, .ref r27, .ref r28, .ref r29, .ref r30, .ref r31, .int co, .ref r33, .ref r34, .ref r35, .ref r36, .ref r37, .ref r38, .ref r39, .ref r40, .int db])), (r5, .inl (g.2.1 2, 320, .inl (upd (upd (upd (upd tf (t + 0) (vp_nar .byte (Int8.toInt32 (Int32.toInt8 (p0 >>> (24 &&& 31)))))) (t + 1) (vp_nar .byte (Int8.toInt32 (Int32.toInt8 (p0 >>> (16 &&& 31)))))) (t + 2) (vp_nar .byte (Int8.toInt32 (Int32.toInt8 (p0 >>> (8 &&& 31)))))) (Int32.toNatClampNeg (nI (t + 3))) (vp_nar .byte (Int8.toInt32 (Int32.toInt8 (p0 >>> (0 &&& 31))))))))]) C 1 rfl (vp_in_nI (by omega) (by decide)) rfl d_Mo_feed_98 ?_
    refine g_eq (X1 := [(h, .inr (13, [.ref r0, .ref r1, .ref r2, .int mn, .int dt, .ref r5, .ref r6, .int (nI t), .int sz, .int fk, .int fp, .int at1, .int en, .int tk, .int nu, .long nm, .ref r16, .ref r17, .ref r18, .ref r19, .ref r20, .ref r21, .ref r22, .ref r23, .int fl, .ref r25, .int wa, .ref r27, .ref r28, .ref r29, .ref r30, .ref r31, .int co, .ref r33, .ref r34, .ref r35, .ref r36, .ref r37, .ref r38, .ref r39, .ref r40, .int db])), (r5, .inl (g.2.1 2, 320, .inl (upd (upd (upd (upd tf (t + 0) (vp_nar .byte (Int8.toInt32 (Int32.toInt8 (p0 >>> (24 &&& 31)))))) (t + 1) (vp_nar .byte (Int8.toInt32 (Int32.toInt8 (p0 >>> (16 &&& 31)))))) (t + 2) (vp_nar .byte (Int8.toInt32 (Int32.toInt8 (p0 >>> (8 &&& 31)))))) (t + 3) (vp_nar .byte (Int8.toInt32 (Int32.toInt8 (p0 >>> (0 &&& 31))))))))]) rfl (by rw [nI_clamp (by omega)]) ?_
    refine g_iinc (v := 4) (lv1 := [(0, .ref h), (1, .int p0), (2, .int p1), (3, .int p2), (4, .int p3), (5, .int p4), (6, .int 4), (7, .int p0)]) C d_Mo_feed_99 6 rfl (by decide) [1, 2, 3, 4, 5, 6, 0, 7] (by decide) rfl ?_
    refine g_goto C d_Mo_feed_102 ?_
    refine g_iload C 6 rfl d_Mo_feed_18 ?_
    refine g_bipush (v := 20) C rfl d_Mo_feed_20 ?_
    refine g_icmp_ge C d_Mo_feed_22 (fun c_10 => absurd c_10 (by decide)) (fun _ => ?_)
    refine g_iload C 6 rfl d_Mo_feed_25 ?_
    refine g_iconst (v := 4) C rfl d_Mo_feed_27 ?_
    refine g_icmp_ge C d_Mo_feed_28 (fun _ => ?_) (fun c_11 => absurd c_11 (by decide))
    refine g_iload C 6 rfl d_Mo_feed_35 ?_
    refine g_bipush (v := 8) C rfl d_Mo_feed_37 ?_
    refine g_icmp_ge C d_Mo_feed_39 (fun c_12 => absurd c_12 (by decide)) (fun _ => ?_)
    refine g_iload_n C 2 rfl d_Mo_feed_42 ?_
    refine g_goto C d_Mo_feed_43 ?_
    refine g_istore (lv1 := [(0, .ref h), (1, .int p0), (2, .int p1), (3, .int p2), (4, .int p3), (5, .int p4), (6, .int 4), (7, .int p1)]) C d_Mo_feed_71 [1, 2, 3, 4, 5, 6, 7, 0] (by decide) rfl ?_
    refine g_aload_n C 0 rfl d_Mo_feed_73 ?_
    refine g_get C 0 rfl rfl in_Mo 5 (by decide) kw_1025 rfl d_Mo_feed_74 ?_
    refine g_aload_n C 0 rfl d_Mo_feed_77 ?_
    refine g_get C 0 rfl rfl in_Mo 7 (by decide) kw_1027 rfl d_Mo_feed_78 ?_
    refine g_iload C 6 rfl d_Mo_feed_81 ?_
    refine g_iadd C d_Mo_feed_83 ?_
    refine g_eq (st1 := [.int (nI (t + 4)), .ref r5]) (congrArg (fun z => Value.int z :: [.ref r5]) (nI_add t 4)) rfl ?_
    refine g_iload C 7 rfl d_Mo_feed_84 ?_
    refine g_bipush (v := 24) C rfl d_Mo_feed_86 ?_
    refine g_bipush (v := 8) C rfl d_Mo_feed_88 ?_
    refine g_iload C 6 rfl d_Mo_feed_90 ?_
    refine g_iconst (v := 3) C rfl d_Mo_feed_92 ?_
    refine g_iand C d_Mo_feed_93 ?_
    refine g_eq (st1 := [.int 0, .int 8, .int 24, .int p1, .int (nI (t + 4)), .ref r5]) (congrArg (fun z => Value.int z :: [.int 8, .int 24, .int p1, .int (nI (t + 4)), .ref r5]) (by decide)) rfl ?_
    refine g_imul C d_Mo_feed_94 ?_
    refine g_eq (st1 := [.int 0, .int 24, .int p1, .int (nI (t + 4)), .ref r5]) (congrArg (fun z => Value.int z :: [.int 24, .int p1, .int (nI (t + 4)), .ref r5]) (by decide)) rfl ?_
    refine g_isub C d_Mo_feed_95 ?_
    refine g_eq (st1 := [.int 24, .int p1, .int (nI (t + 4)), .ref r5]) (congrArg (fun z => Value.int z :: [.int p1, .int (nI (t + 4)), .ref r5]) (by decide)) rfl ?_
    refine g_ishr C d_Mo_feed_96 ?_
    refine g_i2b C d_Mo_feed_97 ?_
    refine g_bast (X1 := [(h, .inr (13, [.ref r0, .ref r1, .ref r2, .int mn, .int dt, .ref r5, .ref r6, .int (nI t), .int sz, .int fk, .int fp, .int at1, .int en, .int tk, .int nu, .long nm, .ref r16, .ref r17, .ref r18, .ref r19, .ref r20, .ref r21, .ref r22, .ref r23, .int fl, .ref r25, .int wa, .ref r27, .ref r28, .ref r29, .ref r30, .ref r31, .int co, .ref r33, .ref r34, .ref r35, .ref r36, .ref r37, .ref r38, .ref r39, .ref r40, .int db])), (r5, .inl (g.2.1 2, 320, .inl (upd (upd (upd (upd (upd tf (t + 0) (vp_nar .byte (Int8.toInt32 (Int32.toInt8 (p0 >>> (24 &&& 31)))))) (t + 1) (vp_nar .byte (Int8.toInt32 (Int32.toInt8 (p0 >>> (16 &&& 31)))))) (t + 2) (vp_nar .byte (Int8.toInt32 (Int32.toInt8 (p0 >>> (8 &&& 31)))))) (t + 3) (vp_nar .byte (Int8.toInt32 (Int32.toInt8 (p0 >>> (0 &&& 31)))))) (Int32.toNatClampNeg (nI (t + 4))) (vp_nar .byte (Int8.toInt32 (Int32.toInt8 (p1 >>> (24 &&& 31))))))))]) C 1 rfl (vp_in_nI (by omega) (by decide)) rfl d_Mo_feed_98 ?_
    refine g_eq (X1 := [(h, .inr (13, [.ref r0, .ref r1, .ref r2, .int mn, .int dt, .ref r5, .ref r6, .int (nI t), .int sz, .int fk, .int fp, .int at1, .int en, .int tk, .int nu, .long nm, .ref r16, .ref r17, .ref r18, .ref r19, .ref r20, .ref r21, .ref r22, .ref r23, .int fl, .ref r25, .int wa, .ref r27, .ref r28, .ref r29, .ref r30, .ref r31, .int co, .ref r33, .ref r34, .ref r35, .ref r36, .ref r37, .ref r38, .ref r39, .ref r40, .int db])), (r5, .inl (g.2.1 2, 320, .inl (upd (upd (upd (upd (upd tf (t + 0) (vp_nar .byte (Int8.toInt32 (Int32.toInt8 (p0 >>> (24 &&& 31)))))) (t + 1) (vp_nar .byte (Int8.toInt32 (Int32.toInt8 (p0 >>> (16 &&& 31)))))) (t + 2) (vp_nar .byte (Int8.toInt32 (Int32.toInt8 (p0 >>> (8 &&& 31)))))) (t + 3) (vp_nar .byte (Int8.toInt32 (Int32.toInt8 (p0 >>> (0 &&& 31)))))) (t + 4) (vp_nar .byte (Int8.toInt32 (Int32.toInt8 (p1 >>> (24 &&& 31))))))))]) rfl (by rw [nI_clamp (by omega)]) ?_
    refine g_iinc (v := 5) (lv1 := [(0, .ref h), (1, .int p0), (2, .int p1), (3, .int p2), (4, .int p3), (5, .int p4), (6, .int 5), (7, .int p1)]) C d_Mo_feed_99 6 rfl (by decide) [1, 2, 3, 4, 5, 6, 0, 7] (by decide) rfl ?_
    refine g_goto C d_Mo_feed_102 ?_
    refine g_iload C 6 rfl d_Mo_feed_18 ?_
    refine g_bipush (v := 20) C rfl d_Mo_feed_20 ?_
    refine g_icmp_ge C d_Mo_feed_22 (fun c_13 => absurd c_13 (by decide)) (fun _ => ?_)
    refine g_iload C 6 rfl d_Mo_feed_25 ?_
    refine g_iconst (v := 4) C rfl d_Mo_feed_27 ?_
    refine g_icmp_ge C d_Mo_feed_28 (fun _ => ?_) (fun c_14 => absurd c_14 (by decide))
    refine g_iload C 6 rfl d_Mo_feed_35 ?_
    refine g_bipush (v := 8) C rfl d_Mo_feed_37 ?_
    refine g_icmp_ge C d_Mo_feed_39 (fun c_15 => absurd c_15 (by decide)) (fun _ => ?_)
    refine g_iload_n C 2 rfl d_Mo_feed_42 ?_
    refine g_goto C d_Mo_feed_43 ?_
    refine g_istore (lv1 := [(0, .ref h), (1, .int p0), (2, .int p1), (3, .int p2), (4, .int p3), (5, .int p4), (6, .int 5), (7, .int p1)]) C d_Mo_feed_71 [1, 2, 3, 4, 5, 6, 7, 0] (by decide) rfl ?_
    refine g_aload_n C 0 rfl d_Mo_feed_73 ?_
    refine g_get C 0 rfl rfl in_Mo 5 (by decide) kw_1025 rfl d_Mo_feed_74 ?_
    refine g_aload_n C 0 rfl d_Mo_feed_77 ?_
    refine g_get C 0 rfl rfl in_Mo 7 (by decide) kw_1027 rfl d_Mo_feed_78 ?_
    refine g_iload C 6 rfl d_Mo_feed_81 ?_
    refine g_iadd C d_Mo_feed_83 ?_
    refine g_eq (st1 := [.int (nI (t + 5)), .ref r5]) (congrArg (fun z => Value.int z :: [.ref r5]) (nI_add t 5)) rfl ?_
    refine g_iload C 7 rfl d_Mo_feed_84 ?_
    refine g_bipush (v := 24) C rfl d_Mo_feed_86 ?_
    refine g_bipush (v := 8) C rfl d_Mo_feed_88 ?_
    refine g_iload C 6 rfl d_Mo_feed_90 ?_
    refine g_iconst (v := 3) C rfl d_Mo_feed_92 ?_
    refine g_iand C d_Mo_feed_93 ?_
    refine g_eq (st1 := [.int 1, .int 8, .int 24, .int p1, .int (nI (t + 5)), .ref r5]) (congrArg (fun z => Value.int z :: [.int 8, .int 24, .int p1, .int (nI (t + 5)), .ref r5]) (by decide)) rfl ?_
    refine g_imul C d_Mo_feed_94 ?_
    refine g_eq (st1 := [.int 8, .int 24, .int p1, .int (nI (t + 5)), .ref r5]) (congrArg (fun z => Value.int z :: [.int 24, .int p1, .int (nI (t + 5)), .ref r5]) (by decide)) rfl ?_
    refine g_isub C d_Mo_feed_95 ?_
    refine g_eq (st1 := [.int 16, .int p1, .int (nI (t + 5)), .ref r5]) (congrArg (fun z => Value.int z :: [.int p1, .int (nI (t + 5)), .ref r5]) (by decide)) rfl ?_
    refine g_ishr C d_Mo_feed_96 ?_
    refine g_i2b C d_Mo_feed_97 ?_
    refine g_bast (X1 := [(h, .inr (13, [.ref r0, .ref r1, .ref r2, .int mn, .int dt, .ref r5, .ref r6, .int (nI t), .int sz, .int fk, .int fp, .int at1, .int en, .int tk, .int nu, .long nm, .ref r16, .ref r17, .ref r18, .ref r19, .ref r20, .ref r21, .ref r22, .ref r23, .int fl, .ref r25, .int wa, .ref r27, .ref r28, .ref r29, .ref r30, .ref r31, .int co, .ref r33, .ref r34, .ref r35, .ref r36, .ref r37, .ref r38, .ref r39, .ref r40, .int db])), (r5, .inl (g.2.1 2, 320, .inl (upd (upd (upd (upd (upd (upd tf (t + 0) (vp_nar .byte (Int8.toInt32 (Int32.toInt8 (p0 >>> (24 &&& 31)))))) (t + 1) (vp_nar .byte (Int8.toInt32 (Int32.toInt8 (p0 >>> (16 &&& 31)))))) (t + 2) (vp_nar .byte (Int8.toInt32 (Int32.toInt8 (p0 >>> (8 &&& 31)))))) (t + 3) (vp_nar .byte (Int8.toInt32 (Int32.toInt8 (p0 >>> (0 &&& 31)))))) (t + 4) (vp_nar .byte (Int8.toInt32 (Int32.toInt8 (p1 >>> (24 &&& 31)))))) (Int32.toNatClampNeg (nI (t + 5))) (vp_nar .byte (Int8.toInt32 (Int32.toInt8 (p1 >>> (16 &&& 31))))))))]) C 1 rfl (vp_in_nI (by omega) (by decide)) rfl d_Mo_feed_98 ?_
    refine g_eq (X1 := [(h, .inr (13, [.ref r0, .ref r1, .ref r2, .int mn, .int dt, .ref r5, .ref r6, .int (nI t), .int sz, .int fk, .int fp, .int at1, .int en, .int tk, .int nu, .long nm, .ref r16, .ref r17, .ref r18, .ref r19, .ref r20, .ref r21, .ref r22, .ref r23, .int fl, .ref r25, .int wa, .ref r27, .ref r28, .ref r29, .ref r30, .ref r31, .int co, .ref r33, .ref r34, .ref r35, .ref r36, .ref r37, .ref r38, .ref r39, .ref r40, .int db])), (r5, .inl (g.2.1 2, 320, .inl (upd (upd (upd (upd (upd (upd tf (t + 0) (vp_nar .byte (Int8.toInt32 (Int32.toInt8 (p0 >>> (24 &&& 31)))))) (t + 1) (vp_nar .byte (Int8.toInt32 (Int32.toInt8 (p0 >>> (16 &&& 31)))))) (t + 2) (vp_nar .byte (Int8.toInt32 (Int32.toInt8 (p0 >>> (8 &&& 31)))))) (t + 3) (vp_nar .byte (Int8.toInt32 (Int32.toInt8 (p0 >>> (0 &&& 31)))))) (t + 4) (vp_nar .byte (Int8.toInt32 (Int32.toInt8 (p1 >>> (24 &&& 31)))))) (t + 5) (vp_nar .byte (Int8.toInt32 (Int32.toInt8 (p1 >>> (16 &&& 31))))))))]) rfl (by rw [nI_clamp (by omega)]) ?_
    refine g_iinc (v := 6) (lv1 := [(0, .ref h), (1, .int p0), (2, .int p1), (3, .int p2), (4, .int p3), (5, .int p4), (6, .int 6), (7, .int p1)]) C d_Mo_feed_99 6 rfl (by decide) [1, 2, 3, 4, 5, 6, 0, 7] (by decide) rfl ?_
    refine g_goto C d_Mo_feed_102 ?_
    refine g_iload C 6 rfl d_Mo_feed_18 ?_
    refine g_bipush (v := 20) C rfl d_Mo_feed_20 ?_
    refine g_icmp_ge C d_Mo_feed_22 (fun c_16 => absurd c_16 (by decide)) (fun _ => ?_)
    refine g_iload C 6 rfl d_Mo_feed_25 ?_
    refine g_iconst (v := 4) C rfl d_Mo_feed_27 ?_
    refine g_icmp_ge C d_Mo_feed_28 (fun _ => ?_) (fun c_17 => absurd c_17 (by decide))
    refine g_iload C 6 rfl d_Mo_feed_35 ?_
    refine g_bipush (v := 8) C rfl d_Mo_feed_37 ?_
    refine g_icmp_ge C d_Mo_feed_39 (fun c_18 => absurd c_18 (by decide)) (fun _ => ?_)
    refine g_iload_n C 2 rfl d_Mo_feed_42 ?_
    refine g_goto C d_Mo_feed_43 ?_
    refine g_istore (lv1 := [(0, .ref h), (1, .int p0), (2, .int p1), (3, .int p2), (4, .int p3), (5, .int p4), (6, .int 6), (7, .int p1)]) C d_Mo_feed_71 [1, 2, 3, 4, 5, 6, 7, 0] (by decide) rfl ?_
    refine g_aload_n C 0 rfl d_Mo_feed_73 ?_
    refine g_get C 0 rfl rfl in_Mo 5 (by decide) kw_1025 rfl d_Mo_feed_74 ?_
    refine g_aload_n C 0 rfl d_Mo_feed_77 ?_
    refine g_get C 0 rfl rfl in_Mo 7 (by decide) kw_1027 rfl d_Mo_feed_78 ?_
    refine g_iload C 6 rfl d_Mo_feed_81 ?_
    refine g_iadd C d_Mo_feed_83 ?_
    refine g_eq (st1 := [.int (nI (t + 6)), .ref r5]) (congrArg (fun z => Value.int z :: [.ref r5]) (nI_add t 6)) rfl ?_
    refine g_iload C 7 rfl d_Mo_feed_84 ?_
    refine g_bipush (v := 24) C rfl d_Mo_feed_86 ?_
    refine g_bipush (v := 8) C rfl d_Mo_feed_88 ?_
    refine g_iload C 6 rfl d_Mo_feed_90 ?_
    refine g_iconst (v := 3) C rfl d_Mo_feed_92 ?_
    refine g_iand C d_Mo_feed_93 ?_
    refine g_eq (st1 := [.int 2, .int 8, .int 24, .int p1, .int (nI (t + 6)), .ref r5]) (congrArg (fun z => Value.int z :: [.int 8, .int 24, .int p1, .int (nI (t + 6)), .ref r5]) (by decide)) rfl ?_
    refine g_imul C d_Mo_feed_94 ?_
    refine g_eq (st1 := [.int 16, .int 24, .int p1, .int (nI (t + 6)), .ref r5]) (congrArg (fun z => Value.int z :: [.int 24, .int p1, .int (nI (t + 6)), .ref r5]) (by decide)) rfl ?_
    refine g_isub C d_Mo_feed_95 ?_
    refine g_eq (st1 := [.int 8, .int p1, .int (nI (t + 6)), .ref r5]) (congrArg (fun z => Value.int z :: [.int p1, .int (nI (t + 6)), .ref r5]) (by decide)) rfl ?_
    refine g_ishr C d_Mo_feed_96 ?_
    refine g_i2b C d_Mo_feed_97 ?_
    refine g_bast (X1 := [(h, .inr (13, [.ref r0, .ref r1, .ref r2, .int mn, .int dt, .ref r5, .ref r6, .int (nI t), .int sz, .int fk, .int fp, .int at1, .int en, .int tk, .int nu, .long nm, .ref r16, .ref r17, .ref r18, .ref r19, .ref r20, .ref r21, .ref r22, .ref r23, .int fl, .ref r25, .int wa, .ref r27, .ref r28, .ref r29, .ref r30, .ref r31, .int co, .ref r33, .ref r34, .ref r35, .ref r36, .ref r37, .ref r38, .ref r39, .ref r40, .int db])), (r5, .inl (g.2.1 2, 320, .inl (upd (upd (upd (upd (upd (upd (upd tf (t + 0) (vp_nar .byte (Int8.toInt32 (Int32.toInt8 (p0 >>> (24 &&& 31)))))) (t + 1) (vp_nar .byte (Int8.toInt32 (Int32.toInt8 (p0 >>> (16 &&& 31)))))) (t + 2) (vp_nar .byte (Int8.toInt32 (Int32.toInt8 (p0 >>> (8 &&& 31)))))) (t + 3) (vp_nar .byte (Int8.toInt32 (Int32.toInt8 (p0 >>> (0 &&& 31)))))) (t + 4) (vp_nar .byte (Int8.toInt32 (Int32.toInt8 (p1 >>> (24 &&& 31)))))) (t + 5) (vp_nar .byte (Int8.toInt32 (Int32.toInt8 (p1 >>> (16 &&& 31)))))) (Int32.toNatClampNeg (nI (t + 6))) (vp_nar .byte (Int8.toInt32 (Int32.toInt8 (p1 >>> (8 &&& 31))))))))]) C 1 rfl (vp_in_nI (by omega) (by decide)) rfl d_Mo_feed_98 ?_
    refine g_eq (X1 := [(h, .inr (13, [.ref r0, .ref r1, .ref r2, .int mn, .int dt, .ref r5, .ref r6, .int (nI t), .int sz, .int fk, .int fp, .int at1, .int en, .int tk, .int nu, .long nm, .ref r16, .ref r17, .ref r18, .ref r19, .ref r20, .ref r21, .ref r22, .ref r23, .int fl, .ref r25, .int wa, .ref r27, .ref r28, .ref r29, .ref r30, .ref r31, .int co, .ref r33, .ref r34, .ref r35, .ref r36, .ref r37, .ref r38, .ref r39, .ref r40, .int db])), (r5, .inl (g.2.1 2, 320, .inl (upd (upd (upd (upd (upd (upd (upd tf (t + 0) (vp_nar .byte (Int8.toInt32 (Int32.toInt8 (p0 >>> (24 &&& 31)))))) (t + 1) (vp_nar .byte (Int8.toInt32 (Int32.toInt8 (p0 >>> (16 &&& 31)))))) (t + 2) (vp_nar .byte (Int8.toInt32 (Int32.toInt8 (p0 >>> (8 &&& 31)))))) (t + 3) (vp_nar .byte (Int8.toInt32 (Int32.toInt8 (p0 >>> (0 &&& 31)))))) (t + 4) (vp_nar .byte (Int8.toInt32 (Int32.toInt8 (p1 >>> (24 &&& 31)))))) (t + 5) (vp_nar .byte (Int8.toInt32 (Int32.toInt8 (p1 >>> (16 &&& 31)))))) (t + 6) (vp_nar .byte (Int8.toInt32 (Int32.toInt8 (p1 >>> (8 &&& 31))))))))]) rfl (by rw [nI_clamp (by omega)]) ?_
    refine g_iinc (v := 7) (lv1 := [(0, .ref h), (1, .int p0), (2, .int p1), (3, .int p2), (4, .int p3), (5, .int p4), (6, .int 7), (7, .int p1)]) C d_Mo_feed_99 6 rfl (by decide) [1, 2, 3, 4, 5, 6, 0, 7] (by decide) rfl ?_
    refine g_goto C d_Mo_feed_102 ?_
    refine g_iload C 6 rfl d_Mo_feed_18 ?_
    refine g_bipush (v := 20) C rfl d_Mo_feed_20 ?_
    refine g_icmp_ge C d_Mo_feed_22 (fun c_19 => absurd c_19 (by decide)) (fun _ => ?_)
    refine g_iload C 6 rfl d_Mo_feed_25 ?_
    refine g_iconst (v := 4) C rfl d_Mo_feed_27 ?_
    refine g_icmp_ge C d_Mo_feed_28 (fun _ => ?_) (fun c_20 => absurd c_20 (by decide))
    refine g_iload C 6 rfl d_Mo_feed_35 ?_
    refine g_bipush (v := 8) C rfl d_Mo_feed_37 ?_
    refine g_icmp_ge C d_Mo_feed_39 (fun c_21 => absurd c_21 (by decide)) (fun _ => ?_)
    refine g_iload_n C 2 rfl d_Mo_feed_42 ?_
    refine g_goto C d_Mo_feed_43 ?_
    refine g_istore (lv1 := [(0, .ref h), (1, .int p0), (2, .int p1), (3, .int p2), (4, .int p3), (5, .int p4), (6, .int 7), (7, .int p1)]) C d_Mo_feed_71 [1, 2, 3, 4, 5, 6, 7, 0] (by decide) rfl ?_
    refine g_aload_n C 0 rfl d_Mo_feed_73 ?_
    refine g_get C 0 rfl rfl in_Mo 5 (by decide) kw_1025 rfl d_Mo_feed_74 ?_
    refine g_aload_n C 0 rfl d_Mo_feed_77 ?_
    refine g_get C 0 rfl rfl in_Mo 7 (by decide) kw_1027 rfl d_Mo_feed_78 ?_
    refine g_iload C 6 rfl d_Mo_feed_81 ?_
    refine g_iadd C d_Mo_feed_83 ?_
    refine g_eq (st1 := [.int (nI (t + 7)), .ref r5]) (congrArg (fun z => Value.int z :: [.ref r5]) (nI_add t 7)) rfl ?_
    refine g_iload C 7 rfl d_Mo_feed_84 ?_
    refine g_bipush (v := 24) C rfl d_Mo_feed_86 ?_
    refine g_bipush (v := 8) C rfl d_Mo_feed_88 ?_
    refine g_iload C 6 rfl d_Mo_feed_90 ?_
    refine g_iconst (v := 3) C rfl d_Mo_feed_92 ?_
    refine g_iand C d_Mo_feed_93 ?_
    refine g_eq (st1 := [.int 3, .int 8, .int 24, .int p1, .int (nI (t + 7)), .ref r5]) (congrArg (fun z => Value.int z :: [.int 8, .int 24, .int p1, .int (nI (t + 7)), .ref r5]) (by decide)) rfl ?_
    refine g_imul C d_Mo_feed_94 ?_
    refine g_eq (st1 := [.int 24, .int 24, .int p1, .int (nI (t + 7)), .ref r5]) (congrArg (fun z => Value.int z :: [.int 24, .int p1, .int (nI (t + 7)), .ref r5]) (by decide)) rfl ?_
    refine g_isub C d_Mo_feed_95 ?_
    refine g_eq (st1 := [.int 0, .int p1, .int (nI (t + 7)), .ref r5]) (congrArg (fun z => Value.int z :: [.int p1, .int (nI (t + 7)), .ref r5]) (by decide)) rfl ?_
    refine g_ishr C d_Mo_feed_96 ?_
    refine g_i2b C d_Mo_feed_97 ?_
    refine g_bast (X1 := [(h, .inr (13, [.ref r0, .ref r1, .ref r2, .int mn, .int dt, .ref r5, .ref r6, .int (nI t), .int sz, .int fk, .int fp, .int at1, .int en, .int tk, .int nu, .long nm, .ref r16, .ref r17, .ref r18, .ref r19, .ref r20, .ref r21, .ref r22, .ref r23, .int fl, .ref r25, .int wa, .ref r27, .ref r28, .ref r29, .ref r30, .ref r31, .int co, .ref r33, .ref r34, .ref r35, .ref r36, .ref r37, .ref r38, .ref r39, .ref r40, .int db])), (r5, .inl (g.2.1 2, 320, .inl (upd (upd (upd (upd (upd (upd (upd (upd tf (t + 0) (vp_nar .byte (Int8.toInt32 (Int32.toInt8 (p0 >>> (24 &&& 31)))))) (t + 1) (vp_nar .byte (Int8.toInt32 (Int32.toInt8 (p0 >>> (16 &&& 31)))))) (t + 2) (vp_nar .byte (Int8.toInt32 (Int32.toInt8 (p0 >>> (8 &&& 31)))))) (t + 3) (vp_nar .byte (Int8.toInt32 (Int32.toInt8 (p0 >>> (0 &&& 31)))))) (t + 4) (vp_nar .byte (Int8.toInt32 (Int32.toInt8 (p1 >>> (24 &&& 31)))))) (t + 5) (vp_nar .byte (Int8.toInt32 (Int32.toInt8 (p1 >>> (16 &&& 31)))))) (t + 6) (vp_nar .byte (Int8.toInt32 (Int32.toInt8 (p1 >>> (8 &&& 31)))))) (Int32.toNatClampNeg (nI (t + 7))) (vp_nar .byte (Int8.toInt32 (Int32.toInt8 (p1 >>> (0 &&& 31))))))))]) C 1 rfl (vp_in_nI (by omega) (by decide)) rfl d_Mo_feed_98 ?_
    refine g_eq (X1 := [(h, .inr (13, [.ref r0, .ref r1, .ref r2, .int mn, .int dt, .ref r5, .ref r6, .int (nI t), .int sz, .int fk, .int fp, .int at1, .int en, .int tk, .int nu, .long nm, .ref r16, .ref r17, .ref r18, .ref r19, .ref r20, .ref r21, .ref r22, .ref r23, .int fl, .ref r25, .int wa, .ref r27, .ref r28, .ref r29, .ref r30, .ref r31, .int co, .ref r33, .ref r34, .ref r35, .ref r36, .ref r37, .ref r38, .ref r39, .ref r40, .int db])), (r5, .inl (g.2.1 2, 320, .inl (upd (upd (upd (upd (upd (upd (upd (upd tf (t + 0) (vp_nar .byte (Int8.toInt32 (Int32.toInt8 (p0 >>> (24 &&& 31)))))) (t + 1) (vp_nar .byte (Int8.toInt32 (Int32.toInt8 (p0 >>> (16 &&& 31)))))) (t + 2) (vp_nar .byte (Int8.toInt32 (Int32.toInt8 (p0 >>> (8 &&& 31)))))) (t + 3) (vp_nar .byte (Int8.toInt32 (Int32.toInt8 (p0 >>> (0 &&& 31)))))) (t + 4) (vp_nar .byte (Int8.toInt32 (Int32.toInt8 (p1 >>> (24 &&& 31)))))) (t + 5) (vp_nar .byte (Int8.toInt32 (Int32.toInt8 (p1 >>> (16 &&& 31)))))) (t + 6) (vp_nar .byte (Int8.toInt32 (Int32.toInt8 (p1 >>> (8 &&& 31)))))) (t + 7) (vp_nar .byte (Int8.toInt32 (Int32.toInt8 (p1 >>> (0 &&& 31))))))))]) rfl (by rw [nI_clamp (by omega)]) ?_
    refine g_iinc (v := 8) (lv1 := [(0, .ref h), (1, .int p0), (2, .int p1), (3, .int p2), (4, .int p3), (5, .int p4), (6, .int 8), (7, .int p1)]) C d_Mo_feed_99 6 rfl (by decide) [1, 2, 3, 4, 5, 6, 0, 7] (by decide) rfl ?_
    refine g_goto C d_Mo_feed_102 ?_
    refine g_iload C 6 rfl d_Mo_feed_18 ?_
    refine g_bipush (v := 20) C rfl d_Mo_feed_20 ?_
    refine g_icmp_ge C d_Mo_feed_22 (fun c_22 => absurd c_22 (by decide)) (fun _ => ?_)
    refine g_iload C 6 rfl d_Mo_feed_25 ?_
    refine g_iconst (v := 4) C rfl d_Mo_feed_27 ?_
    refine g_icmp_ge C d_Mo_feed_28 (fun _ => ?_) (fun c_23 => absurd c_23 (by decide))
    refine g_iload C 6 rfl d_Mo_feed_35 ?_
    refine g_bipush (v := 8) C rfl d_Mo_feed_37 ?_
    refine g_icmp_ge C d_Mo_feed_39 (fun _ => ?_) (fun c_24 => absurd c_24 (by decide))
    refine g_iload C 6 rfl d_Mo_feed_46 ?_
    refine g_bipush (v := 12) C rfl d_Mo_feed_48 ?_
    refine g_icmp_ge C d_Mo_feed_50 (fun c_25 => absurd c_25 (by decide)) (fun _ => ?_)
    refine g_iload_n C 3 rfl d_Mo_feed_53 ?_
    refine g_goto C d_Mo_feed_54 ?_
    refine g_istore (lv1 := [(0, .ref h), (1, .int p0), (2, .int p1), (3, .int p2), (4, .int p3), (5, .int p4), (6, .int 8), (7, .int p2)]) C d_Mo_feed_71 [1, 2, 3, 4, 5, 6, 7, 0] (by decide) rfl ?_
    refine g_aload_n C 0 rfl d_Mo_feed_73 ?_
    refine g_get C 0 rfl rfl in_Mo 5 (by decide) kw_1025 rfl d_Mo_feed_74 ?_
    refine g_aload_n C 0 rfl d_Mo_feed_77 ?_
    refine g_get C 0 rfl rfl in_Mo 7 (by decide) kw_1027 rfl d_Mo_feed_78 ?_
    refine g_iload C 6 rfl d_Mo_feed_81 ?_
    refine g_iadd C d_Mo_feed_83 ?_
    refine g_eq (st1 := [.int (nI (t + 8)), .ref r5]) (congrArg (fun z => Value.int z :: [.ref r5]) (nI_add t 8)) rfl ?_
    refine g_iload C 7 rfl d_Mo_feed_84 ?_
    refine g_bipush (v := 24) C rfl d_Mo_feed_86 ?_
    refine g_bipush (v := 8) C rfl d_Mo_feed_88 ?_
    refine g_iload C 6 rfl d_Mo_feed_90 ?_
    refine g_iconst (v := 3) C rfl d_Mo_feed_92 ?_
    refine g_iand C d_Mo_feed_93 ?_
    refine g_eq (st1 := [.int 0, .int 8, .int 24, .int p2, .int (nI (t + 8)), .ref r5]) (congrArg (fun z => Value.int z :: [.int 8, .int 24, .int p2, .int (nI (t + 8)), .ref r5]) (by decide)) rfl ?_
    refine g_imul C d_Mo_feed_94 ?_
    refine g_eq (st1 := [.int 0, .int 24, .int p2, .int (nI (t + 8)), .ref r5]) (congrArg (fun z => Value.int z :: [.int 24, .int p2, .int (nI (t + 8)), .ref r5]) (by decide)) rfl ?_
    refine g_isub C d_Mo_feed_95 ?_
    refine g_eq (st1 := [.int 24, .int p2, .int (nI (t + 8)), .ref r5]) (congrArg (fun z => Value.int z :: [.int p2, .int (nI (t + 8)), .ref r5]) (by decide)) rfl ?_
    refine g_ishr C d_Mo_feed_96 ?_
    refine g_i2b C d_Mo_feed_97 ?_
    refine g_bast (X1 := [(h, .inr (13, [.ref r0, .ref r1, .ref r2, .int mn, .int dt, .ref r5, .ref r6, .int (nI t), .int sz, .int fk, .int fp, .int at1, .int en, .int tk, .int nu, .long nm, .ref r16, .ref r17, .ref r18, .ref r19, .ref r20, .ref r21, .ref r22, .ref r23, .int fl, .ref r25, .int wa, .ref r27, .ref r28, .ref r29, .ref r30, .ref r31, .int co, .ref r33, .ref r34, .ref r35, .ref r36, .ref r37, .ref r38, .ref r39, .ref r40, .int db])), (r5, .inl (g.2.1 2, 320, .inl (upd (upd (upd (upd (upd (upd (upd (upd (upd tf (t + 0) (vp_nar .byte (Int8.toInt32 (Int32.toInt8 (p0 >>> (24 &&& 31)))))) (t + 1) (vp_nar .byte (Int8.toInt32 (Int32.toInt8 (p0 >>> (16 &&& 31)))))) (t + 2) (vp_nar .byte (Int8.toInt32 (Int32.toInt8 (p0 >>> (8 &&& 31)))))) (t + 3) (vp_nar .byte (Int8.toInt32 (Int32.toInt8 (p0 >>> (0 &&& 31)))))) (t + 4) (vp_nar .byte (Int8.toInt32 (Int32.toInt8 (p1 >>> (24 &&& 31)))))) (t + 5) (vp_nar .byte (Int8.toInt32 (Int32.toInt8 (p1 >>> (16 &&& 31)))))) (t + 6) (vp_nar .byte (Int8.toInt32 (Int32.toInt8 (p1 >>> (8 &&& 31)))))) (t + 7) (vp_nar .byte (Int8.toInt32 (Int32.toInt8 (p1 >>> (0 &&& 31)))))) (Int32.toNatClampNeg (nI (t + 8))) (vp_nar .byte (Int8.toInt32 (Int32.toInt8 (p2 >>> (24 &&& 31))))))))]) C 1 rfl (vp_in_nI (by omega) (by decide)) rfl d_Mo_feed_98 ?_
    refine g_eq (X1 := [(h, .inr (13, [.ref r0, .ref r1, .ref r2, .int mn, .int dt, .ref r5, .ref r6, .int (nI t), .int sz, .int fk, .int fp, .int at1, .int en, .int tk, .int nu, .long nm, .ref r16, .ref r17, .ref r18, .ref r19, .ref r20, .ref r21, .ref r22, .ref r23, .int fl, .ref r25, .int wa, .ref r27, .ref r28, .ref r29, .ref r30, .ref r31, .int co, .ref r33, .ref r34, .ref r35, .ref r36, .ref r37, .ref r38, .ref r39, .ref r40, .int db])), (r5, .inl (g.2.1 2, 320, .inl (upd (upd (upd (upd (upd (upd (upd (upd (upd tf (t + 0) (vp_nar .byte (Int8.toInt32 (Int32.toInt8 (p0 >>> (24 &&& 31)))))) (t + 1) (vp_nar .byte (Int8.toInt32 (Int32.toInt8 (p0 >>> (16 &&& 31)))))) (t + 2) (vp_nar .byte (Int8.toInt32 (Int32.toInt8 (p0 >>> (8 &&& 31)))))) (t + 3) (vp_nar .byte (Int8.toInt32 (Int32.toInt8 (p0 >>> (0 &&& 31)))))) (t + 4) (vp_nar .byte (Int8.toInt32 (Int32.toInt8 (p1 >>> (24 &&& 31)))))) (t + 5) (vp_nar .byte (Int8.toInt32 (Int32.toInt8 (p1 >>> (16 &&& 31)))))) (t + 6) (vp_nar .byte (Int8.toInt32 (Int32.toInt8 (p1 >>> (8 &&& 31)))))) (t + 7) (vp_nar .byte (Int8.toInt32 (Int32.toInt8 (p1 >>> (0 &&& 31)))))) (t + 8) (vp_nar .byte (Int8.toInt32 (Int32.toInt8 (p2 >>> (24 &&& 31))))))))]) rfl (by rw [nI_clamp (by omega)]) ?_
    refine g_iinc (v := 9) (lv1 := [(0, .ref h), (1, .int p0), (2, .int p1), (3, .int p2), (4, .int p3), (5, .int p4), (6, .int 9), (7, .int p2)]) C d_Mo_feed_99 6 rfl (by decide) [1, 2, 3, 4, 5, 6, 0, 7] (by decide) rfl ?_
    refine g_goto C d_Mo_feed_102 ?_
    refine g_iload C 6 rfl d_Mo_feed_18 ?_
    refine g_bipush (v := 20) C rfl d_Mo_feed_20 ?_
    refine g_icmp_ge C d_Mo_feed_22 (fun c_26 => absurd c_26 (by decide)) (fun _ => ?_)
    refine g_iload C 6 rfl d_Mo_feed_25 ?_
    refine g_iconst (v := 4) C rfl d_Mo_feed_27 ?_
    refine g_icmp_ge C d_Mo_feed_28 (fun _ => ?_) (fun c_27 => absurd c_27 (by decide))
    refine g_iload C 6 rfl d_Mo_feed_35 ?_
    refine g_bipush (v := 8) C rfl d_Mo_feed_37 ?_
    refine g_icmp_ge C d_Mo_feed_39 (fun _ => ?_) (fun c_28 => absurd c_28 (by decide))
    refine g_iload C 6 rfl d_Mo_feed_46 ?_
    refine g_bipush (v := 12) C rfl d_Mo_feed_48 ?_
    refine g_icmp_ge C d_Mo_feed_50 (fun c_29 => absurd c_29 (by decide)) (fun _ => ?_)
    refine g_iload_n C 3 rfl d_Mo_feed_53 ?_
    refine g_goto C d_Mo_feed_54 ?_
    refine g_istore (lv1 := [(0, .ref h), (1, .int p0), (2, .int p1), (3, .int p2), (4, .int p3), (5, .int p4), (6, .int 9), (7, .int p2)]) C d_Mo_feed_71 [1, 2, 3, 4, 5, 6, 7, 0] (by decide) rfl ?_
    refine g_aload_n C 0 rfl d_Mo_feed_73 ?_
    refine g_get C 0 rfl rfl in_Mo 5 (by decide) kw_1025 rfl d_Mo_feed_74 ?_
    refine g_aload_n C 0 rfl d_Mo_feed_77 ?_
    refine g_get C 0 rfl rfl in_Mo 7 (by decide) kw_1027 rfl d_Mo_feed_78 ?_
    refine g_iload C 6 rfl d_Mo_feed_81 ?_
    refine g_iadd C d_Mo_feed_83 ?_
    refine g_eq (st1 := [.int (nI (t + 9)), .ref r5]) (congrArg (fun z => Value.int z :: [.ref r5]) (nI_add t 9)) rfl ?_
    refine g_iload C 7 rfl d_Mo_feed_84 ?_
    refine g_bipush (v := 24) C rfl d_Mo_feed_86 ?_
    refine g_bipush (v := 8) C rfl d_Mo_feed_88 ?_
    refine g_iload C 6 rfl d_Mo_feed_90 ?_
    refine g_iconst (v := 3) C rfl d_Mo_feed_92 ?_
    refine g_iand C d_Mo_feed_93 ?_
    refine g_eq (st1 := [.int 1, .int 8, .int 24, .int p2, .int (nI (t + 9)), .ref r5]) (congrArg (fun z => Value.int z :: [.int 8, .int 24, .int p2, .int (nI (t + 9)), .ref r5]) (by decide)) rfl ?_
    refine g_imul C d_Mo_feed_94 ?_
    refine g_eq (st1 := [.int 8, .int 24, .int p2, .int (nI (t + 9)), .ref r5]) (congrArg (fun z => Value.int z :: [.int 24, .int p2, .int (nI (t + 9)), .ref r5]) (by decide)) rfl ?_
    refine g_isub C d_Mo_feed_95 ?_
    refine g_eq (st1 := [.int 16, .int p2, .int (nI (t + 9)), .ref r5]) (congrArg (fun z => Value.int z :: [.int p2, .int (nI (t + 9)), .ref r5]) (by decide)) rfl ?_
    refine g_ishr C d_Mo_feed_96 ?_
    refine g_i2b C d_Mo_feed_97 ?_
    refine g_bast (X1 := [(h, .inr (13, [.ref r0, .ref r1, .ref r2, .int mn, .int dt, .ref r5, .ref r6, .int (nI t), .int sz, .int fk, .int fp, .int at1, .int en, .int tk, .int nu, .long nm, .ref r16, .ref r17, .ref r18, .ref r19, .ref r20, .ref r21, .ref r22, .ref r23, .int fl, .ref r25, .int wa, .ref r27, .ref r28, .ref r29, .ref r30, .ref r31, .int co, .ref r33, .ref r34, .ref r35, .ref r36, .ref r37, .ref r38, .ref r39, .ref r40, .int db])), (r5, .inl (g.2.1 2, 320, .inl (upd (upd (upd (upd (upd (upd (upd (upd (upd (upd tf (t + 0) (vp_nar .byte (Int8.toInt32 (Int32.toInt8 (p0 >>> (24 &&& 31)))))) (t + 1) (vp_nar .byte (Int8.toInt32 (Int32.toInt8 (p0 >>> (16 &&& 31)))))) (t + 2) (vp_nar .byte (Int8.toInt32 (Int32.toInt8 (p0 >>> (8 &&& 31)))))) (t + 3) (vp_nar .byte (Int8.toInt32 (Int32.toInt8 (p0 >>> (0 &&& 31)))))) (t + 4) (vp_nar .byte (Int8.toInt32 (Int32.toInt8 (p1 >>> (24 &&& 31)))))) (t + 5) (vp_nar .byte (Int8.toInt32 (Int32.toInt8 (p1 >>> (16 &&& 31)))))) (t + 6) (vp_nar .byte (Int8.toInt32 (Int32.toInt8 (p1 >>> (8 &&& 31)))))) (t + 7) (vp_nar .byte (Int8.toInt32 (Int32.toInt8 (p1 >>> (0 &&& 31)))))) (t + 8) (vp_nar .byte (Int8.toInt32 (Int32.toInt8 (p2 >>> (24 &&& 31)))))) (Int32.toNatClampNeg (nI (t + 9))) (vp_nar .byte (Int8.toInt32 (Int32.toInt8 (p2 >>> (16 &&& 31))))))))]) C 1 rfl (vp_in_nI (by omega) (by decide)) rfl d_Mo_feed_98 ?_
    refine g_eq (X1 := [(h, .inr (13, [.ref r0, .ref r1, .ref r2, .int mn, .int dt, .ref r5, .ref r6, .int (nI t), .int sz, .int fk, .int fp, .int at1, .int en, .int tk, .int nu, .long nm, .ref r16, .ref r17, .ref r18, .ref r19, .ref r20, .ref r21, .ref r22, .ref r23, .int fl, .ref r25, .int wa, .ref r27, .ref r28, .ref r29, .ref r30, .ref r31, .int co, .ref r33, .ref r34, .ref r35, .ref r36, .ref r37, .ref r38, .ref r39, .ref r40, .int db])), (r5, .inl (g.2.1 2, 320, .inl (upd (upd (upd (upd (upd (upd (upd (upd (upd (upd tf (t + 0) (vp_nar .byte (Int8.toInt32 (Int32.toInt8 (p0 >>> (24 &&& 31)))))) (t + 1) (vp_nar .byte (Int8.toInt32 (Int32.toInt8 (p0 >>> (16 &&& 31)))))) (t + 2) (vp_nar .byte (Int8.toInt32 (Int32.toInt8 (p0 >>> (8 &&& 31)))))) (t + 3) (vp_nar .byte (Int8.toInt32 (Int32.toInt8 (p0 >>> (0 &&& 31)))))) (t + 4) (vp_nar .byte (Int8.toInt32 (Int32.toInt8 (p1 >>> (24 &&& 31)))))) (t + 5) (vp_nar .byte (Int8.toInt32 (Int32.toInt8 (p1 >>> (16 &&& 31)))))) (t + 6) (vp_nar .byte (Int8.toInt32 (Int32.toInt8 (p1 >>> (8 &&& 31)))))) (t + 7) (vp_nar .byte (Int8.toInt32 (Int32.toInt8 (p1 >>> (0 &&& 31)))))) (t + 8) (vp_nar .byte (Int8.toInt32 (Int32.toInt8 (p2 >>> (24 &&& 31)))))) (t + 9) (vp_nar .byte (Int8.toInt32 (Int32.toInt8 (p2 >>> (16 &&& 31))))))))]) rfl (by rw [nI_clamp (by omega)]) ?_
    refine g_iinc (v := 10) (lv1 := [(0, .ref h), (1, .int p0), (2, .int p1), (3, .int p2), (4, .int p3), (5, .int p4), (6, .int 10), (7, .int p2)]) C d_Mo_feed_99 6 rfl (by decide) [1, 2, 3, 4, 5, 6, 0, 7] (by decide) rfl ?_
    refine g_goto C d_Mo_feed_102 ?_
    refine g_iload C 6 rfl d_Mo_feed_18 ?_
    refine g_bipush (v := 20) C rfl d_Mo_feed_20 ?_
    refine g_icmp_ge C d_Mo_feed_22 (fun c_30 => absurd c_30 (by decide)) (fun _ => ?_)
    refine g_iload C 6 rfl d_Mo_feed_25 ?_
    refine g_iconst (v := 4) C rfl d_Mo_feed_27 ?_
    refine g_icmp_ge C d_Mo_feed_28 (fun _ => ?_) (fun c_31 => absurd c_31 (by decide))
    refine g_iload C 6 rfl d_Mo_feed_35 ?_
    refine g_bipush (v := 8) C rfl d_Mo_feed_37 ?_
    refine g_icmp_ge C d_Mo_feed_39 (fun _ => ?_) (fun c_32 => absurd c_32 (by decide))
    refine g_iload C 6 rfl d_Mo_feed_46 ?_
    refine g_bipush (v := 12) C rfl d_Mo_feed_48 ?_
    refine g_icmp_ge C d_Mo_feed_50 (fun c_33 => absurd c_33 (by decide)) (fun _ => ?_)
    refine g_iload_n C 3 rfl d_Mo_feed_53 ?_
    refine g_goto C d_Mo_feed_54 ?_
    refine g_istore (lv1 := [(0, .ref h), (1, .int p0), (2, .int p1), (3, .int p2), (4, .int p3), (5, .int p4), (6, .int 10), (7, .int p2)]) C d_Mo_feed_71 [1, 2, 3, 4, 5, 6, 7, 0] (by decide) rfl ?_
    refine g_aload_n C 0 rfl d_Mo_feed_73 ?_
    refine g_get C 0 rfl rfl in_Mo 5 (by decide) kw_1025 rfl d_Mo_feed_74 ?_
    refine g_aload_n C 0 rfl d_Mo_feed_77 ?_
    refine g_get C 0 rfl rfl in_Mo 7 (by decide) kw_1027 rfl d_Mo_feed_78 ?_
    refine g_iload C 6 rfl d_Mo_feed_81 ?_
    refine g_iadd C d_Mo_feed_83 ?_
    refine g_eq (st1 := [.int (nI (t + 10)), .ref r5]) (congrArg (fun z => Value.int z :: [.ref r5]) (nI_add t 10)) rfl ?_
    refine g_iload C 7 rfl d_Mo_feed_84 ?_
    refine g_bipush (v := 24) C rfl d_Mo_feed_86 ?_
    refine g_bipush (v := 8) C rfl d_Mo_feed_88 ?_
    refine g_iload C 6 rfl d_Mo_feed_90 ?_
    refine g_iconst (v := 3) C rfl d_Mo_feed_92 ?_
    refine g_iand C d_Mo_feed_93 ?_
    refine g_eq (st1 := [.int 2, .int 8, .int 24, .int p2, .int (nI (t + 10)), .ref r5]) (congrArg (fun z => Value.int z :: [.int 8, .int 24, .int p2, .int (nI (t + 10)), .ref r5]) (by decide)) rfl ?_
    refine g_imul C d_Mo_feed_94 ?_
    refine g_eq (st1 := [.int 16, .int 24, .int p2, .int (nI (t + 10)), .ref r5]) (congrArg (fun z => Value.int z :: [.int 24, .int p2, .int (nI (t + 10)), .ref r5]) (by decide)) rfl ?_
    refine g_isub C d_Mo_feed_95 ?_
    refine g_eq (st1 := [.int 8, .int p2, .int (nI (t + 10)), .ref r5]) (congrArg (fun z => Value.int z :: [.int p2, .int (nI (t + 10)), .ref r5]) (by decide)) rfl ?_
    refine g_ishr C d_Mo_feed_96 ?_
    refine g_i2b C d_Mo_feed_97 ?_
    refine g_bast (X1 := [(h, .inr (13, [.ref r0, .ref r1, .ref r2, .int mn, .int dt, .ref r5, .ref r6, .int (nI t), .int sz, .int fk, .int fp, .int at1, .int en, .int tk, .int nu, .long nm, .ref r16, .ref r17, .ref r18, .ref r19, .ref r20, .ref r21, .ref r22, .ref r23, .int fl, .ref r25, .int wa, .ref r27, .ref r28, .ref r29, .ref r30, .ref r31, .int co, .ref r33, .ref r34, .ref r35, .ref r36, .ref r37, .ref r38, .ref r39, .ref r40, .int db])), (r5, .inl (g.2.1 2, 320, .inl (upd (upd (upd (upd (upd (upd (upd (upd (upd (upd (upd tf (t + 0) (vp_nar .byte (Int8.toInt32 (Int32.toInt8 (p0 >>> (24 &&& 31)))))) (t + 1) (vp_nar .byte (Int8.toInt32 (Int32.toInt8 (p0 >>> (16 &&& 31)))))) (t + 2) (vp_nar .byte (Int8.toInt32 (Int32.toInt8 (p0 >>> (8 &&& 31)))))) (t + 3) (vp_nar .byte (Int8.toInt32 (Int32.toInt8 (p0 >>> (0 &&& 31)))))) (t + 4) (vp_nar .byte (Int8.toInt32 (Int32.toInt8 (p1 >>> (24 &&& 31)))))) (t + 5) (vp_nar .byte (Int8.toInt32 (Int32.toInt8 (p1 >>> (16 &&& 31)))))) (t + 6) (vp_nar .byte (Int8.toInt32 (Int32.toInt8 (p1 >>> (8 &&& 31)))))) (t + 7) (vp_nar .byte (Int8.toInt32 (Int32.toInt8 (p1 >>> (0 &&& 31)))))) (t + 8) (vp_nar .byte (Int8.toInt32 (Int32.toInt8 (p2 >>> (24 &&& 31)))))) (t + 9) (vp_nar .byte (Int8.toInt32 (Int32.toInt8 (p2 >>> (16 &&& 31)))))) (Int32.toNatClampNeg (nI (t + 10))) (vp_nar .byte (Int8.toInt32 (Int32.toInt8 (p2 >>> (8 &&& 31))))))))]) C 1 rfl (vp_in_nI (by omega) (by decide)) rfl d_Mo_feed_98 ?_
    refine g_eq (X1 := [(h, .inr (13, [.ref r0, .ref r1, .ref r2, .int mn, .int dt, .ref r5, .ref r6, .int (nI t), .int sz, .int fk, .int fp, .int at1, .int en, .int tk, .int nu, .long nm, .ref r16, .ref r17, .ref r18, .ref r19, .ref r20, .ref r21, .ref r22, .ref r23, .int fl, .ref r25, .int wa, .ref r27, .ref r28, .ref r29, .ref r30, .ref r31, .int co, .ref r33, .ref r34, .ref r35, .ref r36, .ref r37, .ref r38, .ref r39, .ref r40, .int db])), (r5, .inl (g.2.1 2, 320, .inl (upd (upd (upd (upd (upd (upd (upd (upd (upd (upd (upd tf (t + 0) (vp_nar .byte (Int8.toInt32 (Int32.toInt8 (p0 >>> (24 &&& 31)))))) (t + 1) (vp_nar .byte (Int8.toInt32 (Int32.toInt8 (p0 >>> (16 &&& 31)))))) (t + 2) (vp_nar .byte (Int8.toInt32 (Int32.toInt8 (p0 >>> (8 &&& 31)))))) (t + 3) (vp_nar .byte (Int8.toInt32 (Int32.toInt8 (p0 >>> (0 &&& 31)))))) (t + 4) (vp_nar .byte (Int8.toInt32 (Int32.toInt8 (p1 >>> (24 &&& 31)))))) (t + 5) (vp_nar .byte (Int8.toInt32 (Int32.toInt8 (p1 >>> (16 &&& 31)))))) (t + 6) (vp_nar .byte (Int8.toInt32 (Int32.toInt8 (p1 >>> (8 &&& 31)))))) (t + 7) (vp_nar .byte (Int8.toInt32 (Int32.toInt8 (p1 >>> (0 &&& 31)))))) (t + 8) (vp_nar .byte (Int8.toInt32 (Int32.toInt8 (p2 >>> (24 &&& 31)))))) (t + 9) (vp_nar .byte (Int8.toInt32 (Int32.toInt8 (p2 >>> (16 &&& 31)))))) (t + 10) (vp_nar .byte (Int8.toInt32 (Int32.toInt8 (p2 >>> (8 &&& 31))))))))]) rfl (by rw [nI_clamp (by omega)]) ?_
    refine g_iinc (v := 11) (lv1 := [(0, .ref h), (1, .int p0), (2, .int p1), (3, .int p2), (4, .int p3), (5, .int p4), (6, .int 11), (7, .int p2)]) C d_Mo_feed_99 6 rfl (by decide) [1, 2, 3, 4, 5, 6, 0, 7] (by decide) rfl ?_
    refine g_goto C d_Mo_feed_102 ?_
    refine g_iload C 6 rfl d_Mo_feed_18 ?_
    refine g_bipush (v := 20) C rfl d_Mo_feed_20 ?_
    refine g_icmp_ge C d_Mo_feed_22 (fun c_34 => absurd c_34 (by decide)) (fun _ => ?_)
    refine g_iload C 6 rfl d_Mo_feed_25 ?_
    refine g_iconst (v := 4) C rfl d_Mo_feed_27 ?_
    refine g_icmp_ge C d_Mo_feed_28 (fun _ => ?_) (fun c_35 => absurd c_35 (by decide))
    refine g_iload C 6 rfl d_Mo_feed_35 ?_
    refine g_bipush (v := 8) C rfl d_Mo_feed_37 ?_
    refine g_icmp_ge C d_Mo_feed_39 (fun _ => ?_) (fun c_36 => absurd c_36 (by decide))
    refine g_iload C 6 rfl d_Mo_feed_46 ?_
    refine g_bipush (v := 12) C rfl d_Mo_feed_48 ?_
    refine g_icmp_ge C d_Mo_feed_50 (fun c_37 => absurd c_37 (by decide)) (fun _ => ?_)
    refine g_iload_n C 3 rfl d_Mo_feed_53 ?_
    refine g_goto C d_Mo_feed_54 ?_
    refine g_istore (lv1 := [(0, .ref h), (1, .int p0), (2, .int p1), (3, .int p2), (4, .int p3), (5, .int p4), (6, .int 11), (7, .int p2)]) C d_Mo_feed_71 [1, 2, 3, 4, 5, 6, 7, 0] (by decide) rfl ?_
    refine g_aload_n C 0 rfl d_Mo_feed_73 ?_
    refine g_get C 0 rfl rfl in_Mo 5 (by decide) kw_1025 rfl d_Mo_feed_74 ?_
    refine g_aload_n C 0 rfl d_Mo_feed_77 ?_
    refine g_get C 0 rfl rfl in_Mo 7 (by decide) kw_1027 rfl d_Mo_feed_78 ?_
    refine g_iload C 6 rfl d_Mo_feed_81 ?_
    refine g_iadd C d_Mo_feed_83 ?_
    refine g_eq (st1 := [.int (nI (t + 11)), .ref r5]) (congrArg (fun z => Value.int z :: [.ref r5]) (nI_add t 11)) rfl ?_
    refine g_iload C 7 rfl d_Mo_feed_84 ?_
    refine g_bipush (v := 24) C rfl d_Mo_feed_86 ?_
    refine g_bipush (v := 8) C rfl d_Mo_feed_88 ?_
    refine g_iload C 6 rfl d_Mo_feed_90 ?_
    refine g_iconst (v := 3) C rfl d_Mo_feed_92 ?_
    refine g_iand C d_Mo_feed_93 ?_
    refine g_eq (st1 := [.int 3, .int 8, .int 24, .int p2, .int (nI (t + 11)), .ref r5]) (congrArg (fun z => Value.int z :: [.int 8, .int 24, .int p2, .int (nI (t + 11)), .ref r5]) (by decide)) rfl ?_
    refine g_imul C d_Mo_feed_94 ?_
    refine g_eq (st1 := [.int 24, .int 24, .int p2, .int (nI (t + 11)), .ref r5]) (congrArg (fun z => Value.int z :: [.int 24, .int p2, .int (nI (t + 11)), .ref r5]) (by decide)) rfl ?_
    refine g_isub C d_Mo_feed_95 ?_
    refine g_eq (st1 := [.int 0, .int p2, .int (nI (t + 11)), .ref r5]) (congrArg (fun z => Value.int z :: [.int p2, .int (nI (t + 11)), .ref r5]) (by decide)) rfl ?_
    refine g_ishr C d_Mo_feed_96 ?_
    refine g_i2b C d_Mo_feed_97 ?_
    refine g_bast (X1 := [(h, .inr (13, [.ref r0, .ref r1, .ref r2, .int mn, .int dt, .ref r5, .ref r6, .int (nI t), .int sz, .int fk, .int fp, .int at1, .int en, .int tk, .int nu, .long nm, .ref r16, .ref r17, .ref r18, .ref r19, .ref r20, .ref r21, .ref r22, .ref r23, .int fl, .ref r25, .int wa, .ref r27, .ref r28, .ref r29, .ref r30, .ref r31, .int co, .ref r33, .ref r34, .ref r35, .ref r36, .ref r37, .ref r38, .ref r39, .ref r40, .int db])), (r5, .inl (g.2.1 2, 320, .inl (upd (upd (upd (upd (upd (upd (upd (upd (upd (upd (upd (upd tf (t + 0) (vp_nar .byte (Int8.toInt32 (Int32.toInt8 (p0 >>> (24 &&& 31)))))) (t + 1) (vp_nar .byte (Int8.toInt32 (Int32.toInt8 (p0 >>> (16 &&& 31)))))) (t + 2) (vp_nar .byte (Int8.toInt32 (Int32.toInt8 (p0 >>> (8 &&& 31)))))) (t + 3) (vp_nar .byte (Int8.toInt32 (Int32.toInt8 (p0 >>> (0 &&& 31)))))) (t + 4) (vp_nar .byte (Int8.toInt32 (Int32.toInt8 (p1 >>> (24 &&& 31)))))) (t + 5) (vp_nar .byte (Int8.toInt32 (Int32.toInt8 (p1 >>> (16 &&& 31)))))) (t + 6) (vp_nar .byte (Int8.toInt32 (Int32.toInt8 (p1 >>> (8 &&& 31)))))) (t + 7) (vp_nar .byte (Int8.toInt32 (Int32.toInt8 (p1 >>> (0 &&& 31)))))) (t + 8) (vp_nar .byte (Int8.toInt32 (Int32.toInt8 (p2 >>> (24 &&& 31)))))) (t + 9) (vp_nar .byte (Int8.toInt32 (Int32.toInt8 (p2 >>> (16 &&& 31)))))) (t + 10) (vp_nar .byte (Int8.toInt32 (Int32.toInt8 (p2 >>> (8 &&& 31)))))) (Int32.toNatClampNeg (nI (t + 11))) (vp_nar .byte (Int8.toInt32 (Int32.toInt8 (p2 >>> (0 &&& 31))))))))]) C 1 rfl (vp_in_nI (by omega) (by decide)) rfl d_Mo_feed_98 ?_
    refine g_eq (X1 := [(h, .inr (13, [.ref r0, .ref r1, .ref r2, .int mn, .int dt, .ref r5, .ref r6, .int (nI t), .int sz, .int fk, .int fp, .int at1, .int en, .int tk, .int nu, .long nm, .ref r16, .ref r17, .ref r18, .ref r19, .ref r20, .ref r21, .ref r22, .ref r23, .int fl, .ref r25, .int wa, .ref r27, .ref r28, .ref r29, .ref r30, .ref r31, .int co, .ref r33, .ref r34, .ref r35, .ref r36, .ref r37, .ref r38, .ref r39, .ref r40, .int db])), (r5, .inl (g.2.1 2, 320, .inl (upd (upd (upd (upd (upd (upd (upd (upd (upd (upd (upd (upd tf (t + 0) (vp_nar .byte (Int8.toInt32 (Int32.toInt8 (p0 >>> (24 &&& 31)))))) (t + 1) (vp_nar .byte (Int8.toInt32 (Int32.toInt8 (p0 >>> (16 &&& 31)))))) (t + 2) (vp_nar .byte (Int8.toInt32 (Int32.toInt8 (p0 >>> (8 &&& 31)))))) (t + 3) (vp_nar .byte (Int8.toInt32 (Int32.toInt8 (p0 >>> (0 &&& 31)))))) (t + 4) (vp_nar .byte (Int8.toInt32 (Int32.toInt8 (p1 >>> (24 &&& 31)))))) (t + 5) (vp_nar .byte (Int8.toInt32 (Int32.toInt8 (p1 >>> (16 &&& 31)))))) (t + 6) (vp_nar .byte (Int8.toInt32 (Int32.toInt8 (p1 >>> (8 &&& 31)))))) (t + 7) (vp_nar .byte (Int8.toInt32 (Int32.toInt8 (p1 >>> (0 &&& 31)))))) (t + 8) (vp_nar .byte (Int8.toInt32 (Int32.toInt8 (p2 >>> (24 &&& 31)))))) (t + 9) (vp_nar .byte (Int8.toInt32 (Int32.toInt8 (p2 >>> (16 &&& 31)))))) (t + 10) (vp_nar .byte (Int8.toInt32 (Int32.toInt8 (p2 >>> (8 &&& 31)))))) (t + 11) (vp_nar .byte (Int8.toInt32 (Int32.toInt8 (p2 >>> (0 &&& 31))))))))]) rfl (by rw [nI_clamp (by omega)]) ?_
    refine g_iinc (v := 12) (lv1 := [(0, .ref h), (1, .int p0), (2, .int p1), (3, .int p2), (4, .int p3), (5, .int p4), (6, .int 12), (7, .int p2)]) C d_Mo_feed_99 6 rfl (by decide) [1, 2, 3, 4, 5, 6, 0, 7] (by decide) rfl ?_
    refine g_goto C d_Mo_feed_102 ?_
    refine g_iload C 6 rfl d_Mo_feed_18 ?_
    refine g_bipush (v := 20) C rfl d_Mo_feed_20 ?_
    refine g_icmp_ge C d_Mo_feed_22 (fun c_38 => absurd c_38 (by decide)) (fun _ => ?_)
    refine g_iload C 6 rfl d_Mo_feed_25 ?_
    refine g_iconst (v := 4) C rfl d_Mo_feed_27 ?_
    refine g_icmp_ge C d_Mo_feed_28 (fun _ => ?_) (fun c_39 => absurd c_39 (by decide))
    refine g_iload C 6 rfl d_Mo_feed_35 ?_
    refine g_bipush (v := 8) C rfl d_Mo_feed_37 ?_
    refine g_icmp_ge C d_Mo_feed_39 (fun _ => ?_) (fun c_40 => absurd c_40 (by decide))
    refine g_iload C 6 rfl d_Mo_feed_46 ?_
    refine g_bipush (v := 12) C rfl d_Mo_feed_48 ?_
    refine g_icmp_ge C d_Mo_feed_50 (fun _ => ?_) (fun c_41 => absurd c_41 (by decide))
    refine g_iload C 6 rfl d_Mo_feed_57 ?_
    refine g_bipush (v := 16) C rfl d_Mo_feed_59 ?_
    refine g_icmp_ge C d_Mo_feed_61 (fun c_42 => absurd c_42 (by decide)) (fun _ => ?_)
    refine g_iload C 4 rfl d_Mo_feed_64 ?_
    refine g_goto C d_Mo_feed_66 ?_
    refine g_istore (lv1 := [(0, .ref h), (1, .int p0), (2, .int p1), (3, .int p2), (4, .int p3), (5, .int p4), (6, .int 12), (7, .int p3)]) C d_Mo_feed_71 [1, 2, 3, 4, 5, 6, 7, 0] (by decide) rfl ?_
    refine g_aload_n C 0 rfl d_Mo_feed_73 ?_
    refine g_get C 0 rfl rfl in_Mo 5 (by decide) kw_1025 rfl d_Mo_feed_74 ?_
    refine g_aload_n C 0 rfl d_Mo_feed_77 ?_
    refine g_get C 0 rfl rfl in_Mo 7 (by decide) kw_1027 rfl d_Mo_feed_78 ?_
    refine g_iload C 6 rfl d_Mo_feed_81 ?_
    refine g_iadd C d_Mo_feed_83 ?_
    refine g_eq (st1 := [.int (nI (t + 12)), .ref r5]) (congrArg (fun z => Value.int z :: [.ref r5]) (nI_add t 12)) rfl ?_
    refine g_iload C 7 rfl d_Mo_feed_84 ?_
    refine g_bipush (v := 24) C rfl d_Mo_feed_86 ?_
    refine g_bipush (v := 8) C rfl d_Mo_feed_88 ?_
    refine g_iload C 6 rfl d_Mo_feed_90 ?_
    refine g_iconst (v := 3) C rfl d_Mo_feed_92 ?_
    refine g_iand C d_Mo_feed_93 ?_
    refine g_eq (st1 := [.int 0, .int 8, .int 24, .int p3, .int (nI (t + 12)), .ref r5]) (congrArg (fun z => Value.int z :: [.int 8, .int 24, .int p3, .int (nI (t + 12)), .ref r5]) (by decide)) rfl ?_
    refine g_imul C d_Mo_feed_94 ?_
    refine g_eq (st1 := [.int 0, .int 24, .int p3, .int (nI (t + 12)), .ref r5]) (congrArg (fun z => Value.int z :: [.int 24, .int p3, .int (nI (t + 12)), .ref r5]) (by decide)) rfl ?_
    refine g_isub C d_Mo_feed_95 ?_
    refine g_eq (st1 := [.int 24, .int p3, .int (nI (t + 12)), .ref r5]) (congrArg (fun z => Value.int z :: [.int p3, .int (nI (t + 12)), .ref r5]) (by decide)) rfl ?_
    refine g_ishr C d_Mo_feed_96 ?_
    refine g_i2b C d_Mo_feed_97 ?_
    refine g_bast (X1 := [(h, .inr (13, [.ref r0, .ref r1, .ref r2, .int mn, .int dt, .ref r5, .ref r6, .int (nI t), .int sz, .int fk, .int fp, .int at1, .int en, .int tk, .int nu, .long nm, .ref r16, .ref r17, .ref r18, .ref r19, .ref r20, .ref r21, .ref r22, .ref r23, .int fl, .ref r25, .int wa, .ref r27, .ref r28, .ref r29, .ref r30, .ref r31, .int co, .ref r33, .ref r34, .ref r35, .ref r36, .ref r37, .ref r38, .ref r39, .ref r40, .int db])), (r5, .inl (g.2.1 2, 320, .inl (upd (upd (upd (upd (upd (upd (upd (upd (upd (upd (upd (upd (upd tf (t + 0) (vp_nar .byte (Int8.toInt32 (Int32.toInt8 (p0 >>> (24 &&& 31)))))) (t + 1) (vp_nar .byte (Int8.toInt32 (Int32.toInt8 (p0 >>> (16 &&& 31)))))) (t + 2) (vp_nar .byte (Int8.toInt32 (Int32.toInt8 (p0 >>> (8 &&& 31)))))) (t + 3) (vp_nar .byte (Int8.toInt32 (Int32.toInt8 (p0 >>> (0 &&& 31)))))) (t + 4) (vp_nar .byte (Int8.toInt32 (Int32.toInt8 (p1 >>> (24 &&& 31)))))) (t + 5) (vp_nar .byte (Int8.toInt32 (Int32.toInt8 (p1 >>> (16 &&& 31)))))) (t + 6) (vp_nar .byte (Int8.toInt32 (Int32.toInt8 (p1 >>> (8 &&& 31)))))) (t + 7) (vp_nar .byte (Int8.toInt32 (Int32.toInt8 (p1 >>> (0 &&& 31)))))) (t + 8) (vp_nar .byte (Int8.toInt32 (Int32.toInt8 (p2 >>> (24 &&& 31)))))) (t + 9) (vp_nar .byte (Int8.toInt32 (Int32.toInt8 (p2 >>> (16 &&& 31)))))) (t + 10) (vp_nar .byte (Int8.toInt32 (Int32.toInt8 (p2 >>> (8 &&& 31)))))) (t + 11) (vp_nar .byte (Int8.toInt32 (Int32.toInt8 (p2 >>> (0 &&& 31)))))) (Int32.toNatClampNeg (nI (t + 12))) (vp_nar .byte (Int8.toInt32 (Int32.toInt8 (p3 >>> (24 &&& 31))))))))]) C 1 rfl (vp_in_nI (by omega) (by decide)) rfl d_Mo_feed_98 ?_
    refine g_eq (X1 := [(h, .inr (13, [.ref r0, .ref r1, .ref r2, .int mn, .int dt, .ref r5, .ref r6, .int (nI t), .int sz, .int fk, .int fp, .int at1, .int en, .int tk, .int nu, .long nm, .ref r16, .ref r17, .ref r18, .ref r19, .ref r20, .ref r21, .ref r22, .ref r23, .int fl, .ref r25, .int wa, .ref r27, .ref r28, .ref r29, .ref r30, .ref r31, .int co, .ref r33, .ref r34, .ref r35, .ref r36, .ref r37, .ref r38, .ref r39, .ref r40, .int db])), (r5, .inl (g.2.1 2, 320, .inl (upd (upd (upd (upd (upd (upd (upd (upd (upd (upd (upd (upd (upd tf (t + 0) (vp_nar .byte (Int8.toInt32 (Int32.toInt8 (p0 >>> (24 &&& 31)))))) (t + 1) (vp_nar .byte (Int8.toInt32 (Int32.toInt8 (p0 >>> (16 &&& 31)))))) (t + 2) (vp_nar .byte (Int8.toInt32 (Int32.toInt8 (p0 >>> (8 &&& 31)))))) (t + 3) (vp_nar .byte (Int8.toInt32 (Int32.toInt8 (p0 >>> (0 &&& 31)))))) (t + 4) (vp_nar .byte (Int8.toInt32 (Int32.toInt8 (p1 >>> (24 &&& 31)))))) (t + 5) (vp_nar .byte (Int8.toInt32 (Int32.toInt8 (p1 >>> (16 &&& 31)))))) (t + 6) (vp_nar .byte (Int8.toInt32 (Int32.toInt8 (p1 >>> (8 &&& 31)))))) (t + 7) (vp_nar .byte (Int8.toInt32 (Int32.toInt8 (p1 >>> (0 &&& 31)))))) (t + 8) (vp_nar .byte (Int8.toInt32 (Int32.toInt8 (p2 >>> (24 &&& 31)))))) (t + 9) (vp_nar .byte (Int8.toInt32 (Int32.toInt8 (p2 >>> (16 &&& 31)))))) (t + 10) (vp_nar .byte (Int8.toInt32 (Int32.toInt8 (p2 >>> (8 &&& 31)))))) (t + 11) (vp_nar .byte (Int8.toInt32 (Int32.toInt8 (p2 >>> (0 &&& 31)))))) (t + 12) (vp_nar .byte (Int8.toInt32 (Int32.toInt8 (p3 >>> (24 &&& 31))))))))]) rfl (by rw [nI_clamp (by omega)]) ?_
    refine g_iinc (v := 13) (lv1 := [(0, .ref h), (1, .int p0), (2, .int p1), (3, .int p2), (4, .int p3), (5, .int p4), (6, .int 13), (7, .int p3)]) C d_Mo_feed_99 6 rfl (by decide) [1, 2, 3, 4, 5, 6, 0, 7] (by decide) rfl ?_
    refine g_goto C d_Mo_feed_102 ?_
    refine g_iload C 6 rfl d_Mo_feed_18 ?_
    refine g_bipush (v := 20) C rfl d_Mo_feed_20 ?_
    refine g_icmp_ge C d_Mo_feed_22 (fun c_43 => absurd c_43 (by decide)) (fun _ => ?_)
    refine g_iload C 6 rfl d_Mo_feed_25 ?_
    refine g_iconst (v := 4) C rfl d_Mo_feed_27 ?_
    refine g_icmp_ge C d_Mo_feed_28 (fun _ => ?_) (fun c_44 => absurd c_44 (by decide))
    refine g_iload C 6 rfl d_Mo_feed_35 ?_
    refine g_bipush (v := 8) C rfl d_Mo_feed_37 ?_
    refine g_icmp_ge C d_Mo_feed_39 (fun _ => ?_) (fun c_45 => absurd c_45 (by decide))
    refine g_iload C 6 rfl d_Mo_feed_46 ?_
    refine g_bipush (v := 12) C rfl d_Mo_feed_48 ?_
    refine g_icmp_ge C d_Mo_feed_50 (fun _ => ?_) (fun c_46 => absurd c_46 (by decide))
    refine g_iload C 6 rfl d_Mo_feed_57 ?_
    refine g_bipush (v := 16) C rfl d_Mo_feed_59 ?_
    refine g_icmp_ge C d_Mo_feed_61 (fun c_47 => absurd c_47 (by decide)) (fun _ => ?_)
    refine g_iload C 4 rfl d_Mo_feed_64 ?_
    refine g_goto C d_Mo_feed_66 ?_
    refine g_istore (lv1 := [(0, .ref h), (1, .int p0), (2, .int p1), (3, .int p2), (4, .int p3), (5, .int p4), (6, .int 13), (7, .int p3)]) C d_Mo_feed_71 [1, 2, 3, 4, 5, 6, 7, 0] (by decide) rfl ?_
    refine g_aload_n C 0 rfl d_Mo_feed_73 ?_
    refine g_get C 0 rfl rfl in_Mo 5 (by decide) kw_1025 rfl d_Mo_feed_74 ?_
    refine g_aload_n C 0 rfl d_Mo_feed_77 ?_
    refine g_get C 0 rfl rfl in_Mo 7 (by decide) kw_1027 rfl d_Mo_feed_78 ?_
    refine g_iload C 6 rfl d_Mo_feed_81 ?_
    refine g_iadd C d_Mo_feed_83 ?_
    refine g_eq (st1 := [.int (nI (t + 13)), .ref r5]) (congrArg (fun z => Value.int z :: [.ref r5]) (nI_add t 13)) rfl ?_
    refine g_iload C 7 rfl d_Mo_feed_84 ?_
    refine g_bipush (v := 24) C rfl d_Mo_feed_86 ?_
    refine g_bipush (v := 8) C rfl d_Mo_feed_88 ?_
    refine g_iload C 6 rfl d_Mo_feed_90 ?_
    refine g_iconst (v := 3) C rfl d_Mo_feed_92 ?_
    refine g_iand C d_Mo_feed_93 ?_
    refine g_eq (st1 := [.int 1, .int 8, .int 24, .int p3, .int (nI (t + 13)), .ref r5]) (congrArg (fun z => Value.int z :: [.int 8, .int 24, .int p3, .int (nI (t + 13)), .ref r5]) (by decide)) rfl ?_
    refine g_imul C d_Mo_feed_94 ?_
    refine g_eq (st1 := [.int 8, .int 24, .int p3, .int (nI (t + 13)), .ref r5]) (congrArg (fun z => Value.int z :: [.int 24, .int p3, .int (nI (t + 13)), .ref r5]) (by decide)) rfl ?_
    refine g_isub C d_Mo_feed_95 ?_
    refine g_eq (st1 := [.int 16, .int p3, .int (nI (t + 13)), .ref r5]) (congrArg (fun z => Value.int z :: [.int p3, .int (nI (t + 13)), .ref r5]) (by decide)) rfl ?_
    refine g_ishr C d_Mo_feed_96 ?_
    refine g_i2b C d_Mo_feed_97 ?_
    refine g_bast (X1 := [(h, .inr (13, [.ref r0, .ref r1, .ref r2, .int mn, .int dt, .ref r5, .ref r6, .int (nI t), .int sz, .int fk, .int fp, .int at1, .int en, .int tk, .int nu, .long nm, .ref r16, .ref r17, .ref r18, .ref r19, .ref r20, .ref r21, .ref r22, .ref r23, .int fl, .ref r25, .int wa, .ref r27, .ref r28, .ref r29, .ref r30, .ref r31, .int co, .ref r33, .ref r34, .ref r35, .ref r36, .ref r37, .ref r38, .ref r39, .ref r40, .int db])), (r5, .inl (g.2.1 2, 320, .inl (upd (upd (upd (upd (upd (upd (upd (upd (upd (upd (upd (upd (upd (upd tf (t + 0) (vp_nar .byte (Int8.toInt32 (Int32.toInt8 (p0 >>> (24 &&& 31)))))) (t + 1) (vp_nar .byte (Int8.toInt32 (Int32.toInt8 (p0 >>> (16 &&& 31)))))) (t + 2) (vp_nar .byte (Int8.toInt32 (Int32.toInt8 (p0 >>> (8 &&& 31)))))) (t + 3) (vp_nar .byte (Int8.toInt32 (Int32.toInt8 (p0 >>> (0 &&& 31)))))) (t + 4) (vp_nar .byte (Int8.toInt32 (Int32.toInt8 (p1 >>> (24 &&& 31)))))) (t + 5) (vp_nar .byte (Int8.toInt32 (Int32.toInt8 (p1 >>> (16 &&& 31)))))) (t + 6) (vp_nar .byte (Int8.toInt32 (Int32.toInt8 (p1 >>> (8 &&& 31)))))) (t + 7) (vp_nar .byte (Int8.toInt32 (Int32.toInt8 (p1 >>> (0 &&& 31)))))) (t + 8) (vp_nar .byte (Int8.toInt32 (Int32.toInt8 (p2 >>> (24 &&& 31)))))) (t + 9) (vp_nar .byte (Int8.toInt32 (Int32.toInt8 (p2 >>> (16 &&& 31)))))) (t + 10) (vp_nar .byte (Int8.toInt32 (Int32.toInt8 (p2 >>> (8 &&& 31)))))) (t + 11) (vp_nar .byte (Int8.toInt32 (Int32.toInt8 (p2 >>> (0 &&& 31)))))) (t + 12) (vp_nar .byte (Int8.toInt32 (Int32.toInt8 (p3 >>> (24 &&& 31)))))) (Int32.toNatClampNeg (nI (t + 13))) (vp_nar .byte (Int8.toInt32 (Int32.toInt8 (p3 >>> (16 &&& 31))))))))]) C 1 rfl (vp_in_nI (by omega) (by decide)) rfl d_Mo_feed_98 ?_
    refine g_eq (X1 := [(h, .inr (13, [.ref r0, .ref r1, .ref r2, .int mn, .int dt, .ref r5, .ref r6, .int (nI t), .int sz, .int fk, .int fp, .int at1, .int en, .int tk, .int nu, .long nm, .ref r16, .ref r17, .ref r18, .ref r19, .ref r20, .ref r21, .ref r22, .ref r23, .int fl, .ref r25, .int wa, .ref r27, .ref r28, .ref r29, .ref r30, .ref r31, .int co, .ref r33, .ref r34, .ref r35, .ref r36, .ref r37, .ref r38, .ref r39, .ref r40, .int db])), (r5, .inl (g.2.1 2, 320, .inl (upd (upd (upd (upd (upd (upd (upd (upd (upd (upd (upd (upd (upd (upd tf (t + 0) (vp_nar .byte (Int8.toInt32 (Int32.toInt8 (p0 >>> (24 &&& 31)))))) (t + 1) (vp_nar .byte (Int8.toInt32 (Int32.toInt8 (p0 >>> (16 &&& 31)))))) (t + 2) (vp_nar .byte (Int8.toInt32 (Int32.toInt8 (p0 >>> (8 &&& 31)))))) (t + 3) (vp_nar .byte (Int8.toInt32 (Int32.toInt8 (p0 >>> (0 &&& 31)))))) (t + 4) (vp_nar .byte (Int8.toInt32 (Int32.toInt8 (p1 >>> (24 &&& 31)))))) (t + 5) (vp_nar .byte (Int8.toInt32 (Int32.toInt8 (p1 >>> (16 &&& 31)))))) (t + 6) (vp_nar .byte (Int8.toInt32 (Int32.toInt8 (p1 >>> (8 &&& 31)))))) (t + 7) (vp_nar .byte (Int8.toInt32 (Int32.toInt8 (p1 >>> (0 &&& 31)))))) (t + 8) (vp_nar .byte (Int8.toInt32 (Int32.toInt8 (p2 >>> (24 &&& 31)))))) (t + 9) (vp_nar .byte (Int8.toInt32 (Int32.toInt8 (p2 >>> (16 &&& 31)))))) (t + 10) (vp_nar .byte (Int8.toInt32 (Int32.toInt8 (p2 >>> (8 &&& 31)))))) (t + 11) (vp_nar .byte (Int8.toInt32 (Int32.toInt8 (p2 >>> (0 &&& 31)))))) (t + 12) (vp_nar .byte (Int8.toInt32 (Int32.toInt8 (p3 >>> (24 &&& 31)))))) (t + 13) (vp_nar .byte (Int8.toInt32 (Int32.toInt8 (p3 >>> (16 &&& 31))))))))]) rfl (by rw [nI_clamp (by omega)]) ?_
    refine g_iinc (v := 14) (lv1 := [(0, .ref h), (1, .int p0), (2, .int p1), (3, .int p2), (4, .int p3), (5, .int p4), (6, .int 14), (7, .int p3)]) C d_Mo_feed_99 6 rfl (by decide) [1, 2, 3, 4, 5, 6, 0, 7] (by decide) rfl ?_
    refine g_goto C d_Mo_feed_102 ?_
    refine g_iload C 6 rfl d_Mo_feed_18 ?_
    refine g_bipush (v := 20) C rfl d_Mo_feed_20 ?_
    refine g_icmp_ge C d_Mo_feed_22 (fun c_48 => absurd c_48 (by decide)) (fun _ => ?_)
    refine g_iload C 6 rfl d_Mo_feed_25 ?_
    refine g_iconst (v := 4) C rfl d_Mo_feed_27 ?_
    refine g_icmp_ge C d_Mo_feed_28 (fun _ => ?_) (fun c_49 => absurd c_49 (by decide))
    refine g_iload C 6 rfl d_Mo_feed_35 ?_
    refine g_bipush (v := 8) C rfl d_Mo_feed_37 ?_
    refine g_icmp_ge C d_Mo_feed_39 (fun _ => ?_) (fun c_50 => absurd c_50 (by decide))
    refine g_iload C 6 rfl d_Mo_feed_46 ?_
    refine g_bipush (v := 12) C rfl d_Mo_feed_48 ?_
    refine g_icmp_ge C d_Mo_feed_50 (fun _ => ?_) (fun c_51 => absurd c_51 (by decide))
    refine g_iload C 6 rfl d_Mo_feed_57 ?_
    refine g_bipush (v := 16) C rfl d_Mo_feed_59 ?_
    refine g_icmp_ge C d_Mo_feed_61 (fun c_52 => absurd c_52 (by decide)) (fun _ => ?_)
    refine g_iload C 4 rfl d_Mo_feed_64 ?_
    refine g_goto C d_Mo_feed_66 ?_
    refine g_istore (lv1 := [(0, .ref h), (1, .int p0), (2, .int p1), (3, .int p2), (4, .int p3), (5, .int p4), (6, .int 14), (7, .int p3)]) C d_Mo_feed_71 [1, 2, 3, 4, 5, 6, 7, 0] (by decide) rfl ?_
    refine g_aload_n C 0 rfl d_Mo_feed_73 ?_
    refine g_get C 0 rfl rfl in_Mo 5 (by decide) kw_1025 rfl d_Mo_feed_74 ?_
    refine g_aload_n C 0 rfl d_Mo_feed_77 ?_
    refine g_get C 0 rfl rfl in_Mo 7 (by decide) kw_1027 rfl d_Mo_feed_78 ?_
    refine g_iload C 6 rfl d_Mo_feed_81 ?_
    refine g_iadd C d_Mo_feed_83 ?_
    refine g_eq (st1 := [.int (nI (t + 14)), .ref r5]) (congrArg (fun z => Value.int z :: [.ref r5]) (nI_add t 14)) rfl ?_
    refine g_iload C 7 rfl d_Mo_feed_84 ?_
    refine g_bipush (v := 24) C rfl d_Mo_feed_86 ?_
    refine g_bipush (v := 8) C rfl d_Mo_feed_88 ?_
    refine g_iload C 6 rfl d_Mo_feed_90 ?_
    refine g_iconst (v := 3) C rfl d_Mo_feed_92 ?_
    refine g_iand C d_Mo_feed_93 ?_
    refine g_eq (st1 := [.int 2, .int 8, .int 24, .int p3, .int (nI (t + 14)), .ref r5]) (congrArg (fun z => Value.int z :: [.int 8, .int 24, .int p3, .int (nI (t + 14)), .ref r5]) (by decide)) rfl ?_
    refine g_imul C d_Mo_feed_94 ?_
    refine g_eq (st1 := [.int 16, .int 24, .int p3, .int (nI (t + 14)), .ref r5]) (congrArg (fun z => Value.int z :: [.int 24, .int p3, .int (nI (t + 14)), .ref r5]) (by decide)) rfl ?_
    refine g_isub C d_Mo_feed_95 ?_
    refine g_eq (st1 := [.int 8, .int p3, .int (nI (t + 14)), .ref r5]) (congrArg (fun z => Value.int z :: [.int p3, .int (nI (t + 14)), .ref r5]) (by decide)) rfl ?_
    refine g_ishr C d_Mo_feed_96 ?_
    refine g_i2b C d_Mo_feed_97 ?_
    refine g_bast (X1 := [(h, .inr (13, [.ref r0, .ref r1, .ref r2, .int mn, .int dt, .ref r5, .ref r6, .int (nI t), .int sz, .int fk, .int fp, .int at1, .int en, .int tk, .int nu, .long nm, .ref r16, .ref r17, .ref r18, .ref r19, .ref r20, .ref r21, .ref r22, .ref r23, .int fl, .ref r25, .int wa, .ref r27, .ref r28, .ref r29, .ref r30, .ref r31, .int co, .ref r33, .ref r34, .ref r35, .ref r36, .ref r37, .ref r38, .ref r39, .ref r40, .int db])), (r5, .inl (g.2.1 2, 320, .inl (upd (upd (upd (upd (upd (upd (upd (upd (upd (upd (upd (upd (upd (upd (upd tf (t + 0) (vp_nar .byte (Int8.toInt32 (Int32.toInt8 (p0 >>> (24 &&& 31)))))) (t + 1) (vp_nar .byte (Int8.toInt32 (Int32.toInt8 (p0 >>> (16 &&& 31)))))) (t + 2) (vp_nar .byte (Int8.toInt32 (Int32.toInt8 (p0 >>> (8 &&& 31)))))) (t + 3) (vp_nar .byte (Int8.toInt32 (Int32.toInt8 (p0 >>> (0 &&& 31)))))) (t + 4) (vp_nar .byte (Int8.toInt32 (Int32.toInt8 (p1 >>> (24 &&& 31)))))) (t + 5) (vp_nar .byte (Int8.toInt32 (Int32.toInt8 (p1 >>> (16 &&& 31)))))) (t + 6) (vp_nar .byte (Int8.toInt32 (Int32.toInt8 (p1 >>> (8 &&& 31)))))) (t + 7) (vp_nar .byte (Int8.toInt32 (Int32.toInt8 (p1 >>> (0 &&& 31)))))) (t + 8) (vp_nar .byte (Int8.toInt32 (Int32.toInt8 (p2 >>> (24 &&& 31)))))) (t + 9) (vp_nar .byte (Int8.toInt32 (Int32.toInt8 (p2 >>> (16 &&& 31)))))) (t + 10) (vp_nar .byte (Int8.toInt32 (Int32.toInt8 (p2 >>> (8 &&& 31)))))) (t + 11) (vp_nar .byte (Int8.toInt32 (Int32.toInt8 (p2 >>> (0 &&& 31)))))) (t + 12) (vp_nar .byte (Int8.toInt32 (Int32.toInt8 (p3 >>> (24 &&& 31)))))) (t + 13) (vp_nar .byte (Int8.toInt32 (Int32.toInt8 (p3 >>> (16 &&& 31)))))) (Int32.toNatClampNeg (nI (t + 14))) (vp_nar .byte (Int8.toInt32 (Int32.toInt8 (p3 >>> (8 &&& 31))))))))]) C 1 rfl (vp_in_nI (by omega) (by decide)) rfl d_Mo_feed_98 ?_
    refine g_eq (X1 := [(h, .inr (13, [.ref r0, .ref r1, .ref r2, .int mn, .int dt, .ref r5, .ref r6, .int (nI t), .int sz, .int fk, .int fp, .int at1, .int en, .int tk, .int nu, .long nm, .ref r16, .ref r17, .ref r18, .ref r19, .ref r20, .ref r21, .ref r22, .ref r23, .int fl, .ref r25, .int wa, .ref r27, .ref r28, .ref r29, .ref r30, .ref r31, .int co, .ref r33, .ref r34, .ref r35, .ref r36, .ref r37, .ref r38, .ref r39, .ref r40, .int db])), (r5, .inl (g.2.1 2, 320, .inl (upd (upd (upd (upd (upd (upd (upd (upd (upd (upd (upd (upd (upd (upd (upd tf (t + 0) (vp_nar .byte (Int8.toInt32 (Int32.toInt8 (p0 >>> (24 &&& 31)))))) (t + 1) (vp_nar .byte (Int8.toInt32 (Int32.toInt8 (p0 >>> (16 &&& 31)))))) (t + 2) (vp_nar .byte (Int8.toInt32 (Int32.toInt8 (p0 >>> (8 &&& 31)))))) (t + 3) (vp_nar .byte (Int8.toInt32 (Int32.toInt8 (p0 >>> (0 &&& 31)))))) (t + 4) (vp_nar .byte (Int8.toInt32 (Int32.toInt8 (p1 >>> (24 &&& 31)))))) (t + 5) (vp_nar .byte (Int8.toInt32 (Int32.toInt8 (p1 >>> (16 &&& 31)))))) (t + 6) (vp_nar .byte (Int8.toInt32 (Int32.toInt8 (p1 >>> (8 &&& 31)))))) (t + 7) (vp_nar .byte (Int8.toInt32 (Int32.toInt8 (p1 >>> (0 &&& 31)))))) (t + 8) (vp_nar .byte (Int8.toInt32 (Int32.toInt8 (p2 >>> (24 &&& 31)))))) (t + 9) (vp_nar .byte (Int8.toInt32 (Int32.toInt8 (p2 >>> (16 &&& 31)))))) (t + 10) (vp_nar .byte (Int8.toInt32 (Int32.toInt8 (p2 >>> (8 &&& 31)))))) (t + 11) (vp_nar .byte (Int8.toInt32 (Int32.toInt8 (p2 >>> (0 &&& 31)))))) (t + 12) (vp_nar .byte (Int8.toInt32 (Int32.toInt8 (p3 >>> (24 &&& 31)))))) (t + 13) (vp_nar .byte (Int8.toInt32 (Int32.toInt8 (p3 >>> (16 &&& 31)))))) (t + 14) (vp_nar .byte (Int8.toInt32 (Int32.toInt8 (p3 >>> (8 &&& 31))))))))]) rfl (by rw [nI_clamp (by omega)]) ?_
    refine g_iinc (v := 15) (lv1 := [(0, .ref h), (1, .int p0), (2, .int p1), (3, .int p2), (4, .int p3), (5, .int p4), (6, .int 15), (7, .int p3)]) C d_Mo_feed_99 6 rfl (by decide) [1, 2, 3, 4, 5, 6, 0, 7] (by decide) rfl ?_
    refine g_goto C d_Mo_feed_102 ?_
    refine g_iload C 6 rfl d_Mo_feed_18 ?_
    refine g_bipush (v := 20) C rfl d_Mo_feed_20 ?_
    refine g_icmp_ge C d_Mo_feed_22 (fun c_53 => absurd c_53 (by decide)) (fun _ => ?_)
    refine g_iload C 6 rfl d_Mo_feed_25 ?_
    refine g_iconst (v := 4) C rfl d_Mo_feed_27 ?_
    refine g_icmp_ge C d_Mo_feed_28 (fun _ => ?_) (fun c_54 => absurd c_54 (by decide))
    refine g_iload C 6 rfl d_Mo_feed_35 ?_
    refine g_bipush (v := 8) C rfl d_Mo_feed_37 ?_
    refine g_icmp_ge C d_Mo_feed_39 (fun _ => ?_) (fun c_55 => absurd c_55 (by decide))
    refine g_iload C 6 rfl d_Mo_feed_46 ?_
    refine g_bipush (v := 12) C rfl d_Mo_feed_48 ?_
    refine g_icmp_ge C d_Mo_feed_50 (fun _ => ?_) (fun c_56 => absurd c_56 (by decide))
    refine g_iload C 6 rfl d_Mo_feed_57 ?_
    refine g_bipush (v := 16) C rfl d_Mo_feed_59 ?_
    refine g_icmp_ge C d_Mo_feed_61 (fun c_57 => absurd c_57 (by decide)) (fun _ => ?_)
    refine g_iload C 4 rfl d_Mo_feed_64 ?_
    refine g_goto C d_Mo_feed_66 ?_
    refine g_istore (lv1 := [(0, .ref h), (1, .int p0), (2, .int p1), (3, .int p2), (4, .int p3), (5, .int p4), (6, .int 15), (7, .int p3)]) C d_Mo_feed_71 [1, 2, 3, 4, 5, 6, 7, 0] (by decide) rfl ?_
    refine g_aload_n C 0 rfl d_Mo_feed_73 ?_
    refine g_get C 0 rfl rfl in_Mo 5 (by decide) kw_1025 rfl d_Mo_feed_74 ?_
    refine g_aload_n C 0 rfl d_Mo_feed_77 ?_
    refine g_get C 0 rfl rfl in_Mo 7 (by decide) kw_1027 rfl d_Mo_feed_78 ?_
    refine g_iload C 6 rfl d_Mo_feed_81 ?_
    refine g_iadd C d_Mo_feed_83 ?_
    refine g_eq (st1 := [.int (nI (t + 15)), .ref r5]) (congrArg (fun z => Value.int z :: [.ref r5]) (nI_add t 15)) rfl ?_
    refine g_iload C 7 rfl d_Mo_feed_84 ?_
    refine g_bipush (v := 24) C rfl d_Mo_feed_86 ?_
    refine g_bipush (v := 8) C rfl d_Mo_feed_88 ?_
    refine g_iload C 6 rfl d_Mo_feed_90 ?_
    refine g_iconst (v := 3) C rfl d_Mo_feed_92 ?_
    refine g_iand C d_Mo_feed_93 ?_
    refine g_eq (st1 := [.int 3, .int 8, .int 24, .int p3, .int (nI (t + 15)), .ref r5]) (congrArg (fun z => Value.int z :: [.int 8, .int 24, .int p3, .int (nI (t + 15)), .ref r5]) (by decide)) rfl ?_
    refine g_imul C d_Mo_feed_94 ?_
    refine g_eq (st1 := [.int 24, .int 24, .int p3, .int (nI (t + 15)), .ref r5]) (congrArg (fun z => Value.int z :: [.int 24, .int p3, .int (nI (t + 15)), .ref r5]) (by decide)) rfl ?_
    refine g_isub C d_Mo_feed_95 ?_
    refine g_eq (st1 := [.int 0, .int p3, .int (nI (t + 15)), .ref r5]) (congrArg (fun z => Value.int z :: [.int p3, .int (nI (t + 15)), .ref r5]) (by decide)) rfl ?_
    refine g_ishr C d_Mo_feed_96 ?_
    refine g_i2b C d_Mo_feed_97 ?_
    refine g_bast (X1 := [(h, .inr (13, [.ref r0, .ref r1, .ref r2, .int mn, .int dt, .ref r5, .ref r6, .int (nI t), .int sz, .int fk, .int fp, .int at1, .int en, .int tk, .int nu, .long nm, .ref r16, .ref r17, .ref r18, .ref r19, .ref r20, .ref r21, .ref r22, .ref r23, .int fl, .ref r25, .int wa, .ref r27, .ref r28, .ref r29, .ref r30, .ref r31, .int co, .ref r33, .ref r34, .ref r35, .ref r36, .ref r37, .ref r38, .ref r39, .ref r40, .int db])), (r5, .inl (g.2.1 2, 320, .inl (upd (upd (upd (upd (upd (upd (upd (upd (upd (upd (upd (upd (upd (upd (upd (upd tf (t + 0) (vp_nar .byte (Int8.toInt32 (Int32.toInt8 (p0 >>> (24 &&& 31)))))) (t + 1) (vp_nar .byte (Int8.toInt32 (Int32.toInt8 (p0 >>> (16 &&& 31)))))) (t + 2) (vp_nar .byte (Int8.toInt32 (Int32.toInt8 (p0 >>> (8 &&& 31)))))) (t + 3) (vp_nar .byte (Int8.toInt32 (Int32.toInt8 (p0 >>> (0 &&& 31)))))) (t + 4) (vp_nar .byte (Int8.toInt32 (Int32.toInt8 (p1 >>> (24 &&& 31)))))) (t + 5) (vp_nar .byte (Int8.toInt32 (Int32.toInt8 (p1 >>> (16 &&& 31)))))) (t + 6) (vp_nar .byte (Int8.toInt32 (Int32.toInt8 (p1 >>> (8 &&& 31)))))) (t + 7) (vp_nar .byte (Int8.toInt32 (Int32.toInt8 (p1 >>> (0 &&& 31)))))) (t + 8) (vp_nar .byte (Int8.toInt32 (Int32.toInt8 (p2 >>> (24 &&& 31)))))) (t + 9) (vp_nar .byte (Int8.toInt32 (Int32.toInt8 (p2 >>> (16 &&& 31)))))) (t + 10) (vp_nar .byte (Int8.toInt32 (Int32.toInt8 (p2 >>> (8 &&& 31)))))) (t + 11) (vp_nar .byte (Int8.toInt32 (Int32.toInt8 (p2 >>> (0 &&& 31)))))) (t + 12) (vp_nar .byte (Int8.toInt32 (Int32.toInt8 (p3 >>> (24 &&& 31)))))) (t + 13) (vp_nar .byte (Int8.toInt32 (Int32.toInt8 (p3 >>> (16 &&& 31)))))) (t + 14) (vp_nar .byte (Int8.toInt32 (Int32.toInt8 (p3 >>> (8 &&& 31)))))) (Int32.toNatClampNeg (nI (t + 15))) (vp_nar .byte (Int8.toInt32 (Int32.toInt8 (p3 >>> (0 &&& 31))))))))]) C 1 rfl (vp_in_nI (by omega) (by decide)) rfl d_Mo_feed_98 ?_
    refine g_eq (X1 := [(h, .inr (13, [.ref r0, .ref r1, .ref r2, .int mn, .int dt, .ref r5, .ref r6, .int (nI t), .int sz, .int fk, .int fp, .int at1, .int en, .int tk, .int nu, .long nm, .ref r16, .ref r17, .ref r18, .ref r19, .ref r20, .ref r21, .ref r22, .ref r23, .int fl, .ref r25, .int wa, .ref r27, .ref r28, .ref r29, .ref r30, .ref r31, .int co, .ref r33, .ref r34, .ref r35, .ref r36, .ref r37, .ref r38, .ref r39, .ref r40, .int db])), (r5, .inl (g.2.1 2, 320, .inl (upd (upd (upd (upd (upd (upd (upd (upd (upd (upd (upd (upd (upd (upd (upd (upd tf (t + 0) (vp_nar .byte (Int8.toInt32 (Int32.toInt8 (p0 >>> (24 &&& 31)))))) (t + 1) (vp_nar .byte (Int8.toInt32 (Int32.toInt8 (p0 >>> (16 &&& 31)))))) (t + 2) (vp_nar .byte (Int8.toInt32 (Int32.toInt8 (p0 >>> (8 &&& 31)))))) (t + 3) (vp_nar .byte (Int8.toInt32 (Int32.toInt8 (p0 >>> (0 &&& 31)))))) (t + 4) (vp_nar .byte (Int8.toInt32 (Int32.toInt8 (p1 >>> (24 &&& 31)))))) (t + 5) (vp_nar .byte (Int8.toInt32 (Int32.toInt8 (p1 >>> (16 &&& 31)))))) (t + 6) (vp_nar .byte (Int8.toInt32 (Int32.toInt8 (p1 >>> (8 &&& 31)))))) (t + 7) (vp_nar .byte (Int8.toInt32 (Int32.toInt8 (p1 >>> (0 &&& 31)))))) (t + 8) (vp_nar .byte (Int8.toInt32 (Int32.toInt8 (p2 >>> (24 &&& 31)))))) (t + 9) (vp_nar .byte (Int8.toInt32 (Int32.toInt8 (p2 >>> (16 &&& 31)))))) (t + 10) (vp_nar .byte (Int8.toInt32 (Int32.toInt8 (p2 >>> (8 &&& 31)))))) (t + 11) (vp_nar .byte (Int8.toInt32 (Int32.toInt8 (p2 >>> (0 &&& 31)))))) (t + 12) (vp_nar .byte (Int8.toInt32 (Int32.toInt8 (p3 >>> (24 &&& 31)))))) (t + 13) (vp_nar .byte (Int8.toInt32 (Int32.toInt8 (p3 >>> (16 &&& 31)))))) (t + 14) (vp_nar .byte (Int8.toInt32 (Int32.toInt8 (p3 >>> (8 &&& 31)))))) (t + 15) (vp_nar .byte (Int8.toInt32 (Int32.toInt8 (p3 >>> (0 &&& 31))))))))]) rfl (by rw [nI_clamp (by omega)]) ?_
    refine g_iinc (v := 16) (lv1 := [(0, .ref h), (1, .int p0), (2, .int p1), (3, .int p2), (4, .int p3), (5, .int p4), (6, .int 16), (7, .int p3)]) C d_Mo_feed_99 6 rfl (by decide) [1, 2, 3, 4, 5, 6, 0, 7] (by decide) rfl ?_
    refine g_goto C d_Mo_feed_102 ?_
    refine g_iload C 6 rfl d_Mo_feed_18 ?_
    refine g_bipush (v := 20) C rfl d_Mo_feed_20 ?_
    refine g_icmp_ge C d_Mo_feed_22 (fun c_58 => absurd c_58 (by decide)) (fun _ => ?_)
    refine g_iload C 6 rfl d_Mo_feed_25 ?_
    refine g_iconst (v := 4) C rfl d_Mo_feed_27 ?_
    refine g_icmp_ge C d_Mo_feed_28 (fun _ => ?_) (fun c_59 => absurd c_59 (by decide))
    refine g_iload C 6 rfl d_Mo_feed_35 ?_
    refine g_bipush (v := 8) C rfl d_Mo_feed_37 ?_
    refine g_icmp_ge C d_Mo_feed_39 (fun _ => ?_) (fun c_60 => absurd c_60 (by decide))
    refine g_iload C 6 rfl d_Mo_feed_46 ?_
    refine g_bipush (v := 12) C rfl d_Mo_feed_48 ?_
    refine g_icmp_ge C d_Mo_feed_50 (fun _ => ?_) (fun c_61 => absurd c_61 (by decide))
    refine g_iload C 6 rfl d_Mo_feed_57 ?_
    refine g_bipush (v := 16) C rfl d_Mo_feed_59 ?_
    refine g_icmp_ge C d_Mo_feed_61 (fun _ => ?_) (fun c_62 => absurd c_62 (by decide))
    refine g_iload C 5 rfl d_Mo_feed_69 ?_
    refine g_istore (lv1 := [(0, .ref h), (1, .int p0), (2, .int p1), (3, .int p2), (4, .int p3), (5, .int p4), (6, .int 16), (7, .int p4)]) C d_Mo_feed_71 [1, 2, 3, 4, 5, 6, 7, 0] (by decide) rfl ?_
    refine g_aload_n C 0 rfl d_Mo_feed_73 ?_
    refine g_get C 0 rfl rfl in_Mo 5 (by decide) kw_1025 rfl d_Mo_feed_74 ?_
    refine g_aload_n C 0 rfl d_Mo_feed_77 ?_
    refine g_get C 0 rfl rfl in_Mo 7 (by decide) kw_1027 rfl d_Mo_feed_78 ?_
    refine g_iload C 6 rfl d_Mo_feed_81 ?_
    refine g_iadd C d_Mo_feed_83 ?_
    refine g_eq (st1 := [.int (nI (t + 16)), .ref r5]) (congrArg (fun z => Value.int z :: [.ref r5]) (nI_add t 16)) rfl ?_
    refine g_iload C 7 rfl d_Mo_feed_84 ?_
    refine g_bipush (v := 24) C rfl d_Mo_feed_86 ?_
    refine g_bipush (v := 8) C rfl d_Mo_feed_88 ?_
    refine g_iload C 6 rfl d_Mo_feed_90 ?_
    refine g_iconst (v := 3) C rfl d_Mo_feed_92 ?_
    refine g_iand C d_Mo_feed_93 ?_
    refine g_eq (st1 := [.int 0, .int 8, .int 24, .int p4, .int (nI (t + 16)), .ref r5]) (congrArg (fun z => Value.int z :: [.int 8, .int 24, .int p4, .int (nI (t + 16)), .ref r5]) (by decide)) rfl ?_
    refine g_imul C d_Mo_feed_94 ?_
    refine g_eq (st1 := [.int 0, .int 24, .int p4, .int (nI (t + 16)), .ref r5]) (congrArg (fun z => Value.int z :: [.int 24, .int p4, .int (nI (t + 16)), .ref r5]) (by decide)) rfl ?_
    refine g_isub C d_Mo_feed_95 ?_
    refine g_eq (st1 := [.int 24, .int p4, .int (nI (t + 16)), .ref r5]) (congrArg (fun z => Value.int z :: [.int p4, .int (nI (t + 16)), .ref r5]) (by decide)) rfl ?_
    refine g_ishr C d_Mo_feed_96 ?_
    refine g_i2b C d_Mo_feed_97 ?_
    refine g_bast (X1 := [(h, .inr (13, [.ref r0, .ref r1, .ref r2, .int mn, .int dt, .ref r5, .ref r6, .int (nI t), .int sz, .int fk, .int fp, .int at1, .int en, .int tk, .int nu, .long nm, .ref r16, .ref r17, .ref r18, .ref r19, .ref r20, .ref r21, .ref r22, .ref r23, .int fl, .ref r25, .int wa, .ref r27, .ref r28, .ref r29, .ref r30, .ref r31, .int co, .ref r33, .ref r34, .ref r35, .ref r36, .ref r37, .ref r38, .ref r39, .ref r40, .int db])), (r5, .inl (g.2.1 2, 320, .inl (upd (upd (upd (upd (upd (upd (upd (upd (upd (upd (upd (upd (upd (upd (upd (upd (upd tf (t + 0) (vp_nar .byte (Int8.toInt32 (Int32.toInt8 (p0 >>> (24 &&& 31)))))) (t + 1) (vp_nar .byte (Int8.toInt32 (Int32.toInt8 (p0 >>> (16 &&& 31)))))) (t + 2) (vp_nar .byte (Int8.toInt32 (Int32.toInt8 (p0 >>> (8 &&& 31)))))) (t + 3) (vp_nar .byte (Int8.toInt32 (Int32.toInt8 (p0 >>> (0 &&& 31)))))) (t + 4) (vp_nar .byte (Int8.toInt32 (Int32.toInt8 (p1 >>> (24 &&& 31)))))) (t + 5) (vp_nar .byte (Int8.toInt32 (Int32.toInt8 (p1 >>> (16 &&& 31)))))) (t + 6) (vp_nar .byte (Int8.toInt32 (Int32.toInt8 (p1 >>> (8 &&& 31)))))) (t + 7) (vp_nar .byte (Int8.toInt32 (Int32.toInt8 (p1 >>> (0 &&& 31)))))) (t + 8) (vp_nar .byte (Int8.toInt32 (Int32.toInt8 (p2 >>> (24 &&& 31)))))) (t + 9) (vp_nar .byte (Int8.toInt32 (Int32.toInt8 (p2 >>> (16 &&& 31)))))) (t + 10) (vp_nar .byte (Int8.toInt32 (Int32.toInt8 (p2 >>> (8 &&& 31)))))) (t + 11) (vp_nar .byte (Int8.toInt32 (Int32.toInt8 (p2 >>> (0 &&& 31)))))) (t + 12) (vp_nar .byte (Int8.toInt32 (Int32.toInt8 (p3 >>> (24 &&& 31)))))) (t + 13) (vp_nar .byte (Int8.toInt32 (Int32.toInt8 (p3 >>> (16 &&& 31)))))) (t + 14) (vp_nar .byte (Int8.toInt32 (Int32.toInt8 (p3 >>> (8 &&& 31)))))) (t + 15) (vp_nar .byte (Int8.toInt32 (Int32.toInt8 (p3 >>> (0 &&& 31)))))) (Int32.toNatClampNeg (nI (t + 16))) (vp_nar .byte (Int8.toInt32 (Int32.toInt8 (p4 >>> (24 &&& 31))))))))]) C 1 rfl (vp_in_nI (by omega) (by decide)) rfl d_Mo_feed_98 ?_
    refine g_eq (X1 := [(h, .inr (13, [.ref r0, .ref r1, .ref r2, .int mn, .int dt, .ref r5, .ref r6, .int (nI t), .int sz, .int fk, .int fp, .int at1, .int en, .int tk, .int nu, .long nm, .ref r16, .ref r17, .ref r18, .ref r19, .ref r20, .ref r21, .ref r22, .ref r23, .int fl, .ref r25, .int wa, .ref r27, .ref r28, .ref r29, .ref r30, .ref r31, .int co, .ref r33, .ref r34, .ref r35, .ref r36, .ref r37, .ref r38, .ref r39, .ref r40, .int db])), (r5, .inl (g.2.1 2, 320, .inl (upd (upd (upd (upd (upd (upd (upd (upd (upd (upd (upd (upd (upd (upd (upd (upd (upd tf (t + 0) (vp_nar .byte (Int8.toInt32 (Int32.toInt8 (p0 >>> (24 &&& 31)))))) (t + 1) (vp_nar .byte (Int8.toInt32 (Int32.toInt8 (p0 >>> (16 &&& 31)))))) (t + 2) (vp_nar .byte (Int8.toInt32 (Int32.toInt8 (p0 >>> (8 &&& 31)))))) (t + 3) (vp_nar .byte (Int8.toInt32 (Int32.toInt8 (p0 >>> (0 &&& 31)))))) (t + 4) (vp_nar .byte (Int8.toInt32 (Int32.toInt8 (p1 >>> (24 &&& 31)))))) (t + 5) (vp_nar .byte (Int8.toInt32 (Int32.toInt8 (p1 >>> (16 &&& 31)))))) (t + 6) (vp_nar .byte (Int8.toInt32 (Int32.toInt8 (p1 >>> (8 &&& 31)))))) (t + 7) (vp_nar .byte (Int8.toInt32 (Int32.toInt8 (p1 >>> (0 &&& 31)))))) (t + 8) (vp_nar .byte (Int8.toInt32 (Int32.toInt8 (p2 >>> (24 &&& 31)))))) (t + 9) (vp_nar .byte (Int8.toInt32 (Int32.toInt8 (p2 >>> (16 &&& 31)))))) (t + 10) (vp_nar .byte (Int8.toInt32 (Int32.toInt8 (p2 >>> (8 &&& 31)))))) (t + 11) (vp_nar .byte (Int8.toInt32 (Int32.toInt8 (p2 >>> (0 &&& 31)))))) (t + 12) (vp_nar .byte (Int8.toInt32 (Int32.toInt8 (p3 >>> (24 &&& 31)))))) (t + 13) (vp_nar .byte (Int8.toInt32 (Int32.toInt8 (p3 >>> (16 &&& 31)))))) (t + 14) (vp_nar .byte (Int8.toInt32 (Int32.toInt8 (p3 >>> (8 &&& 31)))))) (t + 15) (vp_nar .byte (Int8.toInt32 (Int32.toInt8 (p3 >>> (0 &&& 31)))))) (t + 16) (vp_nar .byte (Int8.toInt32 (Int32.toInt8 (p4 >>> (24 &&& 31))))))))]) rfl (by rw [nI_clamp (by omega)]) ?_
    refine g_iinc (v := 17) (lv1 := [(0, .ref h), (1, .int p0), (2, .int p1), (3, .int p2), (4, .int p3), (5, .int p4), (6, .int 17), (7, .int p4)]) C d_Mo_feed_99 6 rfl (by decide) [1, 2, 3, 4, 5, 6, 0, 7] (by decide) rfl ?_
    refine g_goto C d_Mo_feed_102 ?_
    refine g_iload C 6 rfl d_Mo_feed_18 ?_
    refine g_bipush (v := 20) C rfl d_Mo_feed_20 ?_
    refine g_icmp_ge C d_Mo_feed_22 (fun c_63 => absurd c_63 (by decide)) (fun _ => ?_)
    refine g_iload C 6 rfl d_Mo_feed_25 ?_
    refine g_iconst (v := 4) C rfl d_Mo_feed_27 ?_
    refine g_icmp_ge C d_Mo_feed_28 (fun _ => ?_) (fun c_64 => absurd c_64 (by decide))
    refine g_iload C 6 rfl d_Mo_feed_35 ?_
    refine g_bipush (v := 8) C rfl d_Mo_feed_37 ?_
    refine g_icmp_ge C d_Mo_feed_39 (fun _ => ?_) (fun c_65 => absurd c_65 (by decide))
    refine g_iload C 6 rfl d_Mo_feed_46 ?_
    refine g_bipush (v := 12) C rfl d_Mo_feed_48 ?_
    refine g_icmp_ge C d_Mo_feed_50 (fun _ => ?_) (fun c_66 => absurd c_66 (by decide))
    refine g_iload C 6 rfl d_Mo_feed_57 ?_
    refine g_bipush (v := 16) C rfl d_Mo_feed_59 ?_
    refine g_icmp_ge C d_Mo_feed_61 (fun _ => ?_) (fun c_67 => absurd c_67 (by decide))
    refine g_iload C 5 rfl d_Mo_feed_69 ?_
    refine g_istore (lv1 := [(0, .ref h), (1, .int p0), (2, .int p1), (3, .int p2), (4, .int p3), (5, .int p4), (6, .int 17), (7, .int p4)]) C d_Mo_feed_71 [1, 2, 3, 4, 5, 6, 7, 0] (by decide) rfl ?_
    refine g_aload_n C 0 rfl d_Mo_feed_73 ?_
    refine g_get C 0 rfl rfl in_Mo 5 (by decide) kw_1025 rfl d_Mo_feed_74 ?_
    refine g_aload_n C 0 rfl d_Mo_feed_77 ?_
    refine g_get C 0 rfl rfl in_Mo 7 (by decide) kw_1027 rfl d_Mo_feed_78 ?_
    refine g_iload C 6 rfl d_Mo_feed_81 ?_
    refine g_iadd C d_Mo_feed_83 ?_
    refine g_eq (st1 := [.int (nI (t + 17)), .ref r5]) (congrArg (fun z => Value.int z :: [.ref r5]) (nI_add t 17)) rfl ?_
    refine g_iload C 7 rfl d_Mo_feed_84 ?_
    refine g_bipush (v := 24) C rfl d_Mo_feed_86 ?_
    refine g_bipush (v := 8) C rfl d_Mo_feed_88 ?_
    refine g_iload C 6 rfl d_Mo_feed_90 ?_
    refine g_iconst (v := 3) C rfl d_Mo_feed_92 ?_
    refine g_iand C d_Mo_feed_93 ?_
    refine g_eq (st1 := [.int 1, .int 8, .int 24, .int p4, .int (nI (t + 17)), .ref r5]) (congrArg (fun z => Value.int z :: [.int 8, .int 24, .int p4, .int (nI (t + 17)), .ref r5]) (by decide)) rfl ?_
    refine g_imul C d_Mo_feed_94 ?_
    refine g_eq (st1 := [.int 8, .int 24, .int p4, .int (nI (t + 17)), .ref r5]) (congrArg (fun z => Value.int z :: [.int 24, .int p4, .int (nI (t + 17)), .ref r5]) (by decide)) rfl ?_
    refine g_isub C d_Mo_feed_95 ?_
    refine g_eq (st1 := [.int 16, .int p4, .int (nI (t + 17)), .ref r5]) (congrArg (fun z => Value.int z :: [.int p4, .int (nI (t + 17)), .ref r5]) (by decide)) rfl ?_
    refine g_ishr C d_Mo_feed_96 ?_
    refine g_i2b C d_Mo_feed_97 ?_
    refine g_bast (X1 := [(h, .inr (13, [.ref r0, .ref r1, .ref r2, .int mn, .int dt, .ref r5, .ref r6, .int (nI t), .int sz, .int fk, .int fp, .int at1, .int en, .int tk, .int nu, .long nm, .ref r16, .ref r17, .ref r18, .ref r19, .ref r20, .ref r21, .ref r22, .ref r23, .int fl, .ref r25, .int wa, .ref r27, .ref r28, .ref r29, .ref r30, .ref r31, .int co, .ref r33, .ref r34, .ref r35, .ref r36, .ref r37, .ref r38, .ref r39, .ref r40, .int db])), (r5, .inl (g.2.1 2, 320, .inl (upd (upd (upd (upd (upd (upd (upd (upd (upd (upd (upd (upd (upd (upd (upd (upd (upd (upd tf (t + 0) (vp_nar .byte (Int8.toInt32 (Int32.toInt8 (p0 >>> (24 &&& 31)))))) (t + 1) (vp_nar .byte (Int8.toInt32 (Int32.toInt8 (p0 >>> (16 &&& 31)))))) (t + 2) (vp_nar .byte (Int8.toInt32 (Int32.toInt8 (p0 >>> (8 &&& 31)))))) (t + 3) (vp_nar .byte (Int8.toInt32 (Int32.toInt8 (p0 >>> (0 &&& 31)))))) (t + 4) (vp_nar .byte (Int8.toInt32 (Int32.toInt8 (p1 >>> (24 &&& 31)))))) (t + 5) (vp_nar .byte (Int8.toInt32 (Int32.toInt8 (p1 >>> (16 &&& 31)))))) (t + 6) (vp_nar .byte (Int8.toInt32 (Int32.toInt8 (p1 >>> (8 &&& 31)))))) (t + 7) (vp_nar .byte (Int8.toInt32 (Int32.toInt8 (p1 >>> (0 &&& 31)))))) (t + 8) (vp_nar .byte (Int8.toInt32 (Int32.toInt8 (p2 >>> (24 &&& 31)))))) (t + 9) (vp_nar .byte (Int8.toInt32 (Int32.toInt8 (p2 >>> (16 &&& 31)))))) (t + 10) (vp_nar .byte (Int8.toInt32 (Int32.toInt8 (p2 >>> (8 &&& 31)))))) (t + 11) (vp_nar .byte (Int8.toInt32 (Int32.toInt8 (p2 >>> (0 &&& 31)))))) (t + 12) (vp_nar .byte (Int8.toInt32 (Int32.toInt8 (p3 >>> (24 &&& 31)))))) (t + 13) (vp_nar .byte (Int8.toInt32 (Int32.toInt8 (p3 >>> (16 &&& 31)))))) (t + 14) (vp_nar .byte (Int8.toInt32 (Int32.toInt8 (p3 >>> (8 &&& 31)))))) (t + 15) (vp_nar .byte (Int8.toInt32 (Int32.toInt8 (p3 >>> (0 &&& 31)))))) (t + 16) (vp_nar .byte (Int8.toInt32 (Int32.toInt8 (p4 >>> (24 &&& 31)))))) (Int32.toNatClampNeg (nI (t + 17))) (vp_nar .byte (Int8.toInt32 (Int32.toInt8 (p4 >>> (16 &&& 31))))))))]) C 1 rfl (vp_in_nI (by omega) (by decide)) rfl d_Mo_feed_98 ?_
    refine g_eq (X1 := [(h, .inr (13, [.ref r0, .ref r1, .ref r2, .int mn, .int dt, .ref r5, .ref r6, .int (nI t), .int sz, .int fk, .int fp, .int at1, .int en, .int tk, .int nu, .long nm, .ref r16, .ref r17, .ref r18, .ref r19, .ref r20, .ref r21, .ref r22, .ref r23, .int fl, .ref r25, .int wa, .ref r27, .ref r28, .ref r29, .ref r30, .ref r31, .int co, .ref r33, .ref r34, .ref r35, .ref r36, .ref r37, .ref r38, .ref r39, .ref r40, .int db])), (r5, .inl (g.2.1 2, 320, .inl (upd (upd (upd (upd (upd (upd (upd (upd (upd (upd (upd (upd (upd (upd (upd (upd (upd (upd tf (t + 0) (vp_nar .byte (Int8.toInt32 (Int32.toInt8 (p0 >>> (24 &&& 31)))))) (t + 1) (vp_nar .byte (Int8.toInt32 (Int32.toInt8 (p0 >>> (16 &&& 31)))))) (t + 2) (vp_nar .byte (Int8.toInt32 (Int32.toInt8 (p0 >>> (8 &&& 31)))))) (t + 3) (vp_nar .byte (Int8.toInt32 (Int32.toInt8 (p0 >>> (0 &&& 31)))))) (t + 4) (vp_nar .byte (Int8.toInt32 (Int32.toInt8 (p1 >>> (24 &&& 31)))))) (t + 5) (vp_nar .byte (Int8.toInt32 (Int32.toInt8 (p1 >>> (16 &&& 31)))))) (t + 6) (vp_nar .byte (Int8.toInt32 (Int32.toInt8 (p1 >>> (8 &&& 31)))))) (t + 7) (vp_nar .byte (Int8.toInt32 (Int32.toInt8 (p1 >>> (0 &&& 31)))))) (t + 8) (vp_nar .byte (Int8.toInt32 (Int32.toInt8 (p2 >>> (24 &&& 31)))))) (t + 9) (vp_nar .byte (Int8.toInt32 (Int32.toInt8 (p2 >>> (16 &&& 31)))))) (t + 10) (vp_nar .byte (Int8.toInt32 (Int32.toInt8 (p2 >>> (8 &&& 31)))))) (t + 11) (vp_nar .byte (Int8.toInt32 (Int32.toInt8 (p2 >>> (0 &&& 31)))))) (t + 12) (vp_nar .byte (Int8.toInt32 (Int32.toInt8 (p3 >>> (24 &&& 31)))))) (t + 13) (vp_nar .byte (Int8.toInt32 (Int32.toInt8 (p3 >>> (16 &&& 31)))))) (t + 14) (vp_nar .byte (Int8.toInt32 (Int32.toInt8 (p3 >>> (8 &&& 31)))))) (t + 15) (vp_nar .byte (Int8.toInt32 (Int32.toInt8 (p3 >>> (0 &&& 31)))))) (t + 16) (vp_nar .byte (Int8.toInt32 (Int32.toInt8 (p4 >>> (24 &&& 31)))))) (t + 17) (vp_nar .byte (Int8.toInt32 (Int32.toInt8 (p4 >>> (16 &&& 31))))))))]) rfl (by rw [nI_clamp (by omega)]) ?_
    refine g_iinc (v := 18) (lv1 := [(0, .ref h), (1, .int p0), (2, .int p1), (3, .int p2), (4, .int p3), (5, .int p4), (6, .int 18), (7, .int p4)]) C d_Mo_feed_99 6 rfl (by decide) [1, 2, 3, 4, 5, 6, 0, 7] (by decide) rfl ?_
    refine g_goto C d_Mo_feed_102 ?_
    refine g_iload C 6 rfl d_Mo_feed_18 ?_
    refine g_bipush (v := 20) C rfl d_Mo_feed_20 ?_
    refine g_icmp_ge C d_Mo_feed_22 (fun c_68 => absurd c_68 (by decide)) (fun _ => ?_)
    refine g_iload C 6 rfl d_Mo_feed_25 ?_
    refine g_iconst (v := 4) C rfl d_Mo_feed_27 ?_
    refine g_icmp_ge C d_Mo_feed_28 (fun _ => ?_) (fun c_69 => absurd c_69 (by decide))
    refine g_iload C 6 rfl d_Mo_feed_35 ?_
    refine g_bipush (v := 8) C rfl d_Mo_feed_37 ?_
    refine g_icmp_ge C d_Mo_feed_39 (fun _ => ?_) (fun c_70 => absurd c_70 (by decide))
    refine g_iload C 6 rfl d_Mo_feed_46 ?_
    refine g_bipush (v := 12) C rfl d_Mo_feed_48 ?_
    refine g_icmp_ge C d_Mo_feed_50 (fun _ => ?_) (fun c_71 => absurd c_71 (by decide))
    refine g_iload C 6 rfl d_Mo_feed_57 ?_
    refine g_bipush (v := 16) C rfl d_Mo_feed_59 ?_
    refine g_icmp_ge C d_Mo_feed_61 (fun _ => ?_) (fun c_72 => absurd c_72 (by decide))
    refine g_iload C 5 rfl d_Mo_feed_69 ?_
    refine g_istore (lv1 := [(0, .ref h), (1, .int p0), (2, .int p1), (3, .int p2), (4, .int p3), (5, .int p4), (6, .int 18), (7, .int p4)]) C d_Mo_feed_71 [1, 2, 3, 4, 5, 6, 7, 0] (by decide) rfl ?_
    refine g_aload_n C 0 rfl d_Mo_feed_73 ?_
    refine g_get C 0 rfl rfl in_Mo 5 (by decide) kw_1025 rfl d_Mo_feed_74 ?_
    refine g_aload_n C 0 rfl d_Mo_feed_77 ?_
    refine g_get C 0 rfl rfl in_Mo 7 (by decide) kw_1027 rfl d_Mo_feed_78 ?_
    refine g_iload C 6 rfl d_Mo_feed_81 ?_
    refine g_iadd C d_Mo_feed_83 ?_
    refine g_eq (st1 := [.int (nI (t + 18)), .ref r5]) (congrArg (fun z => Value.int z :: [.ref r5]) (nI_add t 18)) rfl ?_
    refine g_iload C 7 rfl d_Mo_feed_84 ?_
    refine g_bipush (v := 24) C rfl d_Mo_feed_86 ?_
    refine g_bipush (v := 8) C rfl d_Mo_feed_88 ?_
    refine g_iload C 6 rfl d_Mo_feed_90 ?_
    refine g_iconst (v := 3) C rfl d_Mo_feed_92 ?_
    refine g_iand C d_Mo_feed_93 ?_
    refine g_eq (st1 := [.int 2, .int 8, .int 24, .int p4, .int (nI (t + 18)), .ref r5]) (congrArg (fun z => Value.int z :: [.int 8, .int 24, .int p4, .int (nI (t + 18)), .ref r5]) (by decide)) rfl ?_
    refine g_imul C d_Mo_feed_94 ?_
    refine g_eq (st1 := [.int 16, .int 24, .int p4, .int (nI (t + 18)), .ref r5]) (congrArg (fun z => Value.int z :: [.int 24, .int p4, .int (nI (t + 18)), .ref r5]) (by decide)) rfl ?_
    refine g_isub C d_Mo_feed_95 ?_
    refine g_eq (st1 := [.int 8, .int p4, .int (nI (t + 18)), .ref r5]) (congrArg (fun z => Value.int z :: [.int p4, .int (nI (t + 18)), .ref r5]) (by decide)) rfl ?_
    refine g_ishr C d_Mo_feed_96 ?_
    refine g_i2b C d_Mo_feed_97 ?_
    refine g_bast (X1 := [(h, .inr (13, [.ref r0, .ref r1, .ref r2, .int mn, .int dt, .ref r5, .ref r6, .int (nI t), .int sz, .int fk, .int fp, .int at1, .int en, .int tk, .int nu, .long nm, .ref r16, .ref r17, .ref r18, .ref r19, .ref r20, .ref r21, .ref r22, .ref r23, .int fl, .ref r25, .int wa, .ref r27, .ref r28, .ref r29, .ref r30, .ref r31, .int co, .ref r33, .ref r34, .ref r35, .ref r36, .ref r37, .ref r38, .ref r39, .ref r40, .int db])), (r5, .inl (g.2.1 2, 320, .inl (upd (upd (upd (upd (upd (upd (upd (upd (upd (upd (upd (upd (upd (upd (upd (upd (upd (upd (upd tf (t + 0) (vp_nar .byte (Int8.toInt32 (Int32.toInt8 (p0 >>> (24 &&& 31)))))) (t + 1) (vp_nar .byte (Int8.toInt32 (Int32.toInt8 (p0 >>> (16 &&& 31)))))) (t + 2) (vp_nar .byte (Int8.toInt32 (Int32.toInt8 (p0 >>> (8 &&& 31)))))) (t + 3) (vp_nar .byte (Int8.toInt32 (Int32.toInt8 (p0 >>> (0 &&& 31)))))) (t + 4) (vp_nar .byte (Int8.toInt32 (Int32.toInt8 (p1 >>> (24 &&& 31)))))) (t + 5) (vp_nar .byte (Int8.toInt32 (Int32.toInt8 (p1 >>> (16 &&& 31)))))) (t + 6) (vp_nar .byte (Int8.toInt32 (Int32.toInt8 (p1 >>> (8 &&& 31)))))) (t + 7) (vp_nar .byte (Int8.toInt32 (Int32.toInt8 (p1 >>> (0 &&& 31)))))) (t + 8) (vp_nar .byte (Int8.toInt32 (Int32.toInt8 (p2 >>> (24 &&& 31)))))) (t + 9) (vp_nar .byte (Int8.toInt32 (Int32.toInt8 (p2 >>> (16 &&& 31)))))) (t + 10) (vp_nar .byte (Int8.toInt32 (Int32.toInt8 (p2 >>> (8 &&& 31)))))) (t + 11) (vp_nar .byte (Int8.toInt32 (Int32.toInt8 (p2 >>> (0 &&& 31)))))) (t + 12) (vp_nar .byte (Int8.toInt32 (Int32.toInt8 (p3 >>> (24 &&& 31)))))) (t + 13) (vp_nar .byte (Int8.toInt32 (Int32.toInt8 (p3 >>> (16 &&& 31)))))) (t + 14) (vp_nar .byte (Int8.toInt32 (Int32.toInt8 (p3 >>> (8 &&& 31)))))) (t + 15) (vp_nar .byte (Int8.toInt32 (Int32.toInt8 (p3 >>> (0 &&& 31)))))) (t + 16) (vp_nar .byte (Int8.toInt32 (Int32.toInt8 (p4 >>> (24 &&& 31)))))) (t + 17) (vp_nar .byte (Int8.toInt32 (Int32.toInt8 (p4 >>> (16 &&& 31)))))) (Int32.toNatClampNeg (nI (t + 18))) (vp_nar .byte (Int8.toInt32 (Int32.toInt8 (p4 >>> (8 &&& 31))))))))]) C 1 rfl (vp_in_nI (by omega) (by decide)) rfl d_Mo_feed_98 ?_
    refine g_eq (X1 := [(h, .inr (13, [.ref r0, .ref r1, .ref r2, .int mn, .int dt, .ref r5, .ref r6, .int (nI t), .int sz, .int fk, .int fp, .int at1, .int en, .int tk, .int nu, .long nm, .ref r16, .ref r17, .ref r18, .ref r19, .ref r20, .ref r21, .ref r22, .ref r23, .int fl, .ref r25, .int wa, .ref r27, .ref r28, .ref r29, .ref r30, .ref r31, .int co, .ref r33, .ref r34, .ref r35, .ref r36, .ref r37, .ref r38, .ref r39, .ref r40, .int db])), (r5, .inl (g.2.1 2, 320, .inl (upd (upd (upd (upd (upd (upd (upd (upd (upd (upd (upd (upd (upd (upd (upd (upd (upd (upd (upd tf (t + 0) (vp_nar .byte (Int8.toInt32 (Int32.toInt8 (p0 >>> (24 &&& 31)))))) (t + 1) (vp_nar .byte (Int8.toInt32 (Int32.toInt8 (p0 >>> (16 &&& 31)))))) (t + 2) (vp_nar .byte (Int8.toInt32 (Int32.toInt8 (p0 >>> (8 &&& 31)))))) (t + 3) (vp_nar .byte (Int8.toInt32 (Int32.toInt8 (p0 >>> (0 &&& 31)))))) (t + 4) (vp_nar .byte (Int8.toInt32 (Int32.toInt8 (p1 >>> (24 &&& 31)))))) (t + 5) (vp_nar .byte (Int8.toInt32 (Int32.toInt8 (p1 >>> (16 &&& 31)))))) (t + 6) (vp_nar .byte (Int8.toInt32 (Int32.toInt8 (p1 >>> (8 &&& 31)))))) (t + 7) (vp_nar .byte (Int8.toInt32 (Int32.toInt8 (p1 >>> (0 &&& 31)))))) (t + 8) (vp_nar .byte (Int8.toInt32 (Int32.toInt8 (p2 >>> (24 &&& 31)))))) (t + 9) (vp_nar .byte (Int8.toInt32 (Int32.toInt8 (p2 >>> (16 &&& 31)))))) (t + 10) (vp_nar .byte (Int8.toInt32 (Int32.toInt8 (p2 >>> (8 &&& 31)))))) (t + 11) (vp_nar .byte (Int8.toInt32 (Int32.toInt8 (p2 >>> (0 &&& 31)))))) (t + 12) (vp_nar .byte (Int8.toInt32 (Int32.toInt8 (p3 >>> (24 &&& 31)))))) (t + 13) (vp_nar .byte (Int8.toInt32 (Int32.toInt8 (p3 >>> (16 &&& 31)))))) (t + 14) (vp_nar .byte (Int8.toInt32 (Int32.toInt8 (p3 >>> (8 &&& 31)))))) (t + 15) (vp_nar .byte (Int8.toInt32 (Int32.toInt8 (p3 >>> (0 &&& 31)))))) (t + 16) (vp_nar .byte (Int8.toInt32 (Int32.toInt8 (p4 >>> (24 &&& 31)))))) (t + 17) (vp_nar .byte (Int8.toInt32 (Int32.toInt8 (p4 >>> (16 &&& 31)))))) (t + 18) (vp_nar .byte (Int8.toInt32 (Int32.toInt8 (p4 >>> (8 &&& 31))))))))]) rfl (by rw [nI_clamp (by omega)]) ?_
    refine g_iinc (v := 19) (lv1 := [(0, .ref h), (1, .int p0), (2, .int p1), (3, .int p2), (4, .int p3), (5, .int p4), (6, .int 19), (7, .int p4)]) C d_Mo_feed_99 6 rfl (by decide) [1, 2, 3, 4, 5, 6, 0, 7] (by decide) rfl ?_
    refine g_goto C d_Mo_feed_102 ?_
    refine g_iload C 6 rfl d_Mo_feed_18 ?_
    refine g_bipush (v := 20) C rfl d_Mo_feed_20 ?_
    refine g_icmp_ge C d_Mo_feed_22 (fun c_73 => absurd c_73 (by decide)) (fun _ => ?_)
    refine g_iload C 6 rfl d_Mo_feed_25 ?_
    refine g_iconst (v := 4) C rfl d_Mo_feed_27 ?_
    refine g_icmp_ge C d_Mo_feed_28 (fun _ => ?_) (fun c_74 => absurd c_74 (by decide))
    refine g_iload C 6 rfl d_Mo_feed_35 ?_
    refine g_bipush (v := 8) C rfl d_Mo_feed_37 ?_
    refine g_icmp_ge C d_Mo_feed_39 (fun _ => ?_) (fun c_75 => absurd c_75 (by decide))
    refine g_iload C 6 rfl d_Mo_feed_46 ?_
    refine g_bipush (v := 12) C rfl d_Mo_feed_48 ?_
    refine g_icmp_ge C d_Mo_feed_50 (fun _ => ?_) (fun c_76 => absurd c_76 (by decide))
    refine g_iload C 6 rfl d_Mo_feed_57 ?_
    refine g_bipush (v := 16) C rfl d_Mo_feed_59 ?_
    refine g_icmp_ge C d_Mo_feed_61 (fun _ => ?_) (fun c_77 => absurd c_77 (by decide))
    refine g_iload C 5 rfl d_Mo_feed_69 ?_
    refine g_istore (lv1 := [(0, .ref h), (1, .int p0), (2, .int p1), (3, .int p2), (4, .int p3), (5, .int p4), (6, .int 19), (7, .int p4)]) C d_Mo_feed_71 [1, 2, 3, 4, 5, 6, 7, 0] (by decide) rfl ?_
    refine g_aload_n C 0 rfl d_Mo_feed_73 ?_
    refine g_get C 0 rfl rfl in_Mo 5 (by decide) kw_1025 rfl d_Mo_feed_74 ?_
    refine g_aload_n C 0 rfl d_Mo_feed_77 ?_
    refine g_get C 0 rfl rfl in_Mo 7 (by decide) kw_1027 rfl d_Mo_feed_78 ?_
    refine g_iload C 6 rfl d_Mo_feed_81 ?_
    refine g_iadd C d_Mo_feed_83 ?_
    refine g_eq (st1 := [.int (nI (t + 19)), .ref r5]) (congrArg (fun z => Value.int z :: [.ref r5]) (nI_add t 19)) rfl ?_
    refine g_iload C 7 rfl d_Mo_feed_84 ?_
    refine g_bipush (v := 24) C rfl d_Mo_feed_86 ?_
    refine g_bipush (v := 8) C rfl d_Mo_feed_88 ?_
    refine g_iload C 6 rfl d_Mo_feed_90 ?_
    refine g_iconst (v := 3) C rfl d_Mo_feed_92 ?_
    refine g_iand C d_Mo_feed_93 ?_
    refine g_eq (st1 := [.int 3, .int 8, .int 24, .int p4, .int (nI (t + 19)), .ref r5]) (congrArg (fun z => Value.int z :: [.int 8, .int 24, .int p4, .int (nI (t + 19)), .ref r5]) (by decide)) rfl ?_
    refine g_imul C d_Mo_feed_94 ?_
    refine g_eq (st1 := [.int 24, .int 24, .int p4, .int (nI (t + 19)), .ref r5]) (congrArg (fun z => Value.int z :: [.int 24, .int p4, .int (nI (t + 19)), .ref r5]) (by decide)) rfl ?_
    refine g_isub C d_Mo_feed_95 ?_
    refine g_eq (st1 := [.int 0, .int p4, .int (nI (t + 19)), .ref r5]) (congrArg (fun z => Value.int z :: [.int p4, .int (nI (t + 19)), .ref r5]) (by decide)) rfl ?_
    refine g_ishr C d_Mo_feed_96 ?_
    refine g_i2b C d_Mo_feed_97 ?_
    refine g_bast (X1 := [(h, .inr (13, [.ref r0, .ref r1, .ref r2, .int mn, .int dt, .ref r5, .ref r6, .int (nI t), .int sz, .int fk, .int fp, .int at1, .int en, .int tk, .int nu, .long nm, .ref r16, .ref r17, .ref r18, .ref r19, .ref r20, .ref r21, .ref r22, .ref r23, .int fl, .ref r25, .int wa, .ref r27, .ref r28, .ref r29, .ref r30, .ref r31, .int co, .ref r33, .ref r34, .ref r35, .ref r36, .ref r37, .ref r38, .ref r39, .ref r40, .int db])), (r5, .inl (g.2.1 2, 320, .inl (upd (upd (upd (upd (upd (upd (upd (upd (upd (upd (upd (upd (upd (upd (upd (upd (upd (upd (upd (upd tf (t + 0) (vp_nar .byte (Int8.toInt32 (Int32.toInt8 (p0 >>> (24 &&& 31)))))) (t + 1) (vp_nar .byte (Int8.toInt32 (Int32.toInt8 (p0 >>> (16 &&& 31)))))) (t + 2) (vp_nar .byte (Int8.toInt32 (Int32.toInt8 (p0 >>> (8 &&& 31)))))) (t + 3) (vp_nar .byte (Int8.toInt32 (Int32.toInt8 (p0 >>> (0 &&& 31)))))) (t + 4) (vp_nar .byte (Int8.toInt32 (Int32.toInt8 (p1 >>> (24 &&& 31)))))) (t + 5) (vp_nar .byte (Int8.toInt32 (Int32.toInt8 (p1 >>> (16 &&& 31)))))) (t + 6) (vp_nar .byte (Int8.toInt32 (Int32.toInt8 (p1 >>> (8 &&& 31)))))) (t + 7) (vp_nar .byte (Int8.toInt32 (Int32.toInt8 (p1 >>> (0 &&& 31)))))) (t + 8) (vp_nar .byte (Int8.toInt32 (Int32.toInt8 (p2 >>> (24 &&& 31)))))) (t + 9) (vp_nar .byte (Int8.toInt32 (Int32.toInt8 (p2 >>> (16 &&& 31)))))) (t + 10) (vp_nar .byte (Int8.toInt32 (Int32.toInt8 (p2 >>> (8 &&& 31)))))) (t + 11) (vp_nar .byte (Int8.toInt32 (Int32.toInt8 (p2 >>> (0 &&& 31)))))) (t + 12) (vp_nar .byte (Int8.toInt32 (Int32.toInt8 (p3 >>> (24 &&& 31)))))) (t + 13) (vp_nar .byte (Int8.toInt32 (Int32.toInt8 (p3 >>> (16 &&& 31)))))) (t + 14) (vp_nar .byte (Int8.toInt32 (Int32.toInt8 (p3 >>> (8 &&& 31)))))) (t + 15) (vp_nar .byte (Int8.toInt32 (Int32.toInt8 (p3 >>> (0 &&& 31)))))) (t + 16) (vp_nar .byte (Int8.toInt32 (Int32.toInt8 (p4 >>> (24 &&& 31)))))) (t + 17) (vp_nar .byte (Int8.toInt32 (Int32.toInt8 (p4 >>> (16 &&& 31)))))) (t + 18) (vp_nar .byte (Int8.toInt32 (Int32.toInt8 (p4 >>> (8 &&& 31)))))) (Int32.toNatClampNeg (nI (t + 19))) (vp_nar .byte (Int8.toInt32 (Int32.toInt8 (p4 >>> (0 &&& 31))))))))]) C 1 rfl (vp_in_nI (by omega) (by decide)) rfl d_Mo_feed_98 ?_
    refine g_eq (X1 := [(h, .inr (13, [.ref r0, .ref r1, .ref r2, .int mn, .int dt, .ref r5, .ref r6, .int (nI t), .int sz, .int fk, .int fp, .int at1, .int en, .int tk, .int nu, .long nm, .ref r16, .ref r17, .ref r18, .ref r19, .ref r20, .ref r21, .ref r22, .ref r23, .int fl, .ref r25, .int wa, .ref r27, .ref r28, .ref r29, .ref r30, .ref r31, .int co, .ref r33, .ref r34, .ref r35, .ref r36, .ref r37, .ref r38, .ref r39, .ref r40, .int db])), (r5, .inl (g.2.1 2, 320, .inl (upd (upd (upd (upd (upd (upd (upd (upd (upd (upd (upd (upd (upd (upd (upd (upd (upd (upd (upd (upd tf (t + 0) (vp_nar .byte (Int8.toInt32 (Int32.toInt8 (p0 >>> (24 &&& 31)))))) (t + 1) (vp_nar .byte (Int8.toInt32 (Int32.toInt8 (p0 >>> (16 &&& 31)))))) (t + 2) (vp_nar .byte (Int8.toInt32 (Int32.toInt8 (p0 >>> (8 &&& 31)))))) (t + 3) (vp_nar .byte (Int8.toInt32 (Int32.toInt8 (p0 >>> (0 &&& 31)))))) (t + 4) (vp_nar .byte (Int8.toInt32 (Int32.toInt8 (p1 >>> (24 &&& 31)))))) (t + 5) (vp_nar .byte (Int8.toInt32 (Int32.toInt8 (p1 >>> (16 &&& 31)))))) (t + 6) (vp_nar .byte (Int8.toInt32 (Int32.toInt8 (p1 >>> (8 &&& 31)))))) (t + 7) (vp_nar .byte (Int8.toInt32 (Int32.toInt8 (p1 >>> (0 &&& 31)))))) (t + 8) (vp_nar .byte (Int8.toInt32 (Int32.toInt8 (p2 >>> (24 &&& 31)))))) (t + 9) (vp_nar .byte (Int8.toInt32 (Int32.toInt8 (p2 >>> (16 &&& 31)))))) (t + 10) (vp_nar .byte (Int8.toInt32 (Int32.toInt8 (p2 >>> (8 &&& 31)))))) (t + 11) (vp_nar .byte (Int8.toInt32 (Int32.toInt8 (p2 >>> (0 &&& 31)))))) (t + 12) (vp_nar .byte (Int8.toInt32 (Int32.toInt8 (p3 >>> (24 &&& 31)))))) (t + 13) (vp_nar .byte (Int8.toInt32 (Int32.toInt8 (p3 >>> (16 &&& 31)))))) (t + 14) (vp_nar .byte (Int8.toInt32 (Int32.toInt8 (p3 >>> (8 &&& 31)))))) (t + 15) (vp_nar .byte (Int8.toInt32 (Int32.toInt8 (p3 >>> (0 &&& 31)))))) (t + 16) (vp_nar .byte (Int8.toInt32 (Int32.toInt8 (p4 >>> (24 &&& 31)))))) (t + 17) (vp_nar .byte (Int8.toInt32 (Int32.toInt8 (p4 >>> (16 &&& 31)))))) (t + 18) (vp_nar .byte (Int8.toInt32 (Int32.toInt8 (p4 >>> (8 &&& 31)))))) (t + 19) (vp_nar .byte (Int8.toInt32 (Int32.toInt8 (p4 >>> (0 &&& 31))))))))]) rfl (by rw [nI_clamp (by omega)]) ?_
    refine g_iinc (v := 20) (lv1 := [(0, .ref h), (1, .int p0), (2, .int p1), (3, .int p2), (4, .int p3), (5, .int p4), (6, .int 20), (7, .int p4)]) C d_Mo_feed_99 6 rfl (by decide) [1, 2, 3, 4, 5, 6, 0, 7] (by decide) rfl ?_
    refine g_goto C d_Mo_feed_102 ?_
    refine g_iload C 6 rfl d_Mo_feed_18 ?_
    refine g_bipush (v := 20) C rfl d_Mo_feed_20 ?_
    refine g_icmp_ge C d_Mo_feed_22 (fun _ => ?_) (fun c_78 => absurd c_78 (by decide))
    refine g_aload_n C 0 rfl d_Mo_feed_105 ?_
    refine g_dup C rfl d_Mo_feed_106 ?_
    refine g_get C 0 rfl rfl in_Mo 7 (by decide) kw_1027 rfl d_Mo_feed_107 ?_
    refine g_bipush (v := 20) C rfl d_Mo_feed_110 ?_
    refine g_iadd C d_Mo_feed_112 ?_
    refine g_eq (st1 := [.int (nI (t + 20)), .ref h]) (congrArg (fun z => Value.int z :: [.ref h]) (nI_add t 20)) rfl ?_
    refine g_put (X1 := [(h, .inr (13, [.ref r0, .ref r1, .ref r2, .int mn, .int dt, .ref r5, .ref r6, .int (nI (t + 20)), .int sz, .int fk, .int fp, .int at1, .int en, .int tk, .int nu, .long nm, .ref r16, .ref r17, .ref r18, .ref r19, .ref r20, .ref r21, .ref r22, .ref r23, .int fl, .ref r25, .int wa, .ref r27, .ref r28, .ref r29, .ref r30, .ref r31, .int co, .ref r33, .ref r34, .ref r35, .ref r36, .ref r37, .ref r38, .ref r39, .ref r40, .int db])), (r5, .inl (g.2.1 2, 320, .inl (upd (upd (upd (upd (upd (upd (upd (upd (upd (upd (upd (upd (upd (upd (upd (upd (upd (upd (upd (upd tf (t + 0) (vp_nar .byte (Int8.toInt32 (Int32.toInt8 (p0 >>> (24 &&& 31)))))) (t + 1) (vp_nar .byte (Int8.toInt32 (Int32.toInt8 (p0 >>> (16 &&& 31)))))) (t + 2) (vp_nar .byte (Int8.toInt32 (Int32.toInt8 (p0 >>> (8 &&& 31)))))) (t + 3) (vp_nar .byte (Int8.toInt32 (Int32.toInt8 (p0 >>> (0 &&& 31)))))) (t + 4) (vp_nar .byte (Int8.toInt32 (Int32.toInt8 (p1 >>> (24 &&& 31)))))) (t + 5) (vp_nar .byte (Int8.toInt32 (Int32.toInt8 (p1 >>> (16 &&& 31)))))) (t + 6) (vp_nar .byte (Int8.toInt32 (Int32.toInt8 (p1 >>> (8 &&& 31)))))) (t + 7) (vp_nar .byte (Int8.toInt32 (Int32.toInt8 (p1 >>> (0 &&& 31)))))) (t + 8) (vp_nar .byte (Int8.toInt32 (Int32.toInt8 (p2 >>> (24 &&& 31)))))) (t + 9) (vp_nar .byte (Int8.toInt32 (Int32.toInt8 (p2 >>> (16 &&& 31)))))) (t + 10) (vp_nar .byte (Int8.toInt32 (Int32.toInt8 (p2 >>> (8 &&& 31)))))) (t + 11) (vp_nar .byte (Int8.toInt32 (Int32.toInt8 (p2 >>> (0 &&& 31)))))) (t + 12) (vp_nar .byte (Int8.toInt32 (Int32.toInt8 (p3 >>> (24 &&& 31)))))) (t + 13) (vp_nar .byte (Int8.toInt32 (Int32.toInt8 (p3 >>> (16 &&& 31)))))) (t + 14) (vp_nar .byte (Int8.toInt32 (Int32.toInt8 (p3 >>> (8 &&& 31)))))) (t + 15) (vp_nar .byte (Int8.toInt32 (Int32.toInt8 (p3 >>> (0 &&& 31)))))) (t + 16) (vp_nar .byte (Int8.toInt32 (Int32.toInt8 (p4 >>> (24 &&& 31)))))) (t + 17) (vp_nar .byte (Int8.toInt32 (Int32.toInt8 (p4 >>> (16 &&& 31)))))) (t + 18) (vp_nar .byte (Int8.toInt32 (Int32.toInt8 (p4 >>> (8 &&& 31)))))) (t + 19) (vp_nar .byte (Int8.toInt32 (Int32.toInt8 (p4 >>> (0 &&& 31))))))))]) C 0 rfl rfl in_Mo 7 (by decide) ok_Mo nm_Mo kw_1027 rfl rfl rfl (Nat.le_of_ble_eq_true rfl) rfl d_Mo_feed_113 ?_
    refine g_aload_n C 0 rfl d_Mo_feed_116 ?_
    refine g_get C 0 rfl rfl in_Mo 7 (by decide) kw_1027 rfl d_Mo_feed_117 ?_
    exact g_iret C rfl ⟨congrArg (fun z => some (Value.int z)) (by simp [fd20, fd4, bbM, Nat.add_assoc, c_1, Int32.not_lt.mpr c_1, n_1, Nat.not_lt.mpr n_1]), (by simp [fd20, fd4, bbM, Nat.add_assoc, c_1, Int32.not_lt.mpr c_1, n_1, Nat.not_lt.mpr n_1]), rfl⟩ (by decide) (by decide) d_Mo_feed_120
  · skip
    have n_1 : 300 < t + 20 := Nat.not_le.mp (fun z => c_1 ((nI_leI (a := (t + 20)) (b := 300) (by omega) (by omega)).mpr z))
    refine g_iconst (v := (-1)) C rfl d_Mo_feed_13 ?_
    exact g_iret C rfl ⟨congrArg (fun z => some (Value.int z)) (by simp [fd20, fd4, bbM, Nat.add_assoc, c_1, Int32.not_le.mp c_1, n_1, Nat.not_le.mpr n_1]), (by simp [fd20, fd4, bbM, Nat.add_assoc, c_1, Int32.not_le.mp c_1, n_1, Nat.not_le.mpr n_1]), rfl⟩ (by decide) (by decide) d_Mo_feed_14

