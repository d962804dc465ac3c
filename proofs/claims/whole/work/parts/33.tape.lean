def rg (x lo hi : Int32) : Bool := decide (¬ x < lo ∧ ¬ hi < x)
def cutOk (t : Nat) (x : Int32) : Bool := decide (¬ x < 0 ∧ x ≤ nI t)
def cutT (t : Nat) (x : Int32) : Nat := if cutOk t x then x.toNatClampNeg else t
theorem nI_clampI {x : Int32} (h : ¬ x < 0) : nI x.toNatClampNeg = x := by
  obtain ⟨j, h1, rfl⟩ := nI_of h
  rw [nI_clamp h1]
def tat (f : Nat → Int32) (t : Nat) (x : Int32) : Int32 := if inB x (nI t) then f x.toNatClampNeg else (-1)
def ibyt (x s : Int32) : Int32 := (x.toUInt32 >>> (s.toUInt32 &&& Int32.toUInt32 31)).toInt32 &&& 255
def app4 (f : Nat → Int32) (t : Nat) (x : Int32) : Nat → Int32 := upd (upd (upd (upd f t (ibyt x 24)) (t + 1) (ibyt x 16)) (t + 2) (ibyt x 8)) (t + 3) (ibyt x 0)
set_option maxHeartbeats 4000000 in
set_option maxRecDepth 100000 in
theorem c_Ta_hasRoomFor (l : Launch) (g : Gx) (q0 q1 t m : Nat) (ht : t ≤ 300) (hm : m ≤ 300) : M0 l g y_Ta_hasRoomFor b_Ta_hasRoomFor 2 (some FieldType.boolean) ({ frames := 0, cells := 0, slots := 0, locals := 0 }) [.ref q0, .int (nI m)] [(q0, .inr (10, [.ref q1, .int (nI t)]))] (some (.int (zb (t + m ≤ 300)))) [(q0, .inr (10, [.ref q1, .int (nI t)]))] := by
  refine MP.of (by decide) (Nat.le_of_ble_eq_true rfl) (fun κ C => ?_)
  have C : zC κ l g ({ frames := 0, cells := 0, slots := 0, locals := 0 }) b_Ta_hasRoomFor 2 "TombLane$Tape" "hasRoomFor" (some FieldType.boolean) _ := C
  refine g_lv (lv1 := [(0, .ref q0), (1, .int (nI m))]) [0, 1] rfl ?_
  refine g_aload_n C 0 rfl d_Ta_hasRoomFor_0 ?_
  refine g_get C 0 rfl rfl in_Ta 1 (by decide) kw_142 rfl d_Ta_hasRoomFor_1 ?_
  refine g_iload_n C 1 rfl d_Ta_hasRoomFor_4 ?_
  refine g_iadd C d_Ta_hasRoomFor_5 ?_
  refine g_eq (st1 := [.int (nI (t + m))]) (congrArg (fun z => Value.int z :: []) (nI_add t m)) rfl ?_
  refine g_sipush (v := 300) C rfl d_Ta_hasRoomFor_6 ?_
  refine g_icmp_gt C d_Ta_hasRoomFor_9 (fun c_1 => ?_) (fun c_1 => ?_)
  · skip
    have n_1 : 300 < t + m := (nI_ltI (a := 300) (b := (t + m)) (by omega) (by omega)).mp c_1
    refine g_iconst (v := 0) C rfl d_Ta_hasRoomFor_16 ?_
    exact g_zret C (Or.inl rfl) rfl ⟨congrArg (fun z => some (Value.int z)) (by simp [zb, c_1, Int32.not_le.mpr c_1, n_1, Nat.not_le.mpr n_1]), rfl, rfl⟩ (by decide) (by decide) d_Ta_hasRoomFor_17
  · skip
    have n_1 : t + m ≤ 300 := Nat.not_lt.mp (fun z => c_1 ((nI_ltI (a := 300) (b := (t + m)) (by omega) (by omega)).mpr z))
    refine g_iconst (v := 1) C rfl d_Ta_hasRoomFor_12 ?_
    refine g_goto C d_Ta_hasRoomFor_13 ?_
    exact g_zret C (Or.inr rfl) rfl ⟨congrArg (fun z => some (Value.int z)) (by simp [zb, c_1, Int32.not_lt.mp c_1, n_1, Nat.not_lt.mpr n_1]), rfl, rfl⟩ (by decide) (by decide) d_Ta_hasRoomFor_17

set_option maxHeartbeats 4000000 in
set_option maxRecDepth 100000 in
theorem c_Ta_cut (l : Launch) (g : Gx) (q0 q1 t : Nat) (p0 : Int32) : M0 l g y_Ta_cut b_Ta_cut 2 (some FieldType.boolean) ({ frames := 0, cells := 0, slots := 0, locals := 0 }) [.ref q0, .int p0] [(q0, .inr (10, [.ref q1, .int (nI t)]))] (some (.int (zb (cutOk t p0)))) [(q0, .inr (10, [.ref q1, .int (nI (cutT t p0))]))] := by
  refine MP.of (by decide) (Nat.le_of_ble_eq_true rfl) (fun κ C => ?_)
  have C : zC κ l g ({ frames := 0, cells := 0, slots := 0, locals := 0 }) b_Ta_cut 2 "TombLane$Tape" "cut" (some FieldType.boolean) _ := C
  refine g_lv (lv1 := [(0, .ref q0), (1, .int p0)]) [0, 1] rfl ?_
  refine g_iload_n C 1 rfl d_Ta_cut_0 ?_
  refine g_if_lt C d_Ta_cut_1 (fun c_1 => ?_) (fun c_1 => ?_)
  · skip
    refine g_iconst (v := 0) C rfl d_Ta_cut_12 ?_
    exact g_zret C (Or.inl rfl) rfl ⟨congrArg (fun z => some (Value.int z)) (by simp [zb, cutOk, c_1, Int32.not_le.mpr c_1]), (by simp [cutT, cutOk, nI_clampI, c_1, Int32.not_le.mpr c_1]), rfl⟩ (by decide) (by decide) d_Ta_cut_13
  · skip
    refine g_iload_n C 1 rfl d_Ta_cut_4 ?_
    refine g_aload_n C 0 rfl d_Ta_cut_5 ?_
    refine g_get C 0 rfl rfl in_Ta 1 (by decide) kw_142 rfl d_Ta_cut_6 ?_
    refine g_icmp_le C d_Ta_cut_9 (fun c_2 => ?_) (fun c_2 => ?_)
    · skip
      refine g_aload_n C 0 rfl d_Ta_cut_14 ?_
      refine g_iload_n C 1 rfl d_Ta_cut_15 ?_
      refine g_put (X1 := [(q0, .inr (10, [.ref q1, .int p0]))]) C 0 rfl rfl in_Ta 1 (by decide) ok_Ta nm_Ta kw_142 rfl rfl rfl (Nat.le_of_ble_eq_true rfl) rfl d_Ta_cut_16 ?_
      refine g_iconst (v := 1) C rfl d_Ta_cut_19 ?_
      exact g_zret C (Or.inr rfl) rfl ⟨congrArg (fun z => some (Value.int z)) (by simp [zb, cutOk, c_1, Int32.not_lt.mp c_1, c_2, Int32.not_lt.mpr c_2]), (by simp [cutT, cutOk, nI_clampI, c_1, Int32.not_lt.mp c_1, c_2, Int32.not_lt.mpr c_2]), rfl⟩ (by decide) (by decide) d_Ta_cut_20
    · skip
      refine g_iconst (v := 0) C rfl d_Ta_cut_12 ?_
      exact g_zret C (Or.inl rfl) rfl ⟨congrArg (fun z => some (Value.int z)) (by simp [zb, cutOk, c_1, Int32.not_lt.mp c_1, c_2, Int32.not_le.mp c_2]), (by simp [cutT, cutOk, nI_clampI, c_1, Int32.not_lt.mp c_1, c_2, Int32.not_le.mp c_2]), rfl⟩ (by decide) (by decide) d_Ta_cut_13

set_option maxHeartbeats 4000000 in
set_option maxRecDepth 100000 in
theorem c_Ta_at (l : Launch) (g : Gx) (q0 q1 t : Nat) (bf : Nat → Int32) (p0 : Int32) (ht : t ≤ 300) : M0 l g y_Ta_at b_Ta_at 2 (some FieldType.int) ({ frames := 1, cells := 0, slots := 0, locals := 21 }) [.ref q0, .int p0] [(q0, .inr (10, [.ref q1, .int (nI t)])), (q1, .inl (g.2.1 0, 300, .inl bf))] (some (.int (tat bf t p0))) [(q0, .inr (10, [.ref q1, .int (nI t)])), (q1, .inl (g.2.1 0, 300, .inl bf))] := by
  refine MP.of (by decide) (Nat.le_of_ble_eq_true rfl) (fun κ C => ?_)
  have C : zC κ l g ({ frames := 1, cells := 0, slots := 0, locals := 21 }) b_Ta_at 2 "TombLane$Tape" "at" (some FieldType.int) _ := C
  refine g_lv (lv1 := [(0, .ref q0), (1, .int p0)]) [0, 1] rfl ?_
  refine g_iload_n C 1 rfl d_Ta_at_0 ?_
  refine g_aload_n C 0 rfl d_Ta_at_1 ?_
  refine g_get C 0 rfl rfl in_Ta 1 (by decide) kw_142 rfl d_Ta_at_2 ?_
  refine g_callSN0 (rest := []) (Xn := [(q0, .inr (10, [.ref q1, .int (nI t)])), (q1, .inl (g.2.1 0, 300, .inl bf))]) C (c_TL_isBelow l g p0 (nI t)) [] [0, 1] [0, 1] rfl (by decide) (by decide) rfl mo_TL_isBelow ms_TL_isBelow kw_517 (by decide) rfl (Nat.le_of_ble_eq_true rfl) ⟨Nat.le_of_ble_eq_true rfl, Nat.le_of_ble_eq_true rfl⟩ d_Ta_at_5 ?_
  refine g_if_eq C d_Ta_at_8 (fun c_1 => ?_) (fun c_1 => ?_)
  · have c_1 := zb_0.mp c_1
    refine g_iconst (v := (-1)) C rfl d_Ta_at_20 ?_
    exact g_iret C rfl ⟨congrArg (fun z => some (Value.int z)) (by simp [tat, c_1]), rfl, rfl⟩ (by decide) (by decide) d_Ta_at_21
  · have c_1 := zb_n0.mp c_1
    refine g_aload_n C 0 rfl d_Ta_at_11 ?_
    refine g_get C 0 rfl rfl in_Ta 0 (by decide) kw_141 rfl d_Ta_at_12 ?_
    refine g_iload_n C 1 rfl d_Ta_at_15 ?_
    refine g_iald C 1 rfl (inB_vp 300 c_1 ht (by decide)) d_Ta_at_16 ?_
    refine g_goto C d_Ta_at_17 ?_
    exact g_iret C rfl ⟨congrArg (fun z => some (Value.int z)) (by simp [tat, c_1]), rfl, rfl⟩ (by decide) (by decide) d_Ta_at_21

set_option maxHeartbeats 4000000 in
set_option maxRecDepth 100000 in
theorem c_Ta_append (l : Launch) (g : Gx) (q0 q1 t : Nat) (bf : Nat → Int32) (p0 : Int32) (ht : t + 4 ≤ 300) : M0 l g y_Ta_append b_Ta_append 3 (none : Option FieldType) ({ frames := 0, cells := 0, slots := 0, locals := 0 }) [.ref q0, .int p0] [(q0, .inr (10, [.ref q1, .int (nI t)])), (q1, .inl (g.2.1 0, 300, .inl bf))] none [(q0, .inr (10, [.ref q1, .int (nI (t + 4))])), (q1, .inl (g.2.1 0, 300, .inl (app4 bf t p0)))] := by
  refine MP.of (by decide) (Nat.le_of_ble_eq_true rfl) (fun κ C => ?_)
  have C : zC κ l g ({ frames := 0, cells := 0, slots := 0, locals := 0 }) b_Ta_append 3 "TombLane$Tape" "append" (none : Option FieldType) _ := C
  refine g_lv (lv1 := [(0, .ref q0), (1, .int p0)]) [0, 1] rfl ?_
  refine g_bipush (v := 24) C rfl d_Ta_append_0 ?_
  refine g_istore_n (lv1 := [(0, .ref q0), (1, .int p0), (2, .int 24)]) C d_Ta_append_2 [1, 2, 0] (by decide) rfl ?_
  refine g_iload_n C 2 rfl d_Ta_append_3 ?_
  refine g_if_lt C d_Ta_append_4 (fun c_1 => absurd c_1 (by decide)) (fun _ => ?_)
  refine g_aload_n C 0 rfl d_Ta_append_7 ?_
  refine g_get C 0 rfl rfl in_Ta 1 (by decide) kw_142 rfl d_Ta_append_8 ?_
  refine g_sipush (v := 300) C rfl d_Ta_append_11 ?_
  refine g_icmp_ge C d_Ta_append_14 (fun c_2 => absurd c_2 (nI_ge (b := 300) (by omega) (by decide))) (fun _ => ?_)
  refine g_aload_n C 0 rfl d_Ta_append_17 ?_
  refine g_get C 0 rfl rfl in_Ta 0 (by decide) kw_141 rfl d_Ta_append_18 ?_
  refine g_aload_n C 0 rfl d_Ta_append_21 ?_
  refine g_get C 0 rfl rfl in_Ta 1 (by decide) kw_142 rfl d_Ta_append_22 ?_
  refine g_iload_n C 1 rfl d_Ta_append_25 ?_
  refine g_iload_n C 2 rfl d_Ta_append_26 ?_
  refine g_iushr (v := (Int32.toUInt32 p0 >>> (Int32.toUInt32 24 &&& Int32.toUInt32 31)).toInt32) C rfl d_Ta_append_27 ?_
  refine g_sipush (v := 255) C rfl d_Ta_append_28 ?_
  refine g_iand C d_Ta_append_31 ?_
  refine g_eq (st1 := [.int (ibyt p0 24), .int (nI t), .ref q1]) (congrArg (fun z => Value.int z :: [.int (nI t), .ref q1]) rfl) rfl ?_
  refine g_iast (X1 := [(q0, .inr (10, [.ref q1, .int (nI t)])), (q1, .inl (g.2.1 0, 300, .inl (upd bf (Int32.toNatClampNeg (nI t)) (ibyt p0 24))))]) C 1 rfl (vp_in_nI (by omega) (by decide)) rfl d_Ta_append_32 ?_
  refine g_eq (X1 := [(q0, .inr (10, [.ref q1, .int (nI t)])), (q1, .inl (g.2.1 0, 300, .inl (upd bf t (ibyt p0 24))))]) rfl (by rw [nI_clamp (by omega)]) ?_
  refine g_aload_n C 0 rfl d_Ta_append_33 ?_
  refine g_dup C rfl d_Ta_append_34 ?_
  refine g_get C 0 rfl rfl in_Ta 1 (by decide) kw_142 rfl d_Ta_append_35 ?_
  refine g_iconst (v := 1) C rfl d_Ta_append_38 ?_
  refine g_iadd C d_Ta_append_39 ?_
  refine g_eq (st1 := [.int (nI (t + 1)), .ref q0]) (congrArg (fun z => Value.int z :: [.ref q0]) (nI_add t 1)) rfl ?_
  refine g_put (X1 := [(q0, .inr (10, [.ref q1, .int (nI (t + 1))])), (q1, .inl (g.2.1 0, 300, .inl (upd bf t (ibyt p0 24))))]) C 0 rfl rfl in_Ta 1 (by decide) ok_Ta nm_Ta kw_142 rfl rfl rfl (Nat.le_of_ble_eq_true rfl) rfl d_Ta_append_40 ?_
  refine g_iinc (v := 16) (lv1 := [(0, .ref q0), (1, .int p0), (2, .int 16)]) C d_Ta_append_43 2 rfl (by decide) [1, 2, 0] (by decide) rfl ?_
  refine g_goto C d_Ta_append_46 ?_
  refine g_iload_n C 2 rfl d_Ta_append_3 ?_
  refine g_if_lt C d_Ta_append_4 (fun c_3 => absurd c_3 (by decide)) (fun _ => ?_)
  refine g_aload_n C 0 rfl d_Ta_append_7 ?_
  refine g_get C 0 rfl rfl in_Ta 1 (by decide) kw_142 rfl d_Ta_append_8 ?_
  refine g_sipush (v := 300) C rfl d_Ta_append_11 ?_
  refine g_icmp_ge C d_Ta_append_14 (fun c_4 => absurd c_4 (nI_ge (b := 300) (by omega) (by decide))) (fun _ => ?_)
  refine g_aload_n C 0 rfl d_Ta_append_17 ?_
  refine g_get C 0 rfl rfl in_Ta 0 (by decide) kw_141 rfl d_Ta_append_18 ?_
  refine g_aload_n C 0 rfl d_Ta_append_21 ?_
  refine g_get C 0 rfl rfl in_Ta 1 (by decide) kw_142 rfl d_Ta_append_22 ?_
  refine g_iload_n C 1 rfl d_Ta_append_25 ?_
  refine g_iload_n C 2 rfl d_Ta_append_26 ?_
  refine g_iushr (v := (Int32.toUInt32 p0 >>> (Int32.toUInt32 16 &&& Int32.toUInt32 31)).toInt32) C rfl d_Ta_append_27 ?_
  refine g_sipush (v := 255) C rfl d_Ta_append_28 ?_
  refine g_iand C d_Ta_append_31 ?_
  refine g_eq (st1 := [.int (ibyt p0 16), .int (nI (t + 1)), .ref q1]) (congrArg (fun z => Value.int z :: [.int (nI (t + 1)), .ref q1]) rfl) rfl ?_
  refine g_iast (X1 := [(q0, .inr (10, [.ref q1, .int (nI (t + 1))])), (q1, .inl (g.2.1 0, 300, .inl (upd (upd bf t (ibyt p0 24)) (Int32.toNatClampNeg (nI (t + 1))) (ibyt p0 16))))]) C 1 rfl (vp_in_nI (by omega) (by decide)) rfl d_Ta_append_32 ?_
  refine g_eq (X1 := [(q0, .inr (10, [.ref q1, .int (nI (t + 1))])), (q1, .inl (g.2.1 0, 300, .inl (upd (upd bf t (ibyt p0 24)) (t + 1) (ibyt p0 16))))]) rfl (by rw [nI_clamp (by omega)]) ?_
  refine g_aload_n C 0 rfl d_Ta_append_33 ?_
  refine g_dup C rfl d_Ta_append_34 ?_
  refine g_get C 0 rfl rfl in_Ta 1 (by decide) kw_142 rfl d_Ta_append_35 ?_
  refine g_iconst (v := 1) C rfl d_Ta_append_38 ?_
  refine g_iadd C d_Ta_append_39 ?_
  refine g_eq (st1 := [.int (nI ((t + 1) + 1)), .ref q0]) (congrArg (fun z => Value.int z :: [.ref q0]) (nI_add (t + 1) 1)) rfl ?_
  refine g_put (X1 := [(q0, .inr (10, [.ref q1, .int (nI ((t + 1) + 1))])), (q1, .inl (g.2.1 0, 300, .inl (upd (upd bf t (ibyt p0 24)) (t + 1) (ibyt p0 16))))]) C 0 rfl rfl in_Ta 1 (by decide) ok_Ta nm_Ta kw_142 rfl rfl rfl (Nat.le_of_ble_eq_true rfl) rfl d_Ta_append_40 ?_
  refine g_iinc (v := 8) (lv1 := [(0, .ref q0), (1, .int p0), (2, .int 8)]) C d_Ta_append_43 2 rfl (by decide) [1, 2, 0] (by decide) rfl ?_
  refine g_goto C d_Ta_append_46 ?_
  refine g_iload_n C 2 rfl d_Ta_append_3 ?_
  refine g_if_lt C d_Ta_append_4 (fun c_5 => absurd c_5 (by decide)) (fun _ => ?_)
  refine g_aload_n C 0 rfl d_Ta_append_7 ?_
  refine g_get C 0 rfl rfl in_Ta 1 (by decide) kw_142 rfl d_Ta_append_8 ?_
  refine g_sipush (v := 300) C rfl d_Ta_append_11 ?_
  refine g_icmp_ge C d_Ta_append_14 (fun c_6 => absurd c_6 (nI_ge (b := 300) (by omega) (by decide))) (fun _ => ?_)
  refine g_aload_n C 0 rfl d_Ta_append_17 ?_
  refine g_get C 0 rfl rfl in_Ta 0 (by decide) kw_141 rfl d_Ta_append_18 ?_
  refine g_aload_n C 0 rfl d_Ta_append_21 ?_
  refine g_get C 0 rfl rfl in_Ta 1 (by decide) kw_142 rfl d_Ta_append_22 ?_
  refine g_iload_n C 1 rfl d_Ta_append_25 ?_
  refine g_iload_n C 2 rfl d_Ta_append_26 ?_
  refine g_iushr (v := (Int32.toUInt32 p0 >>> (Int32.toUInt32 8 &&& Int32.toUInt32 31)).toInt32) C rfl d_Ta_append_27 ?_
  refine g_sipush (v := 255) C rfl d_Ta_append_28 ?_
  refine g_iand C d_Ta_append_31 ?_
  refine g_eq (st1 := [.int (ibyt p0 8), .int (nI ((t + 1) + 1)), .ref q1]) (congrArg (fun z => Value.int z :: [.int (nI ((t + 1) + 1)), .ref q1]) rfl) rfl ?_
  refine g_iast (X1 := [(q0, .inr (10, [.ref q1, .int (nI ((t + 1) + 1))])), (q1, .inl (g.2.1 0, 300, .inl (upd (upd (upd bf t (ibyt p0 24)) (t + 1) (ibyt p0 16)) (Int32.toNatClampNeg (nI ((t + 1) + 1))) (ibyt p0 8))))]) C 1 rfl (vp_in_nI (by omega) (by decide)) rfl d_Ta_append_32 ?_
  refine g_eq (X1 := [(q0, .inr (10, [.ref q1, .int (nI ((t + 1) + 1))])), (q1, .inl (g.2.1 0, 300, .inl (upd (upd (upd bf t (ibyt p0 24)) (t + 1) (ibyt p0 16)) ((t + 1) + 1) (ibyt p0 8))))]) rfl (by rw [nI_clamp (by omega)]) ?_
  refine g_aload_n C 0 rfl d_Ta_append_33 ?_
  refine g_dup C rfl d_Ta_append_34 ?_
  refine g_get C 0 rfl rfl in_Ta 1 (by decide) kw_142 rfl d_Ta_append_35 ?_
  refine g_iconst (v := 1) C rfl d_Ta_append_38 ?_
  refine g_iadd C d_Ta_append_39 ?_
  refine g_eq (st1 := [.int (nI (((t + 1) + 1) + 1)), .ref q0]) (congrArg (fun z => Value.int z :: [.ref q0]) (nI_add ((t + 1) + 1) 1)) rfl ?_
  refine g_put (X1 := [(q0, .inr (10, [.ref q1, .int (nI (((t + 1) + 1) + 1))])), (q1, .inl (g.2.1 0, 300, .inl (upd (upd (upd bf t (ibyt p0 24)) (t + 1) (ibyt p0 16)) ((t + 1) + 1) (ibyt p0 8))))]) C 0 rfl rfl in_Ta 1 (by decide) ok_Ta nm_Ta kw_142 rfl rfl rfl (Nat.le_of_ble_eq_true rfl) rfl d_Ta_append_40 ?_
  refine g_iinc (v := 0) (lv1 := [(0, .ref q0), (1, .int p0), (2, .int 0)]) C d_Ta_append_43 2 rfl (by decide) [1, 2, 0] (by decide) rfl ?_
  refine g_goto C d_Ta_append_46 ?_
  refine g_iload_n C 2 rfl d_Ta_append_3 ?_
  refine g_if_lt C d_Ta_append_4 (fun c_7 => absurd c_7 (by decide)) (fun _ => ?_)
  refine g_aload_n C 0 rfl d_Ta_append_7 ?_
  refine g_get C 0 rfl rfl in_Ta 1 (by decide) kw_142 rfl d_Ta_append_8 ?_
  refine g_sipush (v := 300) C rfl d_Ta_append_11 ?_
  refine g_icmp_ge C d_Ta_append_14 (fun c_8 => absurd c_8 (nI_ge (b := 300) (by omega) (by decide))) (fun _ => ?_)
  refine g_aload_n C 0 rfl d_Ta_append_17 ?_
  refine g_get C 0 rfl rfl in_Ta 0 (by decide) kw_141 rfl d_Ta_append_18 ?_
  refine g_aload_n C 0 rfl d_Ta_append_21 ?_
  refine g_get C 0 rfl rfl in_Ta 1 (by decide) kw_142 rfl d_Ta_append_22 ?_
  refine g_iload_n C 1 rfl d_Ta_append_25 ?_
  refine g_iload_n C 2 rfl d_Ta_append_26 ?_
  refine g_iushr (v := (Int32.toUInt32 p0 >>> (Int32.toUInt32 0 &&& Int32.toUInt32 31)).toInt32) C rfl d_Ta_append_27 ?_
  refine g_sipush (v := 255) C rfl d_Ta_append_28 ?_
  refine g_iand C d_Ta_append_31 ?_
  refine g_eq (st1 := [.int (ibyt p0 0), .int (nI (((t + 1) + 1) + 1)), .ref q1]) (congrArg (fun z => Value.int z :: [.int (nI (((t + 1) + 1) + 1)), .ref q1]) rfl) rfl ?_
  refine g_iast (X1 := [(q0, .inr (10, [.ref q1, .int (nI (((t + 1) + 1) + 1))])), (q1, .inl (g.2.1 0, 300, .inl (upd (upd (upd (upd bf t (ibyt p0 24)) (t + 1) (ibyt p0 16)) ((t + 1) + 1) (ibyt p0 8)) (Int32.toNatClampNeg (nI (((t + 1) + 1) + 1))) (ibyt p0 0))))]) C 1 rfl (vp_in_nI (by omega) (by decide)) rfl d_Ta_append_32 ?_
  refine g_eq (X1 := [(q0, .inr (10, [.ref q1, .int (nI (((t + 1) + 1) + 1))])), (q1, .inl (g.2.1 0, 300, .inl (upd (upd (upd (upd bf t (ibyt p0 24)) (t + 1) (ibyt p0 16)) ((t + 1) + 1) (ibyt p0 8)) (((t + 1) + 1) + 1) (ibyt p0 0))))]) rfl (by rw [nI_clamp (by omega)]) ?_
  refine g_aload_n C 0 rfl d_Ta_append_33 ?_
  refine g_dup C rfl d_Ta_append_34 ?_
  refine g_get C 0 rfl rfl in_Ta 1 (by decide) kw_142 rfl d_Ta_append_35 ?_
  refine g_iconst (v := 1) C rfl d_Ta_append_38 ?_
  refine g_iadd C d_Ta_append_39 ?_
  refine g_eq (st1 := [.int (nI ((((t + 1) + 1) + 1) + 1)), .ref q0]) (congrArg (fun z => Value.int z :: [.ref q0]) (nI_add (((t + 1) + 1) + 1) 1)) rfl ?_
  refine g_put (X1 := [(q0, .inr (10, [.ref q1, .int (nI ((((t + 1) + 1) + 1) + 1))])), (q1, .inl (g.2.1 0, 300, .inl (upd (upd (upd (upd bf t (ibyt p0 24)) (t + 1) (ibyt p0 16)) ((t + 1) + 1) (ibyt p0 8)) (((t + 1) + 1) + 1) (ibyt p0 0))))]) C 0 rfl rfl in_Ta 1 (by decide) ok_Ta nm_Ta kw_142 rfl rfl rfl (Nat.le_of_ble_eq_true rfl) rfl d_Ta_append_40 ?_
  refine g_iinc (v := (-8)) (lv1 := [(0, .ref q0), (1, .int p0), (2, .int (-8))]) C d_Ta_append_43 2 rfl (by decide) [1, 2, 0] (by decide) rfl ?_
  refine g_goto C d_Ta_append_46 ?_
  refine g_iload_n C 2 rfl d_Ta_append_3 ?_
  refine g_if_lt C d_Ta_append_4 (fun _ => ?_) (fun c_9 => absurd c_9 (by decide))
  exact g_vret C rfl ⟨rfl, (by simp [app4]), rfl⟩ (by decide) (by decide) d_Ta_append_49

set_option maxHeartbeats 4000000 in
set_option maxRecDepth 100000 in
theorem c_Ra_setSacks (l : Launch) (g : Gx) (q0 q1 q2 q3 q4 q6 : Nat) (n : Int32) (sf : Nat → Int32) (p0 p1 : Int32) (hr : vp_in p0 4) : M0 l g y_Ra_setSacks b_Ra_setSacks 3 (some FieldType.boolean) ({ frames := 0, cells := 0, slots := 0, locals := 0 }) [.ref q0, .int p0, .int p1] [(q0, .inr (8, [.ref q6, .ref q1, .ref q2, .ref q3, .ref q4, .int n])), (q1, .inl (g.2.1 0, 4, .inl sf))] (some (.int (zb (rg p1 0 100)))) [(q0, .inr (8, [.ref q6, .ref q1, .ref q2, .ref q3, .ref q4, .int n])), (q1, .inl (g.2.1 0, 4, .inl (if rg p1 0 100 then upd sf p0.toNatClampNeg p1 else sf)))] := by
  refine MP.of (by decide) (Nat.le_of_ble_eq_true rfl) (fun κ C => ?_)
  have C : zC κ l g ({ frames := 0, cells := 0, slots := 0, locals := 0 }) b_Ra_setSacks 3 "TombLane$Rations" "setSacks" (some FieldType.boolean) _ := C
  refine g_lv (lv1 := [(0, .ref q0), (1, .int p0), (2, .int p1)]) [0, 1, 2] rfl ?_
  refine g_iload_n C 2 rfl d_Ra_setSacks_0 ?_
  refine g_if_lt C d_Ra_setSacks_1 (fun c_1 => ?_) (fun c_1 => ?_)
  · skip
    refine g_iconst (v := 0) C rfl d_Ra_setSacks_10 ?_
    exact g_zret C (Or.inl rfl) rfl ⟨congrArg (fun z => some (Value.int z)) (by simp [zb, rg, c_1, Int32.not_le.mpr c_1]), (by simp [zb, rg, c_1, Int32.not_le.mpr c_1]), rfl⟩ (by decide) (by decide) d_Ra_setSacks_11
  · skip
    refine g_iload_n C 2 rfl d_Ra_setSacks_4 ?_
    refine g_bipush (v := 100) C rfl d_Ra_setSacks_5 ?_
    refine g_icmp_le C d_Ra_setSacks_7 (fun c_2 => ?_) (fun c_2 => ?_)
    · skip
      refine g_aload_n C 0 rfl d_Ra_setSacks_12 ?_
      refine g_get C 0 rfl rfl in_Ra 1 (by decide) kw_305 rfl d_Ra_setSacks_13 ?_
      refine g_iload_n C 1 rfl d_Ra_setSacks_16 ?_
      refine g_iload_n C 2 rfl d_Ra_setSacks_17 ?_
      refine g_iast (X1 := [(q0, .inr (8, [.ref q6, .ref q1, .ref q2, .ref q3, .ref q4, .int n])), (q1, .inl (g.2.1 0, 4, .inl (upd sf (Int32.toNatClampNeg p0) p1)))]) C 1 rfl (by assumption) rfl d_Ra_setSacks_18 ?_
      refine g_iconst (v := 1) C rfl d_Ra_setSacks_19 ?_
      exact g_zret C (Or.inr rfl) rfl ⟨congrArg (fun z => some (Value.int z)) (by simp [zb, rg, c_1, Int32.not_lt.mp c_1, c_2, Int32.not_lt.mpr c_2]), (by simp [zb, rg, c_1, Int32.not_lt.mp c_1, c_2, Int32.not_lt.mpr c_2]), rfl⟩ (by decide) (by decide) d_Ra_setSacks_20
    · skip
      refine g_iconst (v := 0) C rfl d_Ra_setSacks_10 ?_
      exact g_zret C (Or.inl rfl) rfl ⟨congrArg (fun z => some (Value.int z)) (by simp [zb, rg, c_1, Int32.not_lt.mp c_1, c_2, Int32.not_le.mp c_2]), (by simp [zb, rg, c_1, Int32.not_lt.mp c_1, c_2, Int32.not_le.mp c_2]), rfl⟩ (by decide) (by decide) d_Ra_setSacks_11

def comeOk (n : Nat) (x : Int32) : Bool := decide (rg x 1 1000 = true ∧ n < 60)
set_option maxHeartbeats 4000000 in
set_option maxRecDepth 100000 in
theorem c_Ra_take (l : Launch) (g : Gx) (q0 q1 q2 q3 q4 q6 n : Nat) (tf df kf : Nat → Int32) (p0 p1 p2 : Int32) (hn : n ≤ 60) : M0 l g y_Ra_take b_Ra_take 4 (some FieldType.int) ({ frames := 0, cells := 0, slots := 0, locals := 0 }) [.ref q0, .int p0, .int p1, .int p2] [(q0, .inr (8, [.ref q6, .ref q1, .ref q2, .ref q3, .ref q4, .int (nI n)])), (q2, .inl (g.2.1 0, 60, .inl tf)), (q3, .inl (g.2.1 0, 60, .inl df)), (q4, .inl (g.2.1 0, 60, .inl kf))] (some (.int (if comeOk n p2 then nI (n + 1) else (-1)))) [(q0, .inr (8, [.ref q6, .ref q1, .ref q2, .ref q3, .ref q4, .int (nI (if comeOk n p2 then n + 1 else n))])), (q2, .inl (g.2.1 0, 60, .inl (if comeOk n p2 then upd tf n p0 else tf))), (q3, .inl (g.2.1 0, 60, .inl (if comeOk n p2 then upd df n p1 else df))), (q4, .inl (g.2.1 0, 60, .inl (if comeOk n p2 then upd kf n p2 else kf)))] := by
  refine MP.of (by decide) (Nat.le_of_ble_eq_true rfl) (fun κ C => ?_)
  have C : zC κ l g ({ frames := 0, cells := 0, slots := 0, locals := 0 }) b_Ra_take 4 "TombLane$Rations" "take" (some FieldType.int) _ := C
  refine g_lv (lv1 := [(0, .ref q0), (1, .int p0), (2, .int p1), (3, .int p2)]) [0, 1, 2, 3] rfl ?_
  refine g_iload_n C 3 rfl d_Ra_take_0 ?_
  refine g_iconst (v := 1) C rfl d_Ra_take_1 ?_
  refine g_icmp_lt C d_Ra_take_2 (fun c_1 => ?_) (fun c_1 => ?_)
  · skip
    refine g_iconst (v := (-1)) C rfl d_Ra_take_21 ?_
    exact g_iret C rfl ⟨congrArg (fun z => some (Value.int z)) (by simp [comeOk, rg, c_1, Int32.not_le.mpr c_1]), (by simp [comeOk, rg, c_1, Int32.not_le.mpr c_1]), rfl⟩ (by decide) (by decide) d_Ra_take_22
  · skip
    refine g_iload_n C 3 rfl d_Ra_take_5 ?_
    refine g_sipush (v := 1000) C rfl d_Ra_take_6 ?_
    refine g_icmp_gt C d_Ra_take_9 (fun c_2 => ?_) (fun c_2 => ?_)
    · skip
      refine g_iconst (v := (-1)) C rfl d_Ra_take_21 ?_
      exact g_iret C rfl ⟨congrArg (fun z => some (Value.int z)) (by simp [comeOk, rg, c_1, Int32.not_lt.mp c_1, c_2, Int32.not_le.mpr c_2]), (by simp [comeOk, rg, c_1, Int32.not_lt.mp c_1, c_2, Int32.not_le.mpr c_2]), rfl⟩ (by decide) (by decide) d_Ra_take_22
    · skip
      refine g_aload_n C 0 rfl d_Ra_take_12 ?_
      refine g_get C 0 rfl rfl in_Ra 5 (by decide) kw_309 rfl d_Ra_take_13 ?_
      refine g_bipush (v := 60) C rfl d_Ra_take_16 ?_
      refine g_icmp_lt C d_Ra_take_18 (fun c_3 => ?_) (fun c_3 => ?_)
      · skip
        have n_3 : n < 60 := (nI_ltI (a := n) (b := 60) (by omega) (by omega)).mp c_3
        refine g_aload_n C 0 rfl d_Ra_take_23 ?_
        refine g_get C 0 rfl rfl in_Ra 2 (by decide) kw_306 rfl d_Ra_take_24 ?_
        refine g_aload_n C 0 rfl d_Ra_take_27 ?_
        refine g_get C 0 rfl rfl in_Ra 5 (by decide) kw_309 rfl d_Ra_take_28 ?_
        refine g_iload_n C 1 rfl d_Ra_take_31 ?_
        refine g_iast (X1 := [(q0, .inr (8, [.ref q6, .ref q1, .ref q2, .ref q3, .ref q4, .int (nI n)])), (q2, .inl (g.2.1 0, 60, .inl (upd tf (Int32.toNatClampNeg (nI n)) p0))), (q3, .inl (g.2.1 0, 60, .inl df)), (q4, .inl (g.2.1 0, 60, .inl kf))]) C 1 rfl (vp_in_nI (by omega) (by decide)) rfl d_Ra_take_32 ?_
        refine g_eq (X1 := [(q0, .inr (8, [.ref q6, .ref q1, .ref q2, .ref q3, .ref q4, .int (nI n)])), (q2, .inl (g.2.1 0, 60, .inl (upd tf n p0))), (q3, .inl (g.2.1 0, 60, .inl df)), (q4, .inl (g.2.1 0, 60, .inl kf))]) rfl (by rw [nI_clamp (by omega)]) ?_
        refine g_aload_n C 0 rfl d_Ra_take_33 ?_
        refine g_get C 0 rfl rfl in_Ra 3 (by decide) kw_307 rfl d_Ra_take_34 ?_
        refine g_aload_n C 0 rfl d_Ra_take_37 ?_
        refine g_get C 0 rfl rfl in_Ra 5 (by decide) kw_309 rfl d_Ra_take_38 ?_
        refine g_iload_n C 2 rfl d_Ra_take_41 ?_
        refine g_iast (X1 := [(q0, .inr (8, [.ref q6, .ref q1, .ref q2, .ref q3, .ref q4, .int (nI n)])), (q2, .inl (g.2.1 0, 60, .inl (upd tf n p0))), (q3, .inl (g.2.1 0, 60, .inl (upd df (Int32.toNatClampNeg (nI n)) p1))), (q4, .inl (g.2.1 0, 60, .inl kf))]) C 2 rfl (vp_in_nI (by omega) (by decide)) rfl d_Ra_take_42 ?_
        refine g_eq (X1 := [(q0, .inr (8, [.ref q6, .ref q1, .ref q2, .ref q3, .ref q4, .int (nI n)])), (q2, .inl (g.2.1 0, 60, .inl (upd tf n p0))), (q3, .inl (g.2.1 0, 60, .inl (upd df n p1))), (q4, .inl (g.2.1 0, 60, .inl kf))]) rfl (by rw [nI_clamp (by omega)]) ?_
        refine g_aload_n C 0 rfl d_Ra_take_43 ?_
        refine g_get C 0 rfl rfl in_Ra 4 (by decide) kw_308 rfl d_Ra_take_44 ?_
        refine g_aload_n C 0 rfl d_Ra_take_47 ?_
        refine g_get C 0 rfl rfl in_Ra 5 (by decide) kw_309 rfl d_Ra_take_48 ?_
        refine g_iload_n C 3 rfl d_Ra_take_51 ?_
        refine g_iast (X1 := [(q0, .inr (8, [.ref q6, .ref q1, .ref q2, .ref q3, .ref q4, .int (nI n)])), (q2, .inl (g.2.1 0, 60, .inl (upd tf n p0))), (q3, .inl (g.2.1 0, 60, .inl (upd df n p1))), (q4, .inl (g.2.1 0, 60, .inl (upd kf (Int32.toNatClampNeg (nI n)) p2)))]) C 3 rfl (vp_in_nI (by omega) (by decide)) rfl d_Ra_take_52 ?_
        refine g_eq (X1 := [(q0, .inr (8, [.ref q6, .ref q1, .ref q2, .ref q3, .ref q4, .int (nI n)])), (q2, .inl (g.2.1 0, 60, .inl (upd tf n p0))), (q3, .inl (g.2.1 0, 60, .inl (upd df n p1))), (q4, .inl (g.2.1 0, 60, .inl (upd kf n p2)))]) rfl (by rw [nI_clamp (by omega)]) ?_
        refine g_aload_n C 0 rfl d_Ra_take_53 ?_
        refine g_dup C rfl d_Ra_take_54 ?_
        refine g_get C 0 rfl rfl in_Ra 5 (by decide) kw_309 rfl d_Ra_take_55 ?_
        refine g_iconst (v := 1) C rfl d_Ra_take_58 ?_
        refine g_iadd C d_Ra_take_59 ?_
        refine g_eq (st1 := [.int (nI (n + 1)), .ref q0]) (congrArg (fun z => Value.int z :: [.ref q0]) (nI_add n 1)) rfl ?_
        refine g_put (X1 := [(q0, .inr (8, [.ref q6, .ref q1, .ref q2, .ref q3, .ref q4, .int (nI (n + 1))])), (q2, .inl (g.2.1 0, 60, .inl (upd tf n p0))), (q3, .inl (g.2.1 0, 60, .inl (upd df n p1))), (q4, .inl (g.2.1 0, 60, .inl (upd kf n p2)))]) C 0 rfl rfl in_Ra 5 (by decide) ok_Ra nm_Ra kw_309 rfl rfl rfl (Nat.le_of_ble_eq_true rfl) rfl d_Ra_take_60 ?_
        refine g_aload_n C 0 rfl d_Ra_take_63 ?_
        refine g_get C 0 rfl rfl in_Ra 5 (by decide) kw_309 rfl d_Ra_take_64 ?_
        exact g_iret C rfl ⟨congrArg (fun z => some (Value.int z)) (by simp [comeOk, rg, c_1, Int32.not_lt.mp c_1, c_2, Int32.not_lt.mp c_2, c_3, Int32.not_le.mpr c_3, n_3, Nat.not_le.mpr n_3]), (by simp [comeOk, rg, c_1, Int32.not_lt.mp c_1, c_2, Int32.not_lt.mp c_2, c_3, Int32.not_le.mpr c_3, n_3, Nat.not_le.mpr n_3]), rfl⟩ (by decide) (by decide) d_Ra_take_67
      · skip
        have n_3 : 60 ≤ n := Nat.not_lt.mp (fun z => c_3 ((nI_ltI (a := n) (b := 60) (by omega) (by omega)).mpr z))
        refine g_iconst (v := (-1)) C rfl d_Ra_take_21 ?_
        exact g_iret C rfl ⟨congrArg (fun z => some (Value.int z)) (by simp [comeOk, rg, c_1, Int32.not_lt.mp c_1, c_2, Int32.not_lt.mp c_2, c_3, Int32.not_lt.mp c_3, n_3, Nat.not_lt.mpr n_3]), (by simp [comeOk, rg, c_1, Int32.not_lt.mp c_1, c_2, Int32.not_lt.mp c_2, c_3, Int32.not_lt.mp c_3, n_3, Nat.not_lt.mpr n_3]), rfl⟩ (by decide) (by decide) d_Ra_take_22

def owe (tf df kf : Nat → Int32) (m d : Int32) : Nat → Nat → Int32 → Int32
  | 0, _, a => a
  | k + 1, i, a => owe tf df kf m d k (i + 1) (if tf i = m ∧ ¬ d < df i then a - kf i else a)
set_option maxHeartbeats 4000000 in
set_option maxRecDepth 100000 in
theorem lp_Ra_owedTo (l : Launch) (g : Gx) {κ : Kx} {E : Ex} {P : va_W} (q0 q1 q2 q3 q4 q6 m1 m2 m3 n : Nat) (mn : Int32) (sf tf df kf rf : Nat → Int32) (p0 p1 : Int32) (hn : n ≤ 60) (C : zC κ l g ({ frames := 0, cells := 0, slots := 0, locals := 0 }) b_Ra_owedTo 6 "TombLane$Rations" "owedTo" (some FieldType.int) E) : ∀ (k : Nat) (i : Nat) (a : Int32), (i + k = n) → (E (some (.int (owe tf df kf p0 p1 k i a))) [(q0, .inr (8, [.ref q6, .ref q1, .ref q2, .ref q3, .ref q4, .int (nI n)])), (q1, .inl (g.2.1 0, 4, .inl sf)), (q2, .inl (g.2.1 0, 60, .inl tf)), (q3, .inl (g.2.1 0, 60, .inl df)), (q4, .inl (g.2.1 0, 60, .inl kf)), (q6, .inr (7, [.ref m1, .ref m2, .ref m3, .int mn])), (m3, .inl (g.2.1 0, 12, .inl rf))] P) → G κ 6 0 0 28 [(0, .ref q0), (1, .int p0), (2, .int p1), (4, .int a), (5, .int (nI i))] [] [(q0, .inr (8, [.ref q6, .ref q1, .ref q2, .ref q3, .ref q4, .int (nI n)])), (q1, .inl (g.2.1 0, 4, .inl sf)), (q2, .inl (g.2.1 0, 60, .inl tf)), (q3, .inl (g.2.1 0, 60, .inl df)), (q4, .inl (g.2.1 0, 60, .inl kf)), (q6, .inr (7, [.ref m1, .ref m2, .ref m3, .int mn])), (m3, .inl (g.2.1 0, 12, .inl rf))] P := by
  intro k
  induction k with
  | zero =>
    intro i a hi hE
    refine g_iload C 4 rfl d_Ra_owedTo_28 ?_
    refine g_aload_n C 0 rfl d_Ra_owedTo_30 ?_
    refine g_get C 0 rfl rfl in_Ra 5 (by decide) kw_309 rfl d_Ra_owedTo_31 ?_
    refine g_icmp_ge C d_Ra_owedTo_34 (fun _ => ?_) (fun c_1 => absurd (nI_le (by omega) (by omega)) c_1)
    refine g_iload C 3 rfl d_Ra_owedTo_77 ?_
    exact g_iret C rfl hE (by decide) (by decide) d_Ra_owedTo_79
  | succ k ih =>
    intro i a hi hE
    refine g_iload C 4 rfl d_Ra_owedTo_28 ?_
    refine g_aload_n C 0 rfl d_Ra_owedTo_30 ?_
    refine g_get C 0 rfl rfl in_Ra 5 (by decide) kw_309 rfl d_Ra_owedTo_31 ?_
    refine g_icmp_ge C d_Ra_owedTo_34 (fun c_1 => absurd c_1 (nI_ge (by omega) (by omega))) (fun _ => ?_)
    refine g_aload_n C 0 rfl d_Ra_owedTo_37 ?_
    refine g_get C 0 rfl rfl in_Ra 2 (by decide) kw_306 rfl d_Ra_owedTo_38 ?_
    refine g_iload C 4 rfl d_Ra_owedTo_41 ?_
    refine g_iald C 2 rfl (vp_in_nI (by omega) (by decide)) d_Ra_owedTo_43 ?_
    refine g_eq (st1 := [.int (tf i)]) (congrArg (fun z => Value.int z :: []) (congrArg tf (nI_clamp (by omega)))) rfl ?_
    refine g_iload_n C 1 rfl d_Ra_owedTo_44 ?_
    refine g_icmp_ne C d_Ra_owedTo_45 (fun c_2 => ?_) (fun c_2 => ?_)
    · skip
      refine g_iinc (v := nI (i + 1)) (lv1 := [(0, .ref q0), (1, .int p0), (2, .int p1), (4, .int a), (5, .int (nI (i + 1)))]) C d_Ra_owedTo_71 4 rfl (nI_1 _) [1, 2, 3, 4, 0] (by decide) rfl ?_
      refine g_goto C d_Ra_owedTo_74 ?_
      exact ih (i + 1) _ (by omega) (by simpa [owe, c_2] using hE)
    · skip
      refine g_aload_n C 0 rfl d_Ra_owedTo_48 ?_
      refine g_get C 0 rfl rfl in_Ra 3 (by decide) kw_307 rfl d_Ra_owedTo_49 ?_
      refine g_iload C 4 rfl d_Ra_owedTo_52 ?_
      refine g_iald C 3 rfl (vp_in_nI (by omega) (by decide)) d_Ra_owedTo_54 ?_
      refine g_eq (st1 := [.int (df i)]) (congrArg (fun z => Value.int z :: []) (congrArg df (nI_clamp (by omega)))) rfl ?_
      refine g_iload_n C 2 rfl d_Ra_owedTo_55 ?_
      refine g_icmp_gt C d_Ra_owedTo_56 (fun c_3 => ?_) (fun c_3 => ?_)
      · skip
        refine g_iinc (v := nI (i + 1)) (lv1 := [(0, .ref q0), (1, .int p0), (2, .int p1), (4, .int a), (5, .int (nI (i + 1)))]) C d_Ra_owedTo_71 4 rfl (nI_1 _) [1, 2, 3, 4, 0] (by decide) rfl ?_
        refine g_goto C d_Ra_owedTo_74 ?_
        exact ih (i + 1) _ (by omega) (by simpa [owe, eq_true c_2, c_3, Int32.not_le.mpr c_3] using hE)
      · skip
        refine g_iload C 3 rfl d_Ra_owedTo_59 ?_
        refine g_aload_n C 0 rfl d_Ra_owedTo_61 ?_
        refine g_get C 0 rfl rfl in_Ra 4 (by decide) kw_308 rfl d_Ra_owedTo_62 ?_
        refine g_iload C 4 rfl d_Ra_owedTo_65 ?_
        refine g_iald C 4 rfl (vp_in_nI (by omega) (by decide)) d_Ra_owedTo_67 ?_
        refine g_eq (st1 := [.int (kf i), .int a]) (congrArg (fun z => Value.int z :: [.int a]) (congrArg kf (nI_clamp (by omega)))) rfl ?_
        refine g_isub C d_Ra_owedTo_68 ?_
        refine g_istore (lv1 := [(0, .ref q0), (1, .int p0), (2, .int p1), (4, .int (a - (kf i))), (5, .int (nI i))]) C d_Ra_owedTo_69 [1, 2, 3, 0, 4] (by decide) rfl ?_
        refine g_iinc (v := nI (i + 1)) (lv1 := [(0, .ref q0), (1, .int p0), (2, .int p1), (4, .int (a - (kf i))), (5, .int (nI (i + 1)))]) C d_Ra_owedTo_71 4 rfl (nI_1 _) [1, 2, 3, 4, 0] (by decide) rfl ?_
        refine g_goto C d_Ra_owedTo_74 ?_
        exact ih (i + 1) _ (by omega) (by simpa [owe, eq_true c_2, c_3, Int32.not_lt.mp c_3] using hE)

set_option maxHeartbeats 4000000 in
set_option maxRecDepth 100000 in
theorem c_Ra_owedTo (l : Launch) (g : Gx) (q0 q1 q2 q3 q4 q6 m1 m2 m3 n : Nat) (mn : Int32) (sf tf df kf rf : Nat → Int32) (p0 p1 : Int32) (hn : n ≤ 60) (hp : vp_in p0 12) (hr : vp_in (rf p0.toNatClampNeg) 4) : M0 l g y_Ra_owedTo b_Ra_owedTo 6 (some FieldType.int) ({ frames := 0, cells := 0, slots := 0, locals := 0 }) [.ref q0, .int p0, .int p1] [(q0, .inr (8, [.ref q6, .ref q1, .ref q2, .ref q3, .ref q4, .int (nI n)])), (q1, .inl (g.2.1 0, 4, .inl sf)), (q2, .inl (g.2.1 0, 60, .inl tf)), (q3, .inl (g.2.1 0, 60, .inl df)), (q4, .inl (g.2.1 0, 60, .inl kf)), (q6, .inr (7, [.ref m1, .ref m2, .ref m3, .int mn])), (m3, .inl (g.2.1 0, 12, .inl rf))] (some (.int (owe tf df kf p0 p1 n 0 ((p1 + 1) / 30 * sf (rf p0.toNatClampNeg).toNatClampNeg)))) [(q0, .inr (8, [.ref q6, .ref q1, .ref q2, .ref q3, .ref q4, .int (nI n)])), (q1, .inl (g.2.1 0, 4, .inl sf)), (q2, .inl (g.2.1 0, 60, .inl tf)), (q3, .inl (g.2.1 0, 60, .inl df)), (q4, .inl (g.2.1 0, 60, .inl kf)), (q6, .inr (7, [.ref m1, .ref m2, .ref m3, .int mn])), (m3, .inl (g.2.1 0, 12, .inl rf))] := by
  refine MP.of (by decide) (Nat.le_of_ble_eq_true rfl) (fun κ C => ?_)
  have C : zC κ l g ({ frames := 0, cells := 0, slots := 0, locals := 0 }) b_Ra_owedTo 6 "TombLane$Rations" "owedTo" (some FieldType.int) _ := C
  refine g_lv (lv1 := [(0, .ref q0), (1, .int p0), (2, .int p1)]) [0, 1, 2] rfl ?_
  refine g_iload_n C 2 rfl d_Ra_owedTo_0 ?_
  refine g_iconst (v := 1) C rfl d_Ra_owedTo_1 ?_
  refine g_iadd C d_Ra_owedTo_2 ?_
  refine g_bipush (v := 30) C rfl d_Ra_owedTo_3 ?_
  refine g_idiv C (by decide) d_Ra_owedTo_5 ?_
  refine g_istore_n (lv1 := [(0, .ref q0), (1, .int p0), (2, .int p1), (3, .int ((p1 + 1) / 30))]) C d_Ra_owedTo_6 [1, 2, 3, 0] (by decide) rfl ?_
  refine g_iload_n C 3 rfl d_Ra_owedTo_7 ?_
  refine g_aload_n C 0 rfl d_Ra_owedTo_8 ?_
  refine g_get C 0 rfl rfl in_Ra 1 (by decide) kw_305 rfl d_Ra_owedTo_9 ?_
  refine g_aload_n C 0 rfl d_Ra_owedTo_12 ?_
  refine g_get C 0 rfl rfl in_Ra 0 (by decide) kw_304 rfl d_Ra_owedTo_13 ?_
  refine g_getN C 5 rfl rfl in_Me 2 (by decide) kw_119 rfl d_Ra_owedTo_16 ?_
  refine g_iload_n C 1 rfl d_Ra_owedTo_19 ?_
  refine g_iald C 6 rfl hp d_Ra_owedTo_20 ?_
  refine g_iald C 1 rfl hr d_Ra_owedTo_21 ?_
  refine g_imul C d_Ra_owedTo_22 ?_
  refine g_istore (lv1 := [(0, .ref q0), (1, .int p0), (2, .int p1), (3, .int ((p1 + 1) / 30)), (4, .int (((p1 + 1) / 30) * (sf (Int32.toNatClampNeg (rf (Int32.toNatClampNeg p0))))))]) C d_Ra_owedTo_23 [1, 2, 3, 4, 0] (by decide) rfl ?_
  refine g_iconst (v := 0) C rfl d_Ra_owedTo_25 ?_
  refine g_istore (lv1 := [(0, .ref q0), (1, .int p0), (2, .int p1), (3, .int ((p1 + 1) / 30)), (4, .int (((p1 + 1) / 30) * (sf (Int32.toNatClampNeg (rf (Int32.toNatClampNeg p0)))))), (5, .int 0)]) C d_Ra_owedTo_26 [1, 2, 3, 4, 5, 0] (by decide) rfl ?_
  refine g_lv (lv1 := [(0, .ref q0), (1, .int p0), (2, .int p1), (4, .int (((p1 + 1) / 30) * (sf (Int32.toNatClampNeg (rf (Int32.toNatClampNeg p0)))))), (5, .int 0)]) [0, 1, 2, 4, 5] rfl ?_
  exact lp_Ra_owedTo l g q0 q1 q2 q3 q4 q6 m1 m2 m3 n mn sf tf df kf rf p0 p1 hn C n 0 _ (by omega) ⟨rfl, rfl, rfl⟩

