set_option maxHeartbeats 4000000 in
set_option maxRecDepth 100000 in
theorem c_Me_init (l : Launch) (g : Gx) (q0 : Nat) : MP l g y_Me_init b_Me_init 1 (none : Option FieldType) ({ frames := 1, cells := 3, slots := 36, locals := 20 }) [.ref q0] [(q0, .inr (7, [.null, .null, .null, .int 0]))] [] (fun v2 X2 P2 => ∃ a1 a2 a3 : Nat, v2 = none ∧ X2 = [(q0, .inr (7, [.ref a1, .ref a2, .ref a3, .int 0])), (a1, .inl (g.2.1 1, 12, .inr (.inl (fun _ => 0)))), (a2, .inl (g.2.1 0, 12, .inl (fun _ => 0))), (a3, .inl (g.2.1 0, 12, .inl (fun _ => 0)))] ∧ P2 = []) := by
  refine MP.of (by decide) (Nat.le_of_ble_eq_true rfl) (fun κ C => ?_)
  have C : zC κ l g ({ frames := 1, cells := 3, slots := 36, locals := 20 }) b_Me_init 1 "TombLane$Men" "<init>" (none : Option FieldType) _ := C
  refine g_lv (lv1 := [(0, .ref q0)]) [0] rfl ?_
  refine g_aload_n C 0 rfl d_Me_init_0 ?_
  refine g_objInit C kw_112 kw_105 kw_106 (by decide) (Nat.le_of_ble_eq_true rfl) d_Me_init_1 ?_
  refine g_aload_n C 0 rfl d_Me_init_4 ?_
  refine g_bipush (v := 12) C rfl d_Me_init_5 ?_
  refine g_newa_l C 12 kw_133 (by decide) (by decide) (by decide) (by decide) (by decide) d_Me_init_7 (fun a1 ha1 => ?_)
  refine g_eq (X1 := [(q0, .inr (7, [.null, .null, .null, .int 0])), (a1, .inl (g.2.1 1, 12, .inr (.inl (fun _ => 0))))]) rfl rfl ?_
  refine g_putF (X1 := [(q0, .inr (7, [.ref a1, .null, .null, .int 0])), (a1, .inl (g.2.1 1, 12, .inr (.inl (fun _ => 0))))]) C 0 rfl rfl in_Me 0 (by decide) ok_Me nm_Me kw_113 rfl rfl rfl rfl rfl (Nat.le_of_ble_eq_true rfl) rfl d_Me_init_9 ?_
  refine g_aload_n C 0 rfl d_Me_init_12 ?_
  refine g_bipush (v := 12) C rfl d_Me_init_13 ?_
  refine g_newa_i C 12 kw_134 (by decide) (by decide) (by decide) (by decide) (by decide) d_Me_init_15 (fun a2 ha2 => ?_)
  refine g_eq (X1 := [(q0, .inr (7, [.ref a1, .null, .null, .int 0])), (a1, .inl (g.2.1 1, 12, .inr (.inl (fun _ => 0)))), (a2, .inl (g.2.1 0, 12, .inl (fun _ => 0)))]) rfl rfl ?_
  refine g_putF (X1 := [(q0, .inr (7, [.ref a1, .ref a2, .null, .int 0])), (a1, .inl (g.2.1 1, 12, .inr (.inl (fun _ => 0)))), (a2, .inl (g.2.1 0, 12, .inl (fun _ => 0)))]) C 0 rfl rfl in_Me 1 (by decide) ok_Me nm_Me kw_115 rfl rfl rfl rfl rfl (Nat.le_of_ble_eq_true rfl) rfl d_Me_init_17 ?_
  refine g_aload_n C 0 rfl d_Me_init_20 ?_
  refine g_bipush (v := 12) C rfl d_Me_init_21 ?_
  refine g_newa_i C 12 kw_134 (by decide) (by decide) (by decide) (by decide) (by decide) d_Me_init_23 (fun a3 ha3 => ?_)
  refine g_eq (X1 := [(q0, .inr (7, [.ref a1, .ref a2, .null, .int 0])), (a1, .inl (g.2.1 1, 12, .inr (.inl (fun _ => 0)))), (a2, .inl (g.2.1 0, 12, .inl (fun _ => 0))), (a3, .inl (g.2.1 0, 12, .inl (fun _ => 0)))]) rfl rfl ?_
  refine g_putF (X1 := [(q0, .inr (7, [.ref a1, .ref a2, .ref a3, .int 0])), (a1, .inl (g.2.1 1, 12, .inr (.inl (fun _ => 0)))), (a2, .inl (g.2.1 0, 12, .inl (fun _ => 0))), (a3, .inl (g.2.1 0, 12, .inl (fun _ => 0)))]) C 0 rfl rfl in_Me 2 (by decide) ok_Me nm_Me kw_118 rfl rfl rfl rfl rfl (Nat.le_of_ble_eq_true rfl) rfl d_Me_init_25 ?_
  refine g_aload_n C 0 rfl d_Me_init_28 ?_
  refine g_iconst (v := 0) C rfl d_Me_init_29 ?_
  refine g_put (X1 := [(q0, .inr (7, [.ref a1, .ref a2, .ref a3, .int 0])), (a1, .inl (g.2.1 1, 12, .inr (.inl (fun _ => 0)))), (a2, .inl (g.2.1 0, 12, .inl (fun _ => 0))), (a3, .inl (g.2.1 0, 12, .inl (fun _ => 0)))]) C 0 rfl rfl in_Me 3 (by decide) ok_Me nm_Me kw_121 rfl rfl rfl (Nat.le_of_ble_eq_true rfl) rfl d_Me_init_30 ?_
  exact g_vret C rfl ⟨a1, a2, a3, rfl, rfl, rfl⟩ (by decide) (by decide) d_Me_init_33

set_option maxHeartbeats 4000000 in
set_option maxRecDepth 100000 in
theorem c_Ta_init (l : Launch) (g : Gx) (q0 : Nat) : MP l g y_Ta_init b_Ta_init 1 (none : Option FieldType) ({ frames := 1, cells := 1, slots := 300, locals := 20 }) [.ref q0] [(q0, .inr (10, [.null, .int 0]))] [] (fun v2 X2 P2 => ∃ a1 : Nat, v2 = none ∧ X2 = [(q0, .inr (10, [.ref a1, .int 0])), (a1, .inl (g.2.1 0, 300, .inl (fun _ => 0)))] ∧ P2 = []) := by
  refine MP.of (by decide) (Nat.le_of_ble_eq_true rfl) (fun κ C => ?_)
  have C : zC κ l g ({ frames := 1, cells := 1, slots := 300, locals := 20 }) b_Ta_init 1 "TombLane$Tape" "<init>" (none : Option FieldType) _ := C
  refine g_lv (lv1 := [(0, .ref q0)]) [0] rfl ?_
  refine g_aload_n C 0 rfl d_Ta_init_0 ?_
  refine g_objInit C kw_140 kw_105 kw_106 (by decide) (Nat.le_of_ble_eq_true rfl) d_Ta_init_1 ?_
  refine g_aload_n C 0 rfl d_Ta_init_4 ?_
  refine g_sipush (v := 300) C rfl d_Ta_init_5 ?_
  refine g_newa_i C 300 kw_134 (by decide) (by decide) (by decide) (by decide) (by decide) d_Ta_init_8 (fun a1 ha1 => ?_)
  refine g_eq (X1 := [(q0, .inr (10, [.null, .int 0])), (a1, .inl (g.2.1 0, 300, .inl (fun _ => 0)))]) rfl rfl ?_
  refine g_putF (X1 := [(q0, .inr (10, [.ref a1, .int 0])), (a1, .inl (g.2.1 0, 300, .inl (fun _ => 0)))]) C 0 rfl rfl in_Ta 0 (by decide) ok_Ta nm_Ta kw_141 rfl rfl rfl rfl rfl (Nat.le_of_ble_eq_true rfl) rfl d_Ta_init_10 ?_
  refine g_aload_n C 0 rfl d_Ta_init_13 ?_
  refine g_iconst (v := 0) C rfl d_Ta_init_14 ?_
  refine g_put (X1 := [(q0, .inr (10, [.ref a1, .int 0])), (a1, .inl (g.2.1 0, 300, .inl (fun _ => 0)))]) C 0 rfl rfl in_Ta 1 (by decide) ok_Ta nm_Ta kw_142 rfl rfl rfl (Nat.le_of_ble_eq_true rfl) rfl d_Ta_init_15 ?_
  exact g_vret C rfl ⟨a1, rfl, rfl, rfl⟩ (by decide) (by decide) d_Ta_init_18

set_option maxHeartbeats 4000000 in
set_option maxRecDepth 100000 in
theorem c_Se_init (l : Launch) (g : Gx) (q0 : Nat) : MP l g y_Se_init b_Se_init 1 (none : Option FieldType) ({ frames := 1, cells := 2, slots := 2060, locals := 20 }) [.ref q0] [(q0, .inr (9, [.null, .null]))] [] (fun v2 X2 P2 => ∃ a1 a2 : Nat, v2 = none ∧ X2 = [(q0, .inr (9, [.ref a1, .ref a2])), (a1, .inl (g.2.1 0, 12, .inl (fun _ => 0))), (a2, .inl (g.2.1 0, 2048, .inl (fun _ => 0)))] ∧ P2 = []) := by
  refine MP.of (by decide) (Nat.le_of_ble_eq_true rfl) (fun κ C => ?_)
  have C : zC κ l g ({ frames := 1, cells := 2, slots := 2060, locals := 20 }) b_Se_init 1 "TombLane$Settling" "<init>" (none : Option FieldType) _ := C
  refine g_lv (lv1 := [(0, .ref q0)]) [0] rfl ?_
  refine g_aload_n C 0 rfl d_Se_init_0 ?_
  refine g_objInit C kw_364 kw_105 kw_106 (by decide) (Nat.le_of_ble_eq_true rfl) d_Se_init_1 ?_
  refine g_aload_n C 0 rfl d_Se_init_4 ?_
  refine g_bipush (v := 12) C rfl d_Se_init_5 ?_
  refine g_newa_i C 12 kw_134 (by decide) (by decide) (by decide) (by decide) (by decide) d_Se_init_7 (fun a1 ha1 => ?_)
  refine g_eq (X1 := [(q0, .inr (9, [.null, .null])), (a1, .inl (g.2.1 0, 12, .inl (fun _ => 0)))]) rfl rfl ?_
  refine g_putF (X1 := [(q0, .inr (9, [.ref a1, .null])), (a1, .inl (g.2.1 0, 12, .inl (fun _ => 0)))]) C 0 rfl rfl in_Se 0 (by decide) ok_Se nm_Se kw_365 rfl rfl rfl rfl rfl (Nat.le_of_ble_eq_true rfl) rfl d_Se_init_9 ?_
  refine g_aload_n C 0 rfl d_Se_init_12 ?_
  refine g_sipush (v := 2048) C rfl d_Se_init_13 ?_
  refine g_newa_i C 2048 kw_134 (by decide) (by decide) (by decide) (by decide) (by decide) d_Se_init_16 (fun a2 ha2 => ?_)
  refine g_eq (X1 := [(q0, .inr (9, [.ref a1, .null])), (a1, .inl (g.2.1 0, 12, .inl (fun _ => 0))), (a2, .inl (g.2.1 0, 2048, .inl (fun _ => 0)))]) rfl rfl ?_
  refine g_putF (X1 := [(q0, .inr (9, [.ref a1, .ref a2])), (a1, .inl (g.2.1 0, 12, .inl (fun _ => 0))), (a2, .inl (g.2.1 0, 2048, .inl (fun _ => 0)))]) C 0 rfl rfl in_Se 1 (by decide) ok_Se nm_Se kw_366 rfl rfl rfl rfl rfl (Nat.le_of_ble_eq_true rfl) rfl d_Se_init_18 ?_
  exact g_vret C rfl ⟨a1, a2, rfl, rfl, rfl⟩ (by decide) (by decide) d_Se_init_21

set_option maxHeartbeats 4000000 in
set_option maxRecDepth 100000 in
theorem c_Ra_init (l : Launch) (g : Gx) (q0 q1 : Nat) : MP l g y_Ra_init b_Ra_init 2 (none : Option FieldType) ({ frames := 1, cells := 4, slots := 184, locals := 20 }) [.ref q0, .ref q1] [(q0, .inr (8, [.null, .null, .null, .null, .null, .int 0]))] [] (fun v2 X2 P2 => ∃ a1 a2 a3 a4 : Nat, v2 = none ∧ X2 = [(q0, .inr (8, [.ref q1, .ref a1, .ref a2, .ref a3, .ref a4, .int 0])), (a1, .inl (g.2.1 0, 4, .inl (upd (upd (upd (upd (fun _ => 0) 0 4) 1 5) 2 6) 3 7))), (a2, .inl (g.2.1 0, 60, .inl (fun _ => 0))), (a3, .inl (g.2.1 0, 60, .inl (fun _ => 0))), (a4, .inl (g.2.1 0, 60, .inl (fun _ => 0)))] ∧ P2 = []) := by
  refine MP.of (by decide) (Nat.le_of_ble_eq_true rfl) (fun κ C => ?_)
  have C : zC κ l g ({ frames := 1, cells := 4, slots := 184, locals := 20 }) b_Ra_init 2 "TombLane$Rations" "<init>" (none : Option FieldType) _ := C
  refine g_lv (lv1 := [(0, .ref q0), (1, .ref q1)]) [0, 1] rfl ?_
  refine g_aload_n C 0 rfl d_Ra_init_0 ?_
  refine g_objInit C kw_303 kw_105 kw_106 (by decide) (Nat.le_of_ble_eq_true rfl) d_Ra_init_1 ?_
  refine g_aload_n C 0 rfl d_Ra_init_4 ?_
  refine g_iconst (v := 4) C rfl d_Ra_init_5 ?_
  refine g_newa_i C 4 kw_134 (by decide) (by decide) (by decide) (by decide) (by decide) d_Ra_init_6 (fun a1 ha1 => ?_)
  refine g_eq (X1 := [(q0, .inr (8, [.null, .null, .null, .null, .null, .int 0])), (a1, .inl (g.2.1 0, 4, .inl (fun _ => 0)))]) rfl rfl ?_
  refine g_dup C rfl d_Ra_init_8 ?_
  refine g_iconst (v := 0) C rfl d_Ra_init_9 ?_
  refine g_iconst (v := 4) C rfl d_Ra_init_10 ?_
  refine g_iast (X1 := [(q0, .inr (8, [.null, .null, .null, .null, .null, .int 0])), (a1, .inl (g.2.1 0, 4, .inl (upd (fun _ => 0) (Int32.toNatClampNeg 0) 4)))]) C 1 rfl (vp_in_nI (n := 0) (by decide) (by decide)) rfl d_Ra_init_11 ?_
  refine g_eq (X1 := [(q0, .inr (8, [.null, .null, .null, .null, .null, .int 0])), (a1, .inl (g.2.1 0, 4, .inl (upd (fun _ => 0) 0 4)))]) rfl rfl ?_
  refine g_dup C rfl d_Ra_init_12 ?_
  refine g_iconst (v := 1) C rfl d_Ra_init_13 ?_
  refine g_iconst (v := 5) C rfl d_Ra_init_14 ?_
  refine g_iast (X1 := [(q0, .inr (8, [.null, .null, .null, .null, .null, .int 0])), (a1, .inl (g.2.1 0, 4, .inl (upd (upd (fun _ => 0) 0 4) (Int32.toNatClampNeg 1) 5)))]) C 1 rfl (vp_in_nI (n := 1) (by decide) (by decide)) rfl d_Ra_init_15 ?_
  refine g_eq (X1 := [(q0, .inr (8, [.null, .null, .null, .null, .null, .int 0])), (a1, .inl (g.2.1 0, 4, .inl (upd (upd (fun _ => 0) 0 4) 1 5)))]) rfl rfl ?_
  refine g_dup C rfl d_Ra_init_16 ?_
  refine g_iconst (v := 2) C rfl d_Ra_init_17 ?_
  refine g_bipush (v := 6) C rfl d_Ra_init_18 ?_
  refine g_iast (X1 := [(q0, .inr (8, [.null, .null, .null, .null, .null, .int 0])), (a1, .inl (g.2.1 0, 4, .inl (upd (upd (upd (fun _ => 0) 0 4) 1 5) (Int32.toNatClampNeg 2) 6)))]) C 1 rfl (vp_in_nI (n := 2) (by decide) (by decide)) rfl d_Ra_init_20 ?_
  refine g_eq (X1 := [(q0, .inr (8, [.null, .null, .null, .null, .null, .int 0])), (a1, .inl (g.2.1 0, 4, .inl (upd (upd (upd (fun _ => 0) 0 4) 1 5) 2 6)))]) rfl rfl ?_
  refine g_dup C rfl d_Ra_init_21 ?_
  refine g_iconst (v := 3) C rfl d_Ra_init_22 ?_
  refine g_bipush (v := 7) C rfl d_Ra_init_23 ?_
  refine g_iast (X1 := [(q0, .inr (8, [.null, .null, .null, .null, .null, .int 0])), (a1, .inl (g.2.1 0, 4, .inl (upd (upd (upd (upd (fun _ => 0) 0 4) 1 5) 2 6) (Int32.toNatClampNeg 3) 7)))]) C 1 rfl (vp_in_nI (n := 3) (by decide) (by decide)) rfl d_Ra_init_25 ?_
  refine g_eq (X1 := [(q0, .inr (8, [.null, .null, .null, .null, .null, .int 0])), (a1, .inl (g.2.1 0, 4, .inl (upd (upd (upd (upd (fun _ => 0) 0 4) 1 5) 2 6) 3 7)))]) rfl rfl ?_
  refine g_putF (X1 := [(q0, .inr (8, [.null, .ref a1, .null, .null, .null, .int 0])), (a1, .inl (g.2.1 0, 4, .inl (upd (upd (upd (upd (fun _ => 0) 0 4) 1 5) 2 6) 3 7)))]) C 0 rfl rfl in_Ra 1 (by decide) ok_Ra nm_Ra kw_305 rfl rfl rfl rfl rfl (Nat.le_of_ble_eq_true rfl) rfl d_Ra_init_26 ?_
  refine g_aload_n C 0 rfl d_Ra_init_29 ?_
  refine g_bipush (v := 60) C rfl d_Ra_init_30 ?_
  refine g_newa_i C 60 kw_134 (by decide) (by decide) (by decide) (by decide) (by decide) d_Ra_init_32 (fun a2 ha2 => ?_)
  refine g_eq (X1 := [(q0, .inr (8, [.null, .ref a1, .null, .null, .null, .int 0])), (a1, .inl (g.2.1 0, 4, .inl (upd (upd (upd (upd (fun _ => 0) 0 4) 1 5) 2 6) 3 7))), (a2, .inl (g.2.1 0, 60, .inl (fun _ => 0)))]) rfl rfl ?_
  refine g_putF (X1 := [(q0, .inr (8, [.null, .ref a1, .ref a2, .null, .null, .int 0])), (a1, .inl (g.2.1 0, 4, .inl (upd (upd (upd (upd (fun _ => 0) 0 4) 1 5) 2 6) 3 7))), (a2, .inl (g.2.1 0, 60, .inl (fun _ => 0)))]) C 0 rfl rfl in_Ra 2 (by decide) ok_Ra nm_Ra kw_306 rfl rfl rfl rfl rfl (Nat.le_of_ble_eq_true rfl) rfl d_Ra_init_34 ?_
  refine g_aload_n C 0 rfl d_Ra_init_37 ?_
  refine g_bipush (v := 60) C rfl d_Ra_init_38 ?_
  refine g_newa_i C 60 kw_134 (by decide) (by decide) (by decide) (by decide) (by decide) d_Ra_init_40 (fun a3 ha3 => ?_)
  refine g_eq (X1 := [(q0, .inr (8, [.null, .ref a1, .ref a2, .null, .null, .int 0])), (a1, .inl (g.2.1 0, 4, .inl (upd (upd (upd (upd (fun _ => 0) 0 4) 1 5) 2 6) 3 7))), (a2, .inl (g.2.1 0, 60, .inl (fun _ => 0))), (a3, .inl (g.2.1 0, 60, .inl (fun _ => 0)))]) rfl rfl ?_
  refine g_putF (X1 := [(q0, .inr (8, [.null, .ref a1, .ref a2, .ref a3, .null, .int 0])), (a1, .inl (g.2.1 0, 4, .inl (upd (upd (upd (upd (fun _ => 0) 0 4) 1 5) 2 6) 3 7))), (a2, .inl (g.2.1 0, 60, .inl (fun _ => 0))), (a3, .inl (g.2.1 0, 60, .inl (fun _ => 0)))]) C 0 rfl rfl in_Ra 3 (by decide) ok_Ra nm_Ra kw_307 rfl rfl rfl rfl rfl (Nat.le_of_ble_eq_true rfl) rfl d_Ra_init_42 ?_
  refine g_aload_n C 0 rfl d_Ra_init_45 ?_
  refine g_bipush (v := 60) C rfl d_Ra_init_46 ?_
  refine g_newa_i C 60 kw_134 (by decide) (by decide) (by decide) (by decide) (by decide) d_Ra_init_48 (fun a4 ha4 => ?_)
  refine g_eq (X1 := [(q0, .inr (8, [.null, .ref a1, .ref a2, .ref a3, .null, .int 0])), (a1, .inl (g.2.1 0, 4, .inl (upd (upd (upd (upd (fun _ => 0) 0 4) 1 5) 2 6) 3 7))), (a2, .inl (g.2.1 0, 60, .inl (fun _ => 0))), (a3, .inl (g.2.1 0, 60, .inl (fun _ => 0))), (a4, .inl (g.2.1 0, 60, .inl (fun _ => 0)))]) rfl rfl ?_
  refine g_putF (X1 := [(q0, .inr (8, [.null, .ref a1, .ref a2, .ref a3, .ref a4, .int 0])), (a1, .inl (g.2.1 0, 4, .inl (upd (upd (upd (upd (fun _ => 0) 0 4) 1 5) 2 6) 3 7))), (a2, .inl (g.2.1 0, 60, .inl (fun _ => 0))), (a3, .inl (g.2.1 0, 60, .inl (fun _ => 0))), (a4, .inl (g.2.1 0, 60, .inl (fun _ => 0)))]) C 0 rfl rfl in_Ra 4 (by decide) ok_Ra nm_Ra kw_308 rfl rfl rfl rfl rfl (Nat.le_of_ble_eq_true rfl) rfl d_Ra_init_50 ?_
  refine g_aload_n C 0 rfl d_Ra_init_53 ?_
  refine g_iconst (v := 0) C rfl d_Ra_init_54 ?_
  refine g_put (X1 := [(q0, .inr (8, [.null, .ref a1, .ref a2, .ref a3, .ref a4, .int 0])), (a1, .inl (g.2.1 0, 4, .inl (upd (upd (upd (upd (fun _ => 0) 0 4) 1 5) 2 6) 3 7))), (a2, .inl (g.2.1 0, 60, .inl (fun _ => 0))), (a3, .inl (g.2.1 0, 60, .inl (fun _ => 0))), (a4, .inl (g.2.1 0, 60, .inl (fun _ => 0)))]) C 0 rfl rfl in_Ra 5 (by decide) ok_Ra nm_Ra kw_309 rfl rfl rfl (Nat.le_of_ble_eq_true rfl) rfl d_Ra_init_55 ?_
  refine g_aload_n C 0 rfl d_Ra_init_58 ?_
  refine g_aload_n C 1 rfl d_Ra_init_59 ?_
  refine g_putF (X1 := [(q0, .inr (8, [.ref q1, .ref a1, .ref a2, .ref a3, .ref a4, .int 0])), (a1, .inl (g.2.1 0, 4, .inl (upd (upd (upd (upd (fun _ => 0) 0 4) 1 5) 2 6) 3 7))), (a2, .inl (g.2.1 0, 60, .inl (fun _ => 0))), (a3, .inl (g.2.1 0, 60, .inl (fun _ => 0))), (a4, .inl (g.2.1 0, 60, .inl (fun _ => 0)))]) C 0 rfl rfl in_Ra 0 (by decide) ok_Ra nm_Ra kw_304 rfl rfl rfl rfl rfl (Nat.le_of_ble_eq_true rfl) rfl d_Ra_init_60 ?_
  exact g_vret C rfl ⟨a1, a2, a3, a4, rfl, rfl, rfl⟩ (by decide) (by decide) d_Ra_init_63

set_option maxHeartbeats 4000000 in
set_option maxRecDepth 100000 in
theorem c_Li_init (l : Launch) (g : Gx) (q0 : Nat) (p0 p1 : Int32) : MP l g y_Li_init b_Li_init 3 (none : Option FieldType) ({ frames := 1, cells := 1, slots := 12, locals := 20 }) [.ref q0, .int p0, .int p1] [(q0, .inr (6, [.int 0, .int 0, .null, .int 0, .int 0]))] [] (fun v2 X2 P2 => ∃ a1 : Nat, v2 = none ∧ X2 = [(q0, .inr (6, [.int p0, .int p1, .ref a1, .int 0, .int (-1)])), (a1, .inl (g.2.1 0, 12, .inl (fun _ => 0)))] ∧ P2 = []) := by
  refine MP.of (by decide) (Nat.le_of_ble_eq_true rfl) (fun κ C => ?_)
  have C : zC κ l g ({ frames := 1, cells := 1, slots := 12, locals := 20 }) b_Li_init 3 "TombLane$Line" "<init>" (none : Option FieldType) _ := C
  refine g_lv (lv1 := [(0, .ref q0), (1, .int p0), (2, .int p1)]) [0, 1, 2] rfl ?_
  refine g_aload_n C 0 rfl d_Li_init_0 ?_
  refine g_objInit C kw_161 kw_105 kw_106 (by decide) (Nat.le_of_ble_eq_true rfl) d_Li_init_1 ?_
  refine g_aload_n C 0 rfl d_Li_init_4 ?_
  refine g_bipush (v := 12) C rfl d_Li_init_5 ?_
  refine g_newa_i C 12 kw_134 (by decide) (by decide) (by decide) (by decide) (by decide) d_Li_init_7 (fun a1 ha1 => ?_)
  refine g_eq (X1 := [(q0, .inr (6, [.int 0, .int 0, .null, .int 0, .int 0])), (a1, .inl (g.2.1 0, 12, .inl (fun _ => 0)))]) rfl rfl ?_
  refine g_putF (X1 := [(q0, .inr (6, [.int 0, .int 0, .ref a1, .int 0, .int 0])), (a1, .inl (g.2.1 0, 12, .inl (fun _ => 0)))]) C 0 rfl rfl in_Li 2 (by decide) ok_Li nm_Li kw_166 rfl rfl rfl rfl rfl (Nat.le_of_ble_eq_true rfl) rfl d_Li_init_9 ?_
  refine g_aload_n C 0 rfl d_Li_init_12 ?_
  refine g_iconst (v := 0) C rfl d_Li_init_13 ?_
  refine g_put (X1 := [(q0, .inr (6, [.int 0, .int 0, .ref a1, .int 0, .int 0])), (a1, .inl (g.2.1 0, 12, .inl (fun _ => 0)))]) C 0 rfl rfl in_Li 3 (by decide) ok_Li nm_Li kw_168 rfl rfl rfl (Nat.le_of_ble_eq_true rfl) rfl d_Li_init_14 ?_
  refine g_aload_n C 0 rfl d_Li_init_17 ?_
  refine g_iconst (v := (-1)) C rfl d_Li_init_18 ?_
  refine g_put (X1 := [(q0, .inr (6, [.int 0, .int 0, .ref a1, .int 0, .int (-1)])), (a1, .inl (g.2.1 0, 12, .inl (fun _ => 0)))]) C 0 rfl rfl in_Li 4 (by decide) ok_Li nm_Li kw_170 rfl rfl rfl (Nat.le_of_ble_eq_true rfl) rfl d_Li_init_19 ?_
  refine g_aload_n C 0 rfl d_Li_init_22 ?_
  refine g_iload_n C 1 rfl d_Li_init_23 ?_
  refine g_putF (X1 := [(q0, .inr (6, [.int p0, .int 0, .ref a1, .int 0, .int (-1)])), (a1, .inl (g.2.1 0, 12, .inl (fun _ => 0)))]) C 0 rfl rfl in_Li 0 (by decide) ok_Li nm_Li kw_162 rfl rfl rfl rfl rfl (Nat.le_of_ble_eq_true rfl) rfl d_Li_init_24 ?_
  refine g_aload_n C 0 rfl d_Li_init_27 ?_
  refine g_iload_n C 2 rfl d_Li_init_28 ?_
  refine g_putF (X1 := [(q0, .inr (6, [.int p0, .int p1, .ref a1, .int 0, .int (-1)])), (a1, .inl (g.2.1 0, 12, .inl (fun _ => 0)))]) C 0 rfl rfl in_Li 1 (by decide) ok_Li nm_Li kw_163 rfl rfl rfl rfl rfl (Nat.le_of_ble_eq_true rfl) rfl d_Li_init_29 ?_
  exact g_vret C rfl ⟨a1, rfl, rfl, rfl⟩ (by decide) (by decide) d_Li_init_32

set_option maxHeartbeats 4000000 in
set_option maxRecDepth 100000 in
theorem c_To_init (l : Launch) (g : Gx) (q0 q1 : Nat) : M0 l g y_To_init b_To_init 2 (none : Option FieldType) ({ frames := 1, cells := 0, slots := 0, locals := 20 }) [.ref q0, .ref q1] [(q0, .inr (11, [.null, .int 0, .int 0, .int 0, .long 0]))] none [(q0, .inr (11, [.ref q1, .int 0, .int 0, .int 0, .long 0]))] := by
  refine MP.of (by decide) (Nat.le_of_ble_eq_true rfl) (fun κ C => ?_)
  have C : zC κ l g ({ frames := 1, cells := 0, slots := 0, locals := 20 }) b_To_init 2 "TombLane$Tokens" "<init>" (none : Option FieldType) _ := C
  refine g_lv (lv1 := [(0, .ref q0), (1, .ref q1)]) [0, 1] rfl ?_
  refine g_aload_n C 0 rfl d_To_init_0 ?_
  refine g_objInit C kw_189 kw_105 kw_106 (by decide) (Nat.le_of_ble_eq_true rfl) d_To_init_1 ?_
  refine g_aload_n C 0 rfl d_To_init_4 ?_
  refine g_iconst (v := 0) C rfl d_To_init_5 ?_
  refine g_put (X1 := [(q0, .inr (11, [.null, .int 0, .int 0, .int 0, .long 0]))]) C 0 rfl rfl in_To 1 (by decide) ok_To nm_To kw_191 rfl rfl rfl (Nat.le_of_ble_eq_true rfl) rfl d_To_init_6 ?_
  refine g_aload_n C 0 rfl d_To_init_9 ?_
  refine g_iconst (v := 0) C rfl d_To_init_10 ?_
  refine g_put (X1 := [(q0, .inr (11, [.null, .int 0, .int 0, .int 0, .long 0]))]) C 0 rfl rfl in_To 2 (by decide) ok_To nm_To kw_192 rfl rfl rfl (Nat.le_of_ble_eq_true rfl) rfl d_To_init_11 ?_
  refine g_aload_n C 0 rfl d_To_init_14 ?_
  refine g_iconst (v := 0) C rfl d_To_init_15 ?_
  refine g_put (X1 := [(q0, .inr (11, [.null, .int 0, .int 0, .int 0, .long 0]))]) C 0 rfl rfl in_To 3 (by decide) ok_To nm_To kw_194 rfl rfl rfl (Nat.le_of_ble_eq_true rfl) rfl d_To_init_16 ?_
  refine g_aload_n C 0 rfl d_To_init_19 ?_
  refine g_lconst (v := 0) C rfl d_To_init_20 ?_
  refine g_put (X1 := [(q0, .inr (11, [.null, .int 0, .int 0, .int 0, .long 0]))]) C 0 rfl rfl in_To 4 (by decide) ok_To nm_To kw_196 rfl rfl rfl (Nat.le_of_ble_eq_true rfl) rfl d_To_init_21 ?_
  refine g_aload_n C 0 rfl d_To_init_24 ?_
  refine g_aload_n C 1 rfl d_To_init_25 ?_
  refine g_putF (X1 := [(q0, .inr (11, [.ref q1, .int 0, .int 0, .int 0, .long 0]))]) C 0 rfl rfl in_To 0 (by decide) ok_To nm_To kw_190 rfl rfl rfl rfl rfl (Nat.le_of_ble_eq_true rfl) rfl d_To_init_26 ?_
  exact g_vret C rfl ⟨rfl, rfl, rfl⟩ (by decide) (by decide) d_To_init_29

set_option maxHeartbeats 4000000 in
set_option maxRecDepth 100000 in
theorem c_Dy_init (l : Launch) (g : Gx) (q0 q1 q2 : Nat) : MP l g y_Dy_init b_Dy_init 3 (none : Option FieldType) ({ frames := 1, cells := 2, slots := 20, locals := 20 }) [.ref q0, .ref q1, .ref q2] [(q0, .inr (1, [.null, .null, .null, .null, .int 0, .int 0]))] [] (fun v2 X2 P2 => ∃ a1 a2 : Nat, v2 = none ∧ X2 = [(q0, .inr (1, [.ref q1, .ref q2, .ref a1, .ref a2, .int (-1), .int 0])), (a1, .inl (g.2.1 0, 12, .inl (fun _ => 0))), (a2, .inl (g.2.1 0, 8, .inl (fun _ => 0)))] ∧ P2 = []) := by
  refine MP.of (by decide) (Nat.le_of_ble_eq_true rfl) (fun κ C => ?_)
  have C : zC κ l g ({ frames := 1, cells := 2, slots := 20, locals := 20 }) b_Dy_init 3 "TombLane$DayBook" "<init>" (none : Option FieldType) _ := C
  refine g_lv (lv1 := [(0, .ref q0), (1, .ref q1), (2, .ref q2)]) [0, 1, 2] rfl ?_
  refine g_aload_n C 0 rfl d_Dy_init_0 ?_
  refine g_objInit C kw_278 kw_105 kw_106 (by decide) (Nat.le_of_ble_eq_true rfl) d_Dy_init_1 ?_
  refine g_aload_n C 0 rfl d_Dy_init_4 ?_
  refine g_bipush (v := 12) C rfl d_Dy_init_5 ?_
  refine g_newa_i C 12 kw_134 (by decide) (by decide) (by decide) (by decide) (by decide) d_Dy_init_7 (fun a1 ha1 => ?_)
  refine g_eq (X1 := [(q0, .inr (1, [.null, .null, .null, .null, .int 0, .int 0])), (a1, .inl (g.2.1 0, 12, .inl (fun _ => 0)))]) rfl rfl ?_
  refine g_putF (X1 := [(q0, .inr (1, [.null, .null, .ref a1, .null, .int 0, .int 0])), (a1, .inl (g.2.1 0, 12, .inl (fun _ => 0)))]) C 0 rfl rfl in_Dy 2 (by decide) ok_Dy nm_Dy kw_281 rfl rfl rfl rfl rfl (Nat.le_of_ble_eq_true rfl) rfl d_Dy_init_9 ?_
  refine g_aload_n C 0 rfl d_Dy_init_12 ?_
  refine g_bipush (v := 8) C rfl d_Dy_init_13 ?_
  refine g_newa_i C 8 kw_134 (by decide) (by decide) (by decide) (by decide) (by decide) d_Dy_init_15 (fun a2 ha2 => ?_)
  refine g_eq (X1 := [(q0, .inr (1, [.null, .null, .ref a1, .null, .int 0, .int 0])), (a1, .inl (g.2.1 0, 12, .inl (fun _ => 0))), (a2, .inl (g.2.1 0, 8, .inl (fun _ => 0)))]) rfl rfl ?_
  refine g_putF (X1 := [(q0, .inr (1, [.null, .null, .ref a1, .ref a2, .int 0, .int 0])), (a1, .inl (g.2.1 0, 12, .inl (fun _ => 0))), (a2, .inl (g.2.1 0, 8, .inl (fun _ => 0)))]) C 0 rfl rfl in_Dy 3 (by decide) ok_Dy nm_Dy kw_282 rfl rfl rfl rfl rfl (Nat.le_of_ble_eq_true rfl) rfl d_Dy_init_17 ?_
  refine g_aload_n C 0 rfl d_Dy_init_20 ?_
  refine g_iconst (v := (-1)) C rfl d_Dy_init_21 ?_
  refine g_put (X1 := [(q0, .inr (1, [.null, .null, .ref a1, .ref a2, .int (-1), .int 0])), (a1, .inl (g.2.1 0, 12, .inl (fun _ => 0))), (a2, .inl (g.2.1 0, 8, .inl (fun _ => 0)))]) C 0 rfl rfl in_Dy 4 (by decide) ok_Dy nm_Dy kw_283 rfl rfl rfl (Nat.le_of_ble_eq_true rfl) rfl d_Dy_init_22 ?_
  refine g_aload_n C 0 rfl d_Dy_init_25 ?_
  refine g_iconst (v := 0) C rfl d_Dy_init_26 ?_
  refine g_put (X1 := [(q0, .inr (1, [.null, .null, .ref a1, .ref a2, .int (-1), .int 0])), (a1, .inl (g.2.1 0, 12, .inl (fun _ => 0))), (a2, .inl (g.2.1 0, 8, .inl (fun _ => 0)))]) C 0 rfl rfl in_Dy 5 (by decide) ok_Dy nm_Dy kw_284 rfl rfl rfl (Nat.le_of_ble_eq_true rfl) rfl d_Dy_init_27 ?_
  refine g_aload_n C 0 rfl d_Dy_init_30 ?_
  refine g_aload_n C 1 rfl d_Dy_init_31 ?_
  refine g_putF (X1 := [(q0, .inr (1, [.ref q1, .null, .ref a1, .ref a2, .int (-1), .int 0])), (a1, .inl (g.2.1 0, 12, .inl (fun _ => 0))), (a2, .inl (g.2.1 0, 8, .inl (fun _ => 0)))]) C 0 rfl rfl in_Dy 0 (by decide) ok_Dy nm_Dy kw_279 rfl rfl rfl rfl rfl (Nat.le_of_ble_eq_true rfl) rfl d_Dy_init_32 ?_
  refine g_aload_n C 0 rfl d_Dy_init_35 ?_
  refine g_aload_n C 2 rfl d_Dy_init_36 ?_
  refine g_putF (X1 := [(q0, .inr (1, [.ref q1, .ref q2, .ref a1, .ref a2, .int (-1), .int 0])), (a1, .inl (g.2.1 0, 12, .inl (fun _ => 0))), (a2, .inl (g.2.1 0, 8, .inl (fun _ => 0)))]) C 0 rfl rfl in_Dy 1 (by decide) ok_Dy nm_Dy kw_280 rfl rfl rfl rfl rfl (Nat.le_of_ble_eq_true rfl) rfl d_Dy_init_37 ?_
  exact g_vret C rfl ⟨a1, a2, rfl, rfl, rfl⟩ (by decide) (by decide) d_Dy_init_40

