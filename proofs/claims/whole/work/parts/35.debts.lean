set_option maxHeartbeats 4000000 in
set_option maxRecDepth 100000 in
theorem c_De_setWorth (l : Launch) (g : Gx) (q0 q1 q2 q3 q4 q5 q6 q7 q8 : Nat) (n : Int32) (wf : Nat → Int32) (p0 p1 p2 : Int32) (hi : vp_in (p0 * 10 + p1) 50) : M0 l g y_De_setWorth b_De_setWorth 4 (some FieldType.boolean) ({ frames := 0, cells := 0, slots := 0, locals := 0 }) [.ref q0, .int p0, .int p1, .int p2] [(q0, .inr (2, [.ref q1, .ref q2, .ref q3, .ref q4, .ref q5, .ref q6, .int n, .ref q7, .ref q8])), (q7, .inl (g.2.1 0, 50, .inl wf))] (some (.int (zb (rg p2 0 1000)))) [(q0, .inr (2, [.ref q1, .ref q2, .ref q3, .ref q4, .ref q5, .ref q6, .int n, .ref q7, .ref q8])), (q7, .inl (g.2.1 0, 50, .inl (if rg p2 0 1000 then upd wf (p0 * 10 + p1).toNatClampNeg p2 else wf)))] := by
  refine MP.of (by decide) (Nat.le_of_ble_eq_true rfl) (fun κ C => ?_)
  have C : zC κ l g ({ frames := 0, cells := 0, slots := 0, locals := 0 }) b_De_setWorth 4 "TombLane$Debts" "setWorth" (some FieldType.boolean) _ := C
  refine g_lv (lv1 := [(0, .ref q0), (1, .int p0), (2, .int p1), (3, .int p2)]) [0, 1, 2, 3] rfl ?_
  refine g_iload_n C 3 rfl d_De_setWorth_0 ?_
  refine g_if_lt C d_De_setWorth_1 (fun c_1 => ?_) (fun c_1 => ?_)
  · skip
    refine g_iconst (v := 0) C rfl d_De_setWorth_11 ?_
    exact g_zret C (Or.inl rfl) rfl ⟨congrArg (fun z => some (Value.int z)) (by simp [zb, rg, c_1, Int32.not_le.mpr c_1]), (by simp [zb, rg, c_1, Int32.not_le.mpr c_1]), rfl⟩ (by decide) (by decide) d_De_setWorth_12
  · skip
    refine g_iload_n C 3 rfl d_De_setWorth_4 ?_
    refine g_sipush (v := 1000) C rfl d_De_setWorth_5 ?_
    refine g_icmp_le C d_De_setWorth_8 (fun c_2 => ?_) (fun c_2 => ?_)
    · skip
      refine g_aload_n C 0 rfl d_De_setWorth_13 ?_
      refine g_get C 0 rfl rfl in_De 7 (by decide) kw_338 rfl d_De_setWorth_14 ?_
      refine g_iload_n C 1 rfl d_De_setWorth_17 ?_
      refine g_bipush (v := 10) C rfl d_De_setWorth_18 ?_
      refine g_imul C d_De_setWorth_20 ?_
      refine g_iload_n C 2 rfl d_De_setWorth_21 ?_
      refine g_iadd C d_De_setWorth_22 ?_
      refine g_iload_n C 3 rfl d_De_setWorth_23 ?_
      refine g_iast (X1 := [(q0, .inr (2, [.ref q1, .ref q2, .ref q3, .ref q4, .ref q5, .ref q6, .int n, .ref q7, .ref q8])), (q7, .inl (g.2.1 0, 50, .inl (upd wf (Int32.toNatClampNeg ((p0 * 10) + p1)) p2)))]) C 1 rfl (by assumption) rfl d_De_setWorth_24 ?_
      refine g_iconst (v := 1) C rfl d_De_setWorth_25 ?_
      exact g_zret C (Or.inr rfl) rfl ⟨congrArg (fun z => some (Value.int z)) (by simp [zb, rg, c_1, Int32.not_lt.mp c_1, c_2, Int32.not_lt.mpr c_2]), (by simp [zb, rg, c_1, Int32.not_lt.mp c_1, c_2, Int32.not_lt.mpr c_2]), rfl⟩ (by decide) (by decide) d_De_setWorth_26
    · skip
      refine g_iconst (v := 0) C rfl d_De_setWorth_11 ?_
      exact g_zret C (Or.inl rfl) rfl ⟨congrArg (fun z => some (Value.int z)) (by simp [zb, rg, c_1, Int32.not_lt.mp c_1, c_2, Int32.not_le.mp c_2]), (by simp [zb, rg, c_1, Int32.not_lt.mp c_1, c_2, Int32.not_le.mp c_2]), rfl⟩ (by decide) (by decide) d_De_setWorth_12

def debtOk (n : Nat) (x : Int32) : Bool := decide (rg x 1 1000 = true ∧ n < 60)
set_option maxHeartbeats 4000000 in
set_option maxRecDepth 100000 in
theorem c_De_add (l : Launch) (g : Gx) (q0 q1 q2 q3 q4 q5 q6 q7 q8 n : Nat) (bf tf gf mf ff pf : Nat → Int32) (p0 p1 p2 p3 p4 : Int32) (hn : n ≤ 60) : M0 l g y_De_add b_De_add 6 (some FieldType.int) ({ frames := 0, cells := 0, slots := 0, locals := 0 }) [.ref q0, .int p0, .int p1, .int p2, .int p3, .int p4] [(q0, .inr (2, [.ref q1, .ref q2, .ref q3, .ref q4, .ref q5, .ref q6, .int (nI n), .ref q7, .ref q8])), (q1, .inl (g.2.1 0, 60, .inl bf)), (q2, .inl (g.2.1 0, 60, .inl tf)), (q3, .inl (g.2.1 0, 60, .inl gf)), (q4, .inl (g.2.1 0, 60, .inl mf)), (q5, .inl (g.2.1 0, 60, .inl ff)), (q6, .inl (g.2.1 0, 60, .inl pf))] (some (.int (if debtOk n p3 then nI n else (-1)))) [(q0, .inr (2, [.ref q1, .ref q2, .ref q3, .ref q4, .ref q5, .ref q6, .int (nI (if debtOk n p3 then n + 1 else n)), .ref q7, .ref q8])), (q1, .inl (g.2.1 0, 60, .inl (if debtOk n p3 then upd bf n p0 else bf))), (q2, .inl (g.2.1 0, 60, .inl (if debtOk n p3 then upd tf n p1 else tf))), (q3, .inl (g.2.1 0, 60, .inl (if debtOk n p3 then upd gf n p2 else gf))), (q4, .inl (g.2.1 0, 60, .inl (if debtOk n p3 then upd mf n p3 else mf))), (q5, .inl (g.2.1 0, 60, .inl (if debtOk n p3 then upd ff n p4 else ff))), (q6, .inl (g.2.1 0, 60, .inl (if debtOk n p3 then upd pf n 3600 else pf)))] := by
  refine MP.of (by decide) (Nat.le_of_ble_eq_true rfl) (fun κ C => ?_)
  have C : zC κ l g ({ frames := 0, cells := 0, slots := 0, locals := 0 }) b_De_add 6 "TombLane$Debts" "add" (some FieldType.int) _ := C
  refine g_lv (lv1 := [(0, .ref q0), (1, .int p0), (2, .int p1), (3, .int p2), (4, .int p3), (5, .int p4)]) [0, 1, 2, 3, 4, 5] rfl ?_
  refine g_iload C 4 rfl d_De_add_0 ?_
  refine g_iconst (v := 1) C rfl d_De_add_2 ?_
  refine g_icmp_lt C d_De_add_3 (fun c_1 => ?_) (fun c_1 => ?_)
  · skip
    refine g_iconst (v := (-1)) C rfl d_De_add_23 ?_
    exact g_iret C rfl ⟨congrArg (fun z => some (Value.int z)) (by simp [debtOk, rg, c_1, Int32.not_le.mpr c_1]), (by simp [debtOk, rg, c_1, Int32.not_le.mpr c_1]), rfl⟩ (by decide) (by decide) d_De_add_24
  · skip
    refine g_iload C 4 rfl d_De_add_6 ?_
    refine g_sipush (v := 1000) C rfl d_De_add_8 ?_
    refine g_icmp_gt C d_De_add_11 (fun c_2 => ?_) (fun c_2 => ?_)
    · skip
      refine g_iconst (v := (-1)) C rfl d_De_add_23 ?_
      exact g_iret C rfl ⟨congrArg (fun z => some (Value.int z)) (by simp [debtOk, rg, c_1, Int32.not_lt.mp c_1, c_2, Int32.not_le.mpr c_2]), (by simp [debtOk, rg, c_1, Int32.not_lt.mp c_1, c_2, Int32.not_le.mpr c_2]), rfl⟩ (by decide) (by decide) d_De_add_24
    · skip
      refine g_aload_n C 0 rfl d_De_add_14 ?_
      refine g_get C 0 rfl rfl in_De 6 (by decide) kw_336 rfl d_De_add_15 ?_
      refine g_bipush (v := 60) C rfl d_De_add_18 ?_
      refine g_icmp_lt C d_De_add_20 (fun c_3 => ?_) (fun c_3 => ?_)
      · skip
        have n_3 : n < 60 := (nI_ltI (a := n) (b := 60) (by omega) (by omega)).mp c_3
        refine g_aload_n C 0 rfl d_De_add_25 ?_
        refine g_get C 0 rfl rfl in_De 0 (by decide) kw_330 rfl d_De_add_26 ?_
        refine g_aload_n C 0 rfl d_De_add_29 ?_
        refine g_get C 0 rfl rfl in_De 6 (by decide) kw_336 rfl d_De_add_30 ?_
        refine g_iload_n C 1 rfl d_De_add_33 ?_
        refine g_iast (X1 := [(q0, .inr (2, [.ref q1, .ref q2, .ref q3, .ref q4, .ref q5, .ref q6, .int (nI n), .ref q7, .ref q8])), (q1, .inl (g.2.1 0, 60, .inl (upd bf (Int32.toNatClampNeg (nI n)) p0))), (q2, .inl (g.2.1 0, 60, .inl tf)), (q3, .inl (g.2.1 0, 60, .inl gf)), (q4, .inl (g.2.1 0, 60, .inl mf)), (q5, .inl (g.2.1 0, 60, .inl ff)), (q6, .inl (g.2.1 0, 60, .inl pf))]) C 1 rfl (vp_in_nI (by omega) (by decide)) rfl d_De_add_34 ?_
        refine g_eq (X1 := [(q0, .inr (2, [.ref q1, .ref q2, .ref q3, .ref q4, .ref q5, .ref q6, .int (nI n), .ref q7, .ref q8])), (q1, .inl (g.2.1 0, 60, .inl (upd bf n p0))), (q2, .inl (g.2.1 0, 60, .inl tf)), (q3, .inl (g.2.1 0, 60, .inl gf)), (q4, .inl (g.2.1 0, 60, .inl mf)), (q5, .inl (g.2.1 0, 60, .inl ff)), (q6, .inl (g.2.1 0, 60, .inl pf))]) rfl (by rw [nI_clamp (by omega)]) ?_
        refine g_aload_n C 0 rfl d_De_add_35 ?_
        refine g_get C 0 rfl rfl in_De 1 (by decide) kw_331 rfl d_De_add_36 ?_
        refine g_aload_n C 0 rfl d_De_add_39 ?_
        refine g_get C 0 rfl rfl in_De 6 (by decide) kw_336 rfl d_De_add_40 ?_
        refine g_iload_n C 2 rfl d_De_add_43 ?_
        refine g_iast (X1 := [(q0, .inr (2, [.ref q1, .ref q2, .ref q3, .ref q4, .ref q5, .ref q6, .int (nI n), .ref q7, .ref q8])), (q1, .inl (g.2.1 0, 60, .inl (upd bf n p0))), (q2, .inl (g.2.1 0, 60, .inl (upd tf (Int32.toNatClampNeg (nI n)) p1))), (q3, .inl (g.2.1 0, 60, .inl gf)), (q4, .inl (g.2.1 0, 60, .inl mf)), (q5, .inl (g.2.1 0, 60, .inl ff)), (q6, .inl (g.2.1 0, 60, .inl pf))]) C 2 rfl (vp_in_nI (by omega) (by decide)) rfl d_De_add_44 ?_
        refine g_eq (X1 := [(q0, .inr (2, [.ref q1, .ref q2, .ref q3, .ref q4, .ref q5, .ref q6, .int (nI n), .ref q7, .ref q8])), (q1, .inl (g.2.1 0, 60, .inl (upd bf n p0))), (q2, .inl (g.2.1 0, 60, .inl (upd tf n p1))), (q3, .inl (g.2.1 0, 60, .inl gf)), (q4, .inl (g.2.1 0, 60, .inl mf)), (q5, .inl (g.2.1 0, 60, .inl ff)), (q6, .inl (g.2.1 0, 60, .inl pf))]) rfl (by rw [nI_clamp (by omega)]) ?_
        refine g_aload_n C 0 rfl d_De_add_45 ?_
        refine g_get C 0 rfl rfl in_De 2 (by decide) kw_332 rfl d_De_add_46 ?_
        refine g_aload_n C 0 rfl d_De_add_49 ?_
        refine g_get C 0 rfl rfl in_De 6 (by decide) kw_336 rfl d_De_add_50 ?_
        refine g_iload_n C 3 rfl d_De_add_53 ?_
        refine g_iast (X1 := [(q0, .inr (2, [.ref q1, .ref q2, .ref q3, .ref q4, .ref q5, .ref q6, .int (nI n), .ref q7, .ref q8])), (q1, .inl (g.2.1 0, 60, .inl (upd bf n p0))), (q2, .inl (g.2.1 0, 60, .inl (upd tf n p1))), (q3, .inl (g.2.1 0, 60, .inl (upd gf (Int32.toNatClampNeg (nI n)) p2))), (q4, .inl (g.2.1 0, 60, .inl mf)), (q5, .inl (g.2.1 0, 60, .inl ff)), (q6, .inl (g.2.1 0, 60, .inl pf))]) C 3 rfl (vp_in_nI (by omega) (by decide)) rfl d_De_add_54 ?_
        refine g_eq (X1 := [(q0, .inr (2, [.ref q1, .ref q2, .ref q3, .ref q4, .ref q5, .ref q6, .int (nI n), .ref q7, .ref q8])), (q1, .inl (g.2.1 0, 60, .inl (upd bf n p0))), (q2, .inl (g.2.1 0, 60, .inl (upd tf n p1))), (q3, .inl (g.2.1 0, 60, .inl (upd gf n p2))), (q4, .inl (g.2.1 0, 60, .inl mf)), (q5, .inl (g.2.1 0, 60, .inl ff)), (q6, .inl (g.2.1 0, 60, .inl pf))]) rfl (by rw [nI_clamp (by omega)]) ?_
        refine g_aload_n C 0 rfl d_De_add_55 ?_
        refine g_get C 0 rfl rfl in_De 3 (by decide) kw_333 rfl d_De_add_56 ?_
        refine g_aload_n C 0 rfl d_De_add_59 ?_
        refine g_get C 0 rfl rfl in_De 6 (by decide) kw_336 rfl d_De_add_60 ?_
        refine g_iload C 4 rfl d_De_add_63 ?_
        refine g_iast (X1 := [(q0, .inr (2, [.ref q1, .ref q2, .ref q3, .ref q4, .ref q5, .ref q6, .int (nI n), .ref q7, .ref q8])), (q1, .inl (g.2.1 0, 60, .inl (upd bf n p0))), (q2, .inl (g.2.1 0, 60, .inl (upd tf n p1))), (q3, .inl (g.2.1 0, 60, .inl (upd gf n p2))), (q4, .inl (g.2.1 0, 60, .inl (upd mf (Int32.toNatClampNeg (nI n)) p3))), (q5, .inl (g.2.1 0, 60, .inl ff)), (q6, .inl (g.2.1 0, 60, .inl pf))]) C 4 rfl (vp_in_nI (by omega) (by decide)) rfl d_De_add_65 ?_
        refine g_eq (X1 := [(q0, .inr (2, [.ref q1, .ref q2, .ref q3, .ref q4, .ref q5, .ref q6, .int (nI n), .ref q7, .ref q8])), (q1, .inl (g.2.1 0, 60, .inl (upd bf n p0))), (q2, .inl (g.2.1 0, 60, .inl (upd tf n p1))), (q3, .inl (g.2.1 0, 60, .inl (upd gf n p2))), (q4, .inl (g.2.1 0, 60, .inl (upd mf n p3))), (q5, .inl (g.2.1 0, 60, .inl ff)), (q6, .inl (g.2.1 0, 60, .inl pf))]) rfl (by rw [nI_clamp (by omega)]) ?_
        refine g_aload_n C 0 rfl d_De_add_66 ?_
        refine g_get C 0 rfl rfl in_De 4 (by decide) kw_334 rfl d_De_add_67 ?_
        refine g_aload_n C 0 rfl d_De_add_70 ?_
        refine g_get C 0 rfl rfl in_De 6 (by decide) kw_336 rfl d_De_add_71 ?_
        refine g_iload C 5 rfl d_De_add_74 ?_
        refine g_iast (X1 := [(q0, .inr (2, [.ref q1, .ref q2, .ref q3, .ref q4, .ref q5, .ref q6, .int (nI n), .ref q7, .ref q8])), (q1, .inl (g.2.1 0, 60, .inl (upd bf n p0))), (q2, .inl (g.2.1 0, 60, .inl (upd tf n p1))), (q3, .inl (g.2.1 0, 60, .inl (upd gf n p2))), (q4, .inl (g.2.1 0, 60, .inl (upd mf n p3))), (q5, .inl (g.2.1 0, 60, .inl (upd ff (Int32.toNatClampNeg (nI n)) p4))), (q6, .inl (g.2.1 0, 60, .inl pf))]) C 5 rfl (vp_in_nI (by omega) (by decide)) rfl d_De_add_76 ?_
        refine g_eq (X1 := [(q0, .inr (2, [.ref q1, .ref q2, .ref q3, .ref q4, .ref q5, .ref q6, .int (nI n), .ref q7, .ref q8])), (q1, .inl (g.2.1 0, 60, .inl (upd bf n p0))), (q2, .inl (g.2.1 0, 60, .inl (upd tf n p1))), (q3, .inl (g.2.1 0, 60, .inl (upd gf n p2))), (q4, .inl (g.2.1 0, 60, .inl (upd mf n p3))), (q5, .inl (g.2.1 0, 60, .inl (upd ff n p4))), (q6, .inl (g.2.1 0, 60, .inl pf))]) rfl (by rw [nI_clamp (by omega)]) ?_
        refine g_aload_n C 0 rfl d_De_add_77 ?_
        refine g_get C 0 rfl rfl in_De 5 (by decide) kw_335 rfl d_De_add_78 ?_
        refine g_aload_n C 0 rfl d_De_add_81 ?_
        refine g_get C 0 rfl rfl in_De 6 (by decide) kw_336 rfl d_De_add_82 ?_
        refine g_sipush (v := 3600) C rfl d_De_add_85 ?_
        refine g_iast (X1 := [(q0, .inr (2, [.ref q1, .ref q2, .ref q3, .ref q4, .ref q5, .ref q6, .int (nI n), .ref q7, .ref q8])), (q1, .inl (g.2.1 0, 60, .inl (upd bf n p0))), (q2, .inl (g.2.1 0, 60, .inl (upd tf n p1))), (q3, .inl (g.2.1 0, 60, .inl (upd gf n p2))), (q4, .inl (g.2.1 0, 60, .inl (upd mf n p3))), (q5, .inl (g.2.1 0, 60, .inl (upd ff n p4))), (q6, .inl (g.2.1 0, 60, .inl (upd pf (Int32.toNatClampNeg (nI n)) 3600)))]) C 6 rfl (vp_in_nI (by omega) (by decide)) rfl d_De_add_88 ?_
        refine g_eq (X1 := [(q0, .inr (2, [.ref q1, .ref q2, .ref q3, .ref q4, .ref q5, .ref q6, .int (nI n), .ref q7, .ref q8])), (q1, .inl (g.2.1 0, 60, .inl (upd bf n p0))), (q2, .inl (g.2.1 0, 60, .inl (upd tf n p1))), (q3, .inl (g.2.1 0, 60, .inl (upd gf n p2))), (q4, .inl (g.2.1 0, 60, .inl (upd mf n p3))), (q5, .inl (g.2.1 0, 60, .inl (upd ff n p4))), (q6, .inl (g.2.1 0, 60, .inl (upd pf n 3600)))]) rfl (by rw [nI_clamp (by omega)]) ?_
        refine g_aload_n C 0 rfl d_De_add_89 ?_
        refine g_dup C rfl d_De_add_90 ?_
        refine g_get C 0 rfl rfl in_De 6 (by decide) kw_336 rfl d_De_add_91 ?_
        refine g_iconst (v := 1) C rfl d_De_add_94 ?_
        refine g_iadd C d_De_add_95 ?_
        refine g_eq (st1 := [.int (nI (n + 1)), .ref q0]) (congrArg (fun z => Value.int z :: [.ref q0]) (nI_add n 1)) rfl ?_
        refine g_put (X1 := [(q0, .inr (2, [.ref q1, .ref q2, .ref q3, .ref q4, .ref q5, .ref q6, .int (nI (n + 1)), .ref q7, .ref q8])), (q1, .inl (g.2.1 0, 60, .inl (upd bf n p0))), (q2, .inl (g.2.1 0, 60, .inl (upd tf n p1))), (q3, .inl (g.2.1 0, 60, .inl (upd gf n p2))), (q4, .inl (g.2.1 0, 60, .inl (upd mf n p3))), (q5, .inl (g.2.1 0, 60, .inl (upd ff n p4))), (q6, .inl (g.2.1 0, 60, .inl (upd pf n 3600)))]) C 0 rfl rfl in_De 6 (by decide) ok_De nm_De kw_336 rfl rfl rfl (Nat.le_of_ble_eq_true rfl) rfl d_De_add_96 ?_
        refine g_aload_n C 0 rfl d_De_add_99 ?_
        refine g_get C 0 rfl rfl in_De 6 (by decide) kw_336 rfl d_De_add_100 ?_
        refine g_iconst (v := 1) C rfl d_De_add_103 ?_
        refine g_isub C d_De_add_104 ?_
        refine g_eq (st1 := [.int (nI n)]) (congrArg (fun z => Value.int z :: []) (nI_pred n)) rfl ?_
        exact g_iret C rfl ⟨congrArg (fun z => some (Value.int z)) (by simp [debtOk, rg, c_1, Int32.not_lt.mp c_1, c_2, Int32.not_lt.mp c_2, c_3, Int32.not_le.mpr c_3, n_3, Nat.not_le.mpr n_3]), (by simp [debtOk, rg, c_1, Int32.not_lt.mp c_1, c_2, Int32.not_lt.mp c_2, c_3, Int32.not_le.mpr c_3, n_3, Nat.not_le.mpr n_3]), rfl⟩ (by decide) (by decide) d_De_add_105
      · skip
        have n_3 : 60 ≤ n := Nat.not_lt.mp (fun z => c_3 ((nI_ltI (a := n) (b := 60) (by omega) (by omega)).mpr z))
        refine g_iconst (v := (-1)) C rfl d_De_add_23 ?_
        exact g_iret C rfl ⟨congrArg (fun z => some (Value.int z)) (by simp [debtOk, rg, c_1, Int32.not_lt.mp c_1, c_2, Int32.not_lt.mp c_2, c_3, Int32.not_lt.mp c_3, n_3, Nat.not_lt.mpr n_3]), (by simp [debtOk, rg, c_1, Int32.not_lt.mp c_1, c_2, Int32.not_lt.mp c_2, c_3, Int32.not_lt.mp c_3, n_3, Nat.not_lt.mpr n_3]), rfl⟩ (by decide) (by decide) d_De_add_24

def payOk (n : Nat) (ff pf : Nat → Int32) (x d : Int32) : Bool := decide (inB x (nI n) = true ∧ pf x.toNatClampNeg = 3600 ∧ ¬ d < ff x.toNatClampNeg)
set_option maxHeartbeats 4000000 in
set_option maxRecDepth 100000 in
theorem c_De_setPaid (l : Launch) (g : Gx) (q0 q1 q2 q3 q4 q5 q6 q7 q8 n : Nat) (ff pf : Nat → Int32) (p0 p1 : Int32) (hn : n ≤ 60) : M0 l g y_De_setPaid b_De_setPaid 3 (some FieldType.boolean) ({ frames := 1, cells := 0, slots := 0, locals := 21 }) [.ref q0, .int p0, .int p1] [(q0, .inr (2, [.ref q1, .ref q2, .ref q3, .ref q4, .ref q5, .ref q6, .int (nI n), .ref q7, .ref q8])), (q5, .inl (g.2.1 0, 60, .inl ff)), (q6, .inl (g.2.1 0, 60, .inl pf))] (some (.int (zb (payOk n ff pf p0 p1)))) [(q0, .inr (2, [.ref q1, .ref q2, .ref q3, .ref q4, .ref q5, .ref q6, .int (nI n), .ref q7, .ref q8])), (q5, .inl (g.2.1 0, 60, .inl ff)), (q6, .inl (g.2.1 0, 60, .inl (if payOk n ff pf p0 p1 then upd pf p0.toNatClampNeg p1 else pf)))] := by
  refine MP.of (by decide) (Nat.le_of_ble_eq_true rfl) (fun κ C => ?_)
  have C : zC κ l g ({ frames := 1, cells := 0, slots := 0, locals := 21 }) b_De_setPaid 3 "TombLane$Debts" "setPaid" (some FieldType.boolean) _ := C
  refine g_lv (lv1 := [(0, .ref q0), (1, .int p0), (2, .int p1)]) [0, 1, 2] rfl ?_
  refine g_iload_n C 1 rfl d_De_setPaid_0 ?_
  refine g_aload_n C 0 rfl d_De_setPaid_1 ?_
  refine g_get C 0 rfl rfl in_De 6 (by decide) kw_336 rfl d_De_setPaid_2 ?_
  refine g_callSN0 (rest := []) (Xn := [(q0, .inr (2, [.ref q1, .ref q2, .ref q3, .ref q4, .ref q5, .ref q6, .int (nI n), .ref q7, .ref q8])), (q5, .inl (g.2.1 0, 60, .inl ff)), (q6, .inl (g.2.1 0, 60, .inl pf))]) C (c_TL_isBelow l g p0 (nI n)) [] [0, 1, 2] [0, 1, 2] rfl (by decide) (by decide) rfl mo_TL_isBelow ms_TL_isBelow kw_820 (by decide) rfl (Nat.le_of_ble_eq_true rfl) ⟨Nat.le_of_ble_eq_true rfl, Nat.le_of_ble_eq_true rfl⟩ d_De_setPaid_5 ?_
  refine g_if_eq C d_De_setPaid_8 (fun c_1 => ?_) (fun c_1 => ?_)
  · have c_1 := zb_0.mp c_1
    refine g_iconst (v := 0) C rfl d_De_setPaid_33 ?_
    exact g_zret C (Or.inl rfl) rfl ⟨congrArg (fun z => some (Value.int z)) (by simp [zb, payOk, c_1]), (by simp [zb, payOk, c_1]), rfl⟩ (by decide) (by decide) d_De_setPaid_34
  · have c_1 := zb_n0.mp c_1
    refine g_aload_n C 0 rfl d_De_setPaid_11 ?_
    refine g_get C 0 rfl rfl in_De 5 (by decide) kw_335 rfl d_De_setPaid_12 ?_
    refine g_iload_n C 1 rfl d_De_setPaid_15 ?_
    refine g_iald C 2 rfl (inB_vp 60 c_1 hn (by decide)) d_De_setPaid_16 ?_
    refine g_sipush (v := 3600) C rfl d_De_setPaid_17 ?_
    refine g_icmp_ne C d_De_setPaid_20 (fun c_2 => ?_) (fun c_2 => ?_)
    · skip
      refine g_iconst (v := 0) C rfl d_De_setPaid_33 ?_
      exact g_zret C (Or.inl rfl) rfl ⟨congrArg (fun z => some (Value.int z)) (by simp [zb, payOk, c_1, c_2]), (by simp [zb, payOk, c_1, c_2]), rfl⟩ (by decide) (by decide) d_De_setPaid_34
    · skip
      refine g_iload_n C 2 rfl d_De_setPaid_23 ?_
      refine g_aload_n C 0 rfl d_De_setPaid_24 ?_
      refine g_get C 0 rfl rfl in_De 4 (by decide) kw_334 rfl d_De_setPaid_25 ?_
      refine g_iload_n C 1 rfl d_De_setPaid_28 ?_
      refine g_iald C 1 rfl (inB_vp 60 c_1 hn (by decide)) d_De_setPaid_29 ?_
      refine g_icmp_ge C d_De_setPaid_30 (fun c_3 => ?_) (fun c_3 => ?_)
      · skip
        refine g_aload_n C 0 rfl d_De_setPaid_35 ?_
        refine g_get C 0 rfl rfl in_De 5 (by decide) kw_335 rfl d_De_setPaid_36 ?_
        refine g_iload_n C 1 rfl d_De_setPaid_39 ?_
        refine g_iload_n C 2 rfl d_De_setPaid_40 ?_
        refine g_iast (X1 := [(q0, .inr (2, [.ref q1, .ref q2, .ref q3, .ref q4, .ref q5, .ref q6, .int (nI n), .ref q7, .ref q8])), (q5, .inl (g.2.1 0, 60, .inl ff)), (q6, .inl (g.2.1 0, 60, .inl (upd pf (Int32.toNatClampNeg p0) p1)))]) C 2 rfl (inB_vp 60 c_1 hn (by decide)) rfl d_De_setPaid_41 ?_
        refine g_iconst (v := 1) C rfl d_De_setPaid_42 ?_
        exact g_zret C (Or.inr rfl) rfl ⟨congrArg (fun z => some (Value.int z)) (by simp [zb, payOk, c_1, eq_true c_2, c_3, Int32.not_lt.mpr c_3]), (by simp [zb, payOk, c_1, eq_true c_2, c_3, Int32.not_lt.mpr c_3]), rfl⟩ (by decide) (by decide) d_De_setPaid_43
      · skip
        refine g_iconst (v := 0) C rfl d_De_setPaid_33 ?_
        exact g_zret C (Or.inl rfl) rfl ⟨congrArg (fun z => some (Value.int z)) (by simp [zb, payOk, c_1, eq_true c_2, c_3, Int32.not_le.mp c_3]), (by simp [zb, payOk, c_1, eq_true c_2, c_3, Int32.not_le.mp c_3]), rfl⟩ (by decide) (by decide) d_De_setPaid_34

def fa_f0 (f : Nat → Int32) (i : Nat) : Nat → Int32 := fun j => if j < i then 0 else f j
/-- what a debt is worth, by the year of its day -/
def dsum (gf mf ff wf : Nat → Int32) (i : Nat) : Int32 := mf i * wf (gf i * 10 + ff i / 360).toNatClampNeg
def balStep (bf tf gf mf ff pf wf : Nat → Int32) (d : Int32) (i : Nat) (f : Nat → Int32) : Nat → Int32 :=
  if ¬ d < ff i ∧ d < pf i then
    upd (upd f (tf i).toNatClampNeg (f (tf i).toNatClampNeg + dsum gf mf ff wf i)) (bf i).toNatClampNeg ((upd f (tf i).toNatClampNeg (f (tf i).toNatClampNeg + dsum gf mf ff wf i)) (bf i).toNatClampNeg - dsum gf mf ff wf i)
  else f
def bal (bf tf gf mf ff pf wf : Nat → Int32) (d : Int32) : Nat → Nat → (Nat → Int32) → (Nat → Int32)
  | 0, _, f => f
  | k + 1, i, f => bal bf tf gf mf ff pf wf d k (i + 1) (balStep bf tf gf mf ff pf wf d i f)
/-- the debts' rows hold men, goods and days -/
def dbtIn (n : Nat) (bf tf gf ff : Nat → Int32) : Prop := ∀ i, i < n → vp_in (bf i) 12 ∧ vp_in (tf i) 12 ∧ vp_in (gf i * 10 + ff i / 360) 50
theorem upd_fill (f : Nat → Int32) (i : Nat) : upd (fa_f0 f i) i 0 = fa_f0 f (i + 1) := by
  funext j
  unfold upd fa_f0
  by_cases h : j = i
  · subst h; simp
  · have : (j < i + 1) = (j < i) := by simp; omega
    simp [h, this]
set_option maxHeartbeats 4000000 in
set_option maxRecDepth 100000 in
theorem lp_De_balancesOn0 (l : Launch) (g : Gx) {κ : Kx} {E : Ex} {P : va_W} (q0 q1 q2 q3 q4 q5 q6 q7 q8 n : Nat) (bf tf gf mf ff pf wf : Nat → Int32) (p0 : Int32) (xf : Nat → Int32) (C : zC κ l g ({ frames := 0, cells := 0, slots := 0, locals := 0 }) b_De_balancesOn 4 "TombLane$Debts" "balancesOn" (some (FieldType.array FieldType.int)) E) : ∀ (k : Nat) (i : Nat), (i + k = 12) → (G κ 4 0 0 21 [(0, .ref q0), (1, .int p0)] [] [(q0, .inr (2, [.ref q1, .ref q2, .ref q3, .ref q4, .ref q5, .ref q6, .int (nI n), .ref q7, .ref q8])), (q1, .inl (g.2.1 0, 60, .inl bf)), (q2, .inl (g.2.1 0, 60, .inl tf)), (q3, .inl (g.2.1 0, 60, .inl gf)), (q4, .inl (g.2.1 0, 60, .inl mf)), (q5, .inl (g.2.1 0, 60, .inl ff)), (q6, .inl (g.2.1 0, 60, .inl pf)), (q7, .inl (g.2.1 0, 50, .inl wf)), (q8, .inl (g.2.1 0, 12, .inl (fa_f0 xf 12)))] P) → G κ 4 0 0 2 [(0, .ref q0), (1, .int p0), (2, .int (nI i))] [] [(q0, .inr (2, [.ref q1, .ref q2, .ref q3, .ref q4, .ref q5, .ref q6, .int (nI n), .ref q7, .ref q8])), (q1, .inl (g.2.1 0, 60, .inl bf)), (q2, .inl (g.2.1 0, 60, .inl tf)), (q3, .inl (g.2.1 0, 60, .inl gf)), (q4, .inl (g.2.1 0, 60, .inl mf)), (q5, .inl (g.2.1 0, 60, .inl ff)), (q6, .inl (g.2.1 0, 60, .inl pf)), (q7, .inl (g.2.1 0, 50, .inl wf)), (q8, .inl (g.2.1 0, 12, .inl (fa_f0 xf i)))] P := by
  intro k
  induction k with
  | zero =>
    intro i hi hE
    have e12 : i = 12 := by omega
    subst e12
    refine g_lv (lv1 := [(0, .ref q0), (1, .int p0), (2, .int (nI 12))]) [0, 1, 2] rfl ?_
    refine g_iload_n C 2 rfl d_De_balancesOn_2 ?_
    refine g_bipush (v := 12) C rfl d_De_balancesOn_3 ?_
    refine g_icmp_ge C d_De_balancesOn_5 (fun _ => ?_) (fun c_1 => absurd (nI_le (Nat.le_refl 12) (by decide)) c_1)
    refine g_lv (lv1 := [(0, .ref q0), (1, .int p0)]) [0, 1] rfl ?_
    exact hE
  | succ k ih =>
    intro i hi hE
    refine g_iload_n C 2 rfl d_De_balancesOn_2 ?_
    refine g_bipush (v := 12) C rfl d_De_balancesOn_3 ?_
    refine g_icmp_ge C d_De_balancesOn_5 (fun c_1 => absurd c_1 (nI_ge (b := 12) (by omega) (by decide))) (fun _ => ?_)
    refine g_aload_n C 0 rfl d_De_balancesOn_8 ?_
    refine g_get C 0 rfl rfl in_De 8 (by decide) kw_339 rfl d_De_balancesOn_9 ?_
    refine g_iload_n C 2 rfl d_De_balancesOn_12 ?_
    refine g_iconst (v := 0) C rfl d_De_balancesOn_13 ?_
    refine g_iast (X1 := [(q0, .inr (2, [.ref q1, .ref q2, .ref q3, .ref q4, .ref q5, .ref q6, .int (nI n), .ref q7, .ref q8])), (q1, .inl (g.2.1 0, 60, .inl bf)), (q2, .inl (g.2.1 0, 60, .inl tf)), (q3, .inl (g.2.1 0, 60, .inl gf)), (q4, .inl (g.2.1 0, 60, .inl mf)), (q5, .inl (g.2.1 0, 60, .inl ff)), (q6, .inl (g.2.1 0, 60, .inl pf)), (q7, .inl (g.2.1 0, 50, .inl wf)), (q8, .inl (g.2.1 0, 12, .inl (upd (fa_f0 xf i) (Int32.toNatClampNeg (nI i)) 0)))]) C 8 rfl (vp_in_nI (by omega) (by decide)) rfl d_De_balancesOn_14 ?_
    refine g_eq (X1 := [(q0, .inr (2, [.ref q1, .ref q2, .ref q3, .ref q4, .ref q5, .ref q6, .int (nI n), .ref q7, .ref q8])), (q1, .inl (g.2.1 0, 60, .inl bf)), (q2, .inl (g.2.1 0, 60, .inl tf)), (q3, .inl (g.2.1 0, 60, .inl gf)), (q4, .inl (g.2.1 0, 60, .inl mf)), (q5, .inl (g.2.1 0, 60, .inl ff)), (q6, .inl (g.2.1 0, 60, .inl pf)), (q7, .inl (g.2.1 0, 50, .inl wf)), (q8, .inl (g.2.1 0, 12, .inl (upd (fa_f0 xf i) i 0)))]) rfl (by rw [nI_clamp (by omega)]) ?_
    refine g_iinc (v := nI (i + 1)) (lv1 := [(0, .ref q0), (1, .int p0), (2, .int (nI (i + 1)))]) C d_De_balancesOn_15 2 rfl (nI_1 _) [1, 2, 0] (by decide) rfl ?_
    refine g_goto C d_De_balancesOn_18 ?_
    refine g_eq (X1 := [(q0, .inr (2, [.ref q1, .ref q2, .ref q3, .ref q4, .ref q5, .ref q6, .int (nI n), .ref q7, .ref q8])), (q1, .inl (g.2.1 0, 60, .inl bf)), (q2, .inl (g.2.1 0, 60, .inl tf)), (q3, .inl (g.2.1 0, 60, .inl gf)), (q4, .inl (g.2.1 0, 60, .inl mf)), (q5, .inl (g.2.1 0, 60, .inl ff)), (q6, .inl (g.2.1 0, 60, .inl pf)), (q7, .inl (g.2.1 0, 50, .inl wf)), (q8, .inl (g.2.1 0, 12, .inl (fa_f0 xf (i + 1))))]) rfl (by rw [upd_fill]) ?_
    exact ih (i + 1) (by omega) hE

set_option maxHeartbeats 4000000 in
set_option maxRecDepth 100000 in
theorem lp_De_balancesOn (l : Launch) (g : Gx) {κ : Kx} {E : Ex} {P : va_W} (q0 q1 q2 q3 q4 q5 q6 q7 q8 n : Nat) (bf tf gf mf ff pf wf : Nat → Int32) (p0 : Int32) (hn : n ≤ 60) (hd : dbtIn n bf tf gf ff) (C : zC κ l g ({ frames := 0, cells := 0, slots := 0, locals := 0 }) b_De_balancesOn 4 "TombLane$Debts" "balancesOn" (some (FieldType.array FieldType.int)) E) : ∀ (k : Nat) (i : Nat) (b : Nat → Int32), (i + k = n) → (E (some (.ref q8)) [(q0, .inr (2, [.ref q1, .ref q2, .ref q3, .ref q4, .ref q5, .ref q6, .int (nI n), .ref q7, .ref q8])), (q1, .inl (g.2.1 0, 60, .inl bf)), (q2, .inl (g.2.1 0, 60, .inl tf)), (q3, .inl (g.2.1 0, 60, .inl gf)), (q4, .inl (g.2.1 0, 60, .inl mf)), (q5, .inl (g.2.1 0, 60, .inl ff)), (q6, .inl (g.2.1 0, 60, .inl pf)), (q7, .inl (g.2.1 0, 50, .inl wf)), (q8, .inl (g.2.1 0, 12, .inl (bal bf tf gf mf ff pf wf p0 k i b)))] P) → G κ 4 0 0 23 [(0, .ref q0), (1, .int p0), (2, .int (nI i))] [] [(q0, .inr (2, [.ref q1, .ref q2, .ref q3, .ref q4, .ref q5, .ref q6, .int (nI n), .ref q7, .ref q8])), (q1, .inl (g.2.1 0, 60, .inl bf)), (q2, .inl (g.2.1 0, 60, .inl tf)), (q3, .inl (g.2.1 0, 60, .inl gf)), (q4, .inl (g.2.1 0, 60, .inl mf)), (q5, .inl (g.2.1 0, 60, .inl ff)), (q6, .inl (g.2.1 0, 60, .inl pf)), (q7, .inl (g.2.1 0, 50, .inl wf)), (q8, .inl (g.2.1 0, 12, .inl b))] P := by
  intro k
  induction k with
  | zero =>
    intro i b hi hE
    refine g_iload_n C 2 rfl d_De_balancesOn_23 ?_
    refine g_aload_n C 0 rfl d_De_balancesOn_24 ?_
    refine g_get C 0 rfl rfl in_De 6 (by decide) kw_336 rfl d_De_balancesOn_25 ?_
    refine g_icmp_ge C d_De_balancesOn_28 (fun _ => ?_) (fun c_1 => absurd (nI_le (by omega) (by omega)) c_1)
    refine g_aload_n C 0 rfl d_De_balancesOn_120 ?_
    refine g_get C 0 rfl rfl in_De 8 (by decide) kw_339 rfl d_De_balancesOn_121 ?_
    exact g_aret C (Or.inr ⟨_, rfl⟩) rfl hE (by decide) (by decide) d_De_balancesOn_124
  | succ k ih =>
    intro i b hi hE
    refine g_iload_n C 2 rfl d_De_balancesOn_23 ?_
    refine g_aload_n C 0 rfl d_De_balancesOn_24 ?_
    refine g_get C 0 rfl rfl in_De 6 (by decide) kw_336 rfl d_De_balancesOn_25 ?_
    refine g_icmp_ge C d_De_balancesOn_28 (fun c_1 => absurd c_1 (nI_ge (by omega) (by omega))) (fun _ => ?_)
    refine g_aload_n C 0 rfl d_De_balancesOn_31 ?_
    refine g_get C 0 rfl rfl in_De 4 (by decide) kw_334 rfl d_De_balancesOn_32 ?_
    refine g_iload_n C 2 rfl d_De_balancesOn_35 ?_
    refine g_iald C 5 rfl (vp_in_nI (by omega) (by decide)) d_De_balancesOn_36 ?_
    refine g_eq (st1 := [.int (ff i)]) (congrArg (fun z => Value.int z :: []) (congrArg ff (nI_clamp (by omega)))) rfl ?_
    refine g_iload_n C 1 rfl d_De_balancesOn_37 ?_
    refine g_icmp_gt C d_De_balancesOn_38 (fun c_2 => ?_) (fun c_2 => ?_)
    · skip
      refine g_iinc (v := nI (i + 1)) (lv1 := [(0, .ref q0), (1, .int p0), (2, .int (nI (i + 1)))]) C d_De_balancesOn_114 2 rfl (nI_1 _) [1, 2, 0] (by decide) rfl ?_
      refine g_goto C d_De_balancesOn_117 ?_
      refine g_eq (X1 := [(q0, .inr (2, [.ref q1, .ref q2, .ref q3, .ref q4, .ref q5, .ref q6, .int (nI n), .ref q7, .ref q8])), (q1, .inl (g.2.1 0, 60, .inl bf)), (q2, .inl (g.2.1 0, 60, .inl tf)), (q3, .inl (g.2.1 0, 60, .inl gf)), (q4, .inl (g.2.1 0, 60, .inl mf)), (q5, .inl (g.2.1 0, 60, .inl ff)), (q6, .inl (g.2.1 0, 60, .inl pf)), (q7, .inl (g.2.1 0, 50, .inl wf)), (q8, .inl (g.2.1 0, 12, .inl (balStep bf tf gf mf ff pf wf p0 i b)))]) rfl (by simp [balStep, c_2, Int32.not_le.mpr c_2]) ?_
      exact ih (i + 1) _ (by omega) hE
    · skip
      refine g_iload_n C 1 rfl d_De_balancesOn_41 ?_
      refine g_aload_n C 0 rfl d_De_balancesOn_42 ?_
      refine g_get C 0 rfl rfl in_De 5 (by decide) kw_335 rfl d_De_balancesOn_43 ?_
      refine g_iload_n C 2 rfl d_De_balancesOn_46 ?_
      refine g_iald C 6 rfl (vp_in_nI (by omega) (by decide)) d_De_balancesOn_47 ?_
      refine g_eq (st1 := [.int (pf i), .int p0]) (congrArg (fun z => Value.int z :: [.int p0]) (congrArg pf (nI_clamp (by omega)))) rfl ?_
      refine g_icmp_ge C d_De_balancesOn_48 (fun c_3 => ?_) (fun c_3 => ?_)
      · skip
        refine g_iinc (v := nI (i + 1)) (lv1 := [(0, .ref q0), (1, .int p0), (2, .int (nI (i + 1)))]) C d_De_balancesOn_114 2 rfl (nI_1 _) [1, 2, 0] (by decide) rfl ?_
        refine g_goto C d_De_balancesOn_117 ?_
        refine g_eq (X1 := [(q0, .inr (2, [.ref q1, .ref q2, .ref q3, .ref q4, .ref q5, .ref q6, .int (nI n), .ref q7, .ref q8])), (q1, .inl (g.2.1 0, 60, .inl bf)), (q2, .inl (g.2.1 0, 60, .inl tf)), (q3, .inl (g.2.1 0, 60, .inl gf)), (q4, .inl (g.2.1 0, 60, .inl mf)), (q5, .inl (g.2.1 0, 60, .inl ff)), (q6, .inl (g.2.1 0, 60, .inl pf)), (q7, .inl (g.2.1 0, 50, .inl wf)), (q8, .inl (g.2.1 0, 12, .inl (balStep bf tf gf mf ff pf wf p0 i b)))]) rfl (by simp [balStep, c_2, Int32.not_lt.mp c_2, c_3, Int32.not_lt.mpr c_3]) ?_
        exact ih (i + 1) _ (by omega) hE
      · skip
        refine g_aload_n C 0 rfl d_De_balancesOn_51 ?_
        refine g_get C 0 rfl rfl in_De 3 (by decide) kw_333 rfl d_De_balancesOn_52 ?_
        refine g_iload_n C 2 rfl d_De_balancesOn_55 ?_
        refine g_iald C 4 rfl (vp_in_nI (by omega) (by decide)) d_De_balancesOn_56 ?_
        refine g_eq (st1 := [.int (mf i)]) (congrArg (fun z => Value.int z :: []) (congrArg mf (nI_clamp (by omega)))) rfl ?_
        refine g_aload_n C 0 rfl d_De_balancesOn_57 ?_
        refine g_get C 0 rfl rfl in_De 7 (by decide) kw_338 rfl d_De_balancesOn_58 ?_
        refine g_aload_n C 0 rfl d_De_balancesOn_61 ?_
        refine g_get C 0 rfl rfl in_De 2 (by decide) kw_332 rfl d_De_balancesOn_62 ?_
        refine g_iload_n C 2 rfl d_De_balancesOn_65 ?_
        refine g_iald C 3 rfl (vp_in_nI (by omega) (by decide)) d_De_balancesOn_66 ?_
        refine g_eq (st1 := [.int (gf i), .ref q7, .int (mf i)]) (congrArg (fun z => Value.int z :: [.ref q7, .int (mf i)]) (congrArg gf (nI_clamp (by omega)))) rfl ?_
        refine g_bipush (v := 10) C rfl d_De_balancesOn_67 ?_
        refine g_imul C d_De_balancesOn_69 ?_
        refine g_aload_n C 0 rfl d_De_balancesOn_70 ?_
        refine g_get C 0 rfl rfl in_De 4 (by decide) kw_334 rfl d_De_balancesOn_71 ?_
        refine g_iload_n C 2 rfl d_De_balancesOn_74 ?_
        refine g_iald C 5 rfl (vp_in_nI (by omega) (by decide)) d_De_balancesOn_75 ?_
        refine g_eq (st1 := [.int (ff i), .int ((gf i) * 10), .ref q7, .int (mf i)]) (congrArg (fun z => Value.int z :: [.int ((gf i) * 10), .ref q7, .int (mf i)]) (congrArg ff (nI_clamp (by omega)))) rfl ?_
        refine g_sipush (v := 360) C rfl d_De_balancesOn_76 ?_
        refine g_idiv C (by decide) d_De_balancesOn_79 ?_
        refine g_iadd C d_De_balancesOn_80 ?_
        refine g_iald C 7 rfl (hd i (by omega)).2.2 d_De_balancesOn_81 ?_
        refine g_imul C d_De_balancesOn_82 ?_
        refine g_istore_n (lv1 := [(0, .ref q0), (1, .int p0), (2, .int (nI i)), (3, .int ((mf i) * (wf (Int32.toNatClampNeg (((gf i) * 10) + ((ff i) / 360))))))]) C d_De_balancesOn_83 [1, 2, 3, 0] (by decide) rfl ?_
        refine g_aload_n C 0 rfl d_De_balancesOn_84 ?_
        refine g_get C 0 rfl rfl in_De 8 (by decide) kw_339 rfl d_De_balancesOn_85 ?_
        refine g_aload_n C 0 rfl d_De_balancesOn_88 ?_
        refine g_get C 0 rfl rfl in_De 1 (by decide) kw_331 rfl d_De_balancesOn_89 ?_
        refine g_iload_n C 2 rfl d_De_balancesOn_92 ?_
        refine g_iald C 2 rfl (vp_in_nI (by omega) (by decide)) d_De_balancesOn_93 ?_
        refine g_eq (st1 := [.int (tf i), .ref q8]) (congrArg (fun z => Value.int z :: [.ref q8]) (congrArg tf (nI_clamp (by omega)))) rfl ?_
        refine g_dup2 C rfl rfl d_De_balancesOn_94 ?_
        refine g_iald C 8 rfl (hd i (by omega)).2.1 d_De_balancesOn_95 ?_
        refine g_iload_n C 3 rfl d_De_balancesOn_96 ?_
        refine g_iadd C d_De_balancesOn_97 ?_
        refine g_iast (X1 := [(q0, .inr (2, [.ref q1, .ref q2, .ref q3, .ref q4, .ref q5, .ref q6, .int (nI n), .ref q7, .ref q8])), (q1, .inl (g.2.1 0, 60, .inl bf)), (q2, .inl (g.2.1 0, 60, .inl tf)), (q3, .inl (g.2.1 0, 60, .inl gf)), (q4, .inl (g.2.1 0, 60, .inl mf)), (q5, .inl (g.2.1 0, 60, .inl ff)), (q6, .inl (g.2.1 0, 60, .inl pf)), (q7, .inl (g.2.1 0, 50, .inl wf)), (q8, .inl (g.2.1 0, 12, .inl (upd b (Int32.toNatClampNeg (tf i)) ((b (Int32.toNatClampNeg (tf i))) + ((mf i) * (wf (Int32.toNatClampNeg (((gf i) * 10) + ((ff i) / 360)))))))))]) C 8 rfl (hd i (by omega)).2.1 rfl d_De_balancesOn_98 ?_
        refine g_aload_n C 0 rfl d_De_balancesOn_99 ?_
        refine g_get C 0 rfl rfl in_De 8 (by decide) kw_339 rfl d_De_balancesOn_100 ?_
        refine g_aload_n C 0 rfl d_De_balancesOn_103 ?_
        refine g_get C 0 rfl rfl in_De 0 (by decide) kw_330 rfl d_De_balancesOn_104 ?_
        refine g_iload_n C 2 rfl d_De_balancesOn_107 ?_
        refine g_iald C 1 rfl (vp_in_nI (by omega) (by decide)) d_De_balancesOn_108 ?_
        refine g_eq (st1 := [.int (bf i), .ref q8]) (congrArg (fun z => Value.int z :: [.ref q8]) (congrArg bf (nI_clamp (by omega)))) rfl ?_
        refine g_dup2 C rfl rfl d_De_balancesOn_109 ?_
        refine g_iald C 8 rfl (hd i (by omega)).1 d_De_balancesOn_110 ?_
        refine g_iload_n C 3 rfl d_De_balancesOn_111 ?_
        refine g_isub C d_De_balancesOn_112 ?_
        refine g_iast (X1 := [(q0, .inr (2, [.ref q1, .ref q2, .ref q3, .ref q4, .ref q5, .ref q6, .int (nI n), .ref q7, .ref q8])), (q1, .inl (g.2.1 0, 60, .inl bf)), (q2, .inl (g.2.1 0, 60, .inl tf)), (q3, .inl (g.2.1 0, 60, .inl gf)), (q4, .inl (g.2.1 0, 60, .inl mf)), (q5, .inl (g.2.1 0, 60, .inl ff)), (q6, .inl (g.2.1 0, 60, .inl pf)), (q7, .inl (g.2.1 0, 50, .inl wf)), (q8, .inl (g.2.1 0, 12, .inl (upd (upd b (Int32.toNatClampNeg (tf i)) ((b (Int32.toNatClampNeg (tf i))) + ((mf i) * (wf (Int32.toNatClampNeg (((gf i) * 10) + ((ff i) / 360))))))) (Int32.toNatClampNeg (bf i)) (((upd b (Int32.toNatClampNeg (tf i)) ((b (Int32.toNatClampNeg (tf i))) + ((mf i) * (wf (Int32.toNatClampNeg (((gf i) * 10) + ((ff i) / 360))))))) (Int32.toNatClampNeg (bf i))) - ((mf i) * (wf (Int32.toNatClampNeg (((gf i) * 10) + ((ff i) / 360)))))))))]) C 8 rfl (hd i (by omega)).1 rfl d_De_balancesOn_113 ?_
        refine g_iinc (v := nI (i + 1)) (lv1 := [(0, .ref q0), (1, .int p0), (2, .int (nI (i + 1))), (3, .int ((mf i) * (wf (Int32.toNatClampNeg (((gf i) * 10) + ((ff i) / 360))))))]) C d_De_balancesOn_114 2 rfl (nI_1 _) [1, 2, 0, 3] (by decide) rfl ?_
        refine g_goto C d_De_balancesOn_117 ?_
        refine g_lv (lv1 := [(0, .ref q0), (1, .int p0), (2, .int (nI (i + 1)))]) [0, 1, 2] rfl ?_
        refine g_eq (X1 := [(q0, .inr (2, [.ref q1, .ref q2, .ref q3, .ref q4, .ref q5, .ref q6, .int (nI n), .ref q7, .ref q8])), (q1, .inl (g.2.1 0, 60, .inl bf)), (q2, .inl (g.2.1 0, 60, .inl tf)), (q3, .inl (g.2.1 0, 60, .inl gf)), (q4, .inl (g.2.1 0, 60, .inl mf)), (q5, .inl (g.2.1 0, 60, .inl ff)), (q6, .inl (g.2.1 0, 60, .inl pf)), (q7, .inl (g.2.1 0, 50, .inl wf)), (q8, .inl (g.2.1 0, 12, .inl (balStep bf tf gf mf ff pf wf p0 i b)))]) rfl (by simp [balStep, dsum, c_2, Int32.not_lt.mp c_2, c_3, Int32.not_le.mp c_3]) ?_
        exact ih (i + 1) _ (by omega) hE

set_option maxHeartbeats 4000000 in
set_option maxRecDepth 100000 in
theorem c_De_balancesOn (l : Launch) (g : Gx) (q0 q1 q2 q3 q4 q5 q6 q7 q8 n : Nat) (bf tf gf mf ff pf wf : Nat → Int32) (p0 : Int32) (xf : Nat → Int32) (hn : n ≤ 60) (hd : dbtIn n bf tf gf ff) : M0 l g y_De_balancesOn b_De_balancesOn 4 (some (FieldType.array FieldType.int)) ({ frames := 0, cells := 0, slots := 0, locals := 0 }) [.ref q0, .int p0] [(q0, .inr (2, [.ref q1, .ref q2, .ref q3, .ref q4, .ref q5, .ref q6, .int (nI n), .ref q7, .ref q8])), (q1, .inl (g.2.1 0, 60, .inl bf)), (q2, .inl (g.2.1 0, 60, .inl tf)), (q3, .inl (g.2.1 0, 60, .inl gf)), (q4, .inl (g.2.1 0, 60, .inl mf)), (q5, .inl (g.2.1 0, 60, .inl ff)), (q6, .inl (g.2.1 0, 60, .inl pf)), (q7, .inl (g.2.1 0, 50, .inl wf)), (q8, .inl (g.2.1 0, 12, .inl xf))] (some (.ref q8)) [(q0, .inr (2, [.ref q1, .ref q2, .ref q3, .ref q4, .ref q5, .ref q6, .int (nI n), .ref q7, .ref q8])), (q1, .inl (g.2.1 0, 60, .inl bf)), (q2, .inl (g.2.1 0, 60, .inl tf)), (q3, .inl (g.2.1 0, 60, .inl gf)), (q4, .inl (g.2.1 0, 60, .inl mf)), (q5, .inl (g.2.1 0, 60, .inl ff)), (q6, .inl (g.2.1 0, 60, .inl pf)), (q7, .inl (g.2.1 0, 50, .inl wf)), (q8, .inl (g.2.1 0, 12, .inl (bal bf tf gf mf ff pf wf p0 n 0 (fun _ => 0))))] := by
  refine MP.of (by decide) (Nat.le_of_ble_eq_true rfl) (fun κ C => ?_)
  have C : zC κ l g ({ frames := 0, cells := 0, slots := 0, locals := 0 }) b_De_balancesOn 4 "TombLane$Debts" "balancesOn" (some (FieldType.array FieldType.int)) _ := C
  refine g_lv (lv1 := [(0, .ref q0), (1, .int p0)]) [0, 1] rfl ?_
  refine g_iconst (v := 0) C rfl d_De_balancesOn_0 ?_
  refine g_istore_n (lv1 := [(0, .ref q0), (1, .int p0), (2, .int 0)]) C d_De_balancesOn_1 [1, 2, 0] (by decide) rfl ?_
  refine g_eq (X1 := [(q0, .inr (2, [.ref q1, .ref q2, .ref q3, .ref q4, .ref q5, .ref q6, .int (nI n), .ref q7, .ref q8])), (q1, .inl (g.2.1 0, 60, .inl bf)), (q2, .inl (g.2.1 0, 60, .inl tf)), (q3, .inl (g.2.1 0, 60, .inl gf)), (q4, .inl (g.2.1 0, 60, .inl mf)), (q5, .inl (g.2.1 0, 60, .inl ff)), (q6, .inl (g.2.1 0, 60, .inl pf)), (q7, .inl (g.2.1 0, 50, .inl wf)), (q8, .inl (g.2.1 0, 12, .inl (fa_f0 xf 0)))]) rfl (by rw [show fa_f0 xf 0 = xf from by funext j; simp [fa_f0]]) ?_
  refine lp_De_balancesOn0 l g q0 q1 q2 q3 q4 q5 q6 q7 q8 n bf tf gf mf ff pf wf p0 xf C 12 0 (by omega) ?_
  refine g_exti (f' := fun _ => 0) (X1 := [(q0, .inr (2, [.ref q1, .ref q2, .ref q3, .ref q4, .ref q5, .ref q6, .int (nI n), .ref q7, .ref q8])), (q1, .inl (g.2.1 0, 60, .inl bf)), (q2, .inl (g.2.1 0, 60, .inl tf)), (q3, .inl (g.2.1 0, 60, .inl gf)), (q4, .inl (g.2.1 0, 60, .inl mf)), (q5, .inl (g.2.1 0, 60, .inl ff)), (q6, .inl (g.2.1 0, 60, .inl pf)), (q7, .inl (g.2.1 0, 50, .inl wf)), (q8, .inl (g.2.1 0, 12, .inl (fun _ => 0)))]) 8 rfl (fun j hj => by simp [fa_f0, hj]) rfl ?_
  refine g_iconst (v := 0) C rfl d_De_balancesOn_21 ?_
  refine g_istore_n (lv1 := [(0, .ref q0), (1, .int p0), (2, .int 0)]) C d_De_balancesOn_22 [1, 2, 0] (by decide) rfl ?_
  exact lp_De_balancesOn l g q0 q1 q2 q3 q4 q5 q6 q7 q8 n bf tf gf mf ff pf wf p0 hn hd C n 0 _ (by omega) ⟨rfl, rfl, rfl⟩

