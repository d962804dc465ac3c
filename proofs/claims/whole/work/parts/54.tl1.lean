def manOkC (nf : Nat → Int64) (n : Nat) (w : Int64) (sd rk : Int32) : Bool := decide (inB sd 2 = true ∧ inB rk 4 = true ∧ manOk nf n w = true)
set_option maxHeartbeats 4000000 in
set_option maxRecDepth 100000 in
theorem c_TL_man (l : Launch) (g : Gx) (t t1 t2 t3 t4 t5 t6 t7 t8 m1 m2 m3 n : Nat) (dt : Int32) (nf : Nat → Int64) (sf rf : Nat → Int32) (w : Int64) (p0 p1 : Int32) (hn : n ≤ 12) : M0 l g y_TL_man b_TL_man 5 (some FieldType.int) ({ frames := 3, cells := 0, slots := 0, locals := 69 }) [.ref t, .long w, .int p0, .int p1] [(t, .inr (12, [.ref t1, .ref t2, .ref t3, .ref t4, .ref t5, .ref t6, .ref t7, .ref t8, .int dt])), (t1, .inr (7, [.ref m1, .ref m2, .ref m3, .int (nI n)])), (m1, .inl (g.2.1 1, 12, .inr (.inl nf))), (m2, .inl (g.2.1 0, 12, .inl sf)), (m3, .inl (g.2.1 0, 12, .inl rf))] (some (.int (if manOkC nf n w p0 p1 then nI n else (-1)))) [(t, .inr (12, [.ref t1, .ref t2, .ref t3, .ref t4, .ref t5, .ref t6, .ref t7, .ref t8, .int dt])), (t1, .inr (7, [.ref m1, .ref m2, .ref m3, .int (nI (if manOkC nf n w p0 p1 then n + 1 else n))])), (m1, .inl (g.2.1 1, 12, .inr (.inl (if manOkC nf n w p0 p1 then vp_updL nf n w else nf)))), (m2, .inl (g.2.1 0, 12, .inl (if manOkC nf n w p0 p1 then upd sf n p0 else sf))), (m3, .inl (g.2.1 0, 12, .inl (if manOkC nf n w p0 p1 then upd rf n p1 else rf)))] := by
  refine MP.of (by decide) (Nat.le_of_ble_eq_true rfl) (fun κ C => ?_)
  have C : zC κ l g ({ frames := 3, cells := 0, slots := 0, locals := 69 }) b_TL_man 5 "TombLane" "man" (some FieldType.int) _ := C
  refine g_lv (lv1 := [(0, .ref t), (1, .long w), (3, .int p0), (4, .int p1)]) [0, 1, 2, 3] rfl ?_
  refine g_iload_n C 2 rfl d_TL_man_0 ?_
  refine g_iconst (v := 2) C rfl d_TL_man_1 ?_
  refine g_callS0 (rest := []) (Xn := [(t, .inr (12, [.ref t1, .ref t2, .ref t3, .ref t4, .ref t5, .ref t6, .ref t7, .ref t8, .int dt])), (t1, .inr (7, [.ref m1, .ref m2, .ref m3, .int (nI n)])), (m1, .inl (g.2.1 1, 12, .inr (.inl nf))), (m2, .inl (g.2.1 0, 12, .inl sf)), (m3, .inl (g.2.1 0, 12, .inl rf))]) C (c_TL_isBelow l g p0 2) [] [0, 1, 2, 3, 4] [0, 1, 2, 3, 4] rfl (by decide) (by decide) rfl mo_TL_isBelow ms_TL_isBelow kw_404 (by decide) rfl (Nat.le_of_ble_eq_true rfl) ⟨Nat.le_of_ble_eq_true rfl, Nat.le_of_ble_eq_true rfl⟩ d_TL_man_2 ?_
  refine g_if_eq C d_TL_man_5 (fun c_1 => ?_) (fun c_1 => ?_)
  · have c_1 := zb_0.mp c_1
    refine g_iconst (v := (-1)) C rfl d_TL_man_17 ?_
    exact g_iret C rfl ⟨congrArg (fun z => some (Value.int z)) (by simp [manOkC, c_1]), (by simp [manOkC, c_1]), rfl⟩ (by decide) (by decide) d_TL_man_18
  · have c_1 := zb_n0.mp c_1
    refine g_iload C 3 rfl d_TL_man_8 ?_
    refine g_iconst (v := 4) C rfl d_TL_man_10 ?_
    refine g_callS0 (rest := []) (Xn := [(t, .inr (12, [.ref t1, .ref t2, .ref t3, .ref t4, .ref t5, .ref t6, .ref t7, .ref t8, .int dt])), (t1, .inr (7, [.ref m1, .ref m2, .ref m3, .int (nI n)])), (m1, .inl (g.2.1 1, 12, .inr (.inl nf))), (m2, .inl (g.2.1 0, 12, .inl sf)), (m3, .inl (g.2.1 0, 12, .inl rf))]) C (c_TL_isBelow l g p1 4) [] [0, 1, 2, 3, 4] [0, 1, 2, 3, 4] rfl (by decide) (by decide) rfl mo_TL_isBelow ms_TL_isBelow kw_404 (by decide) rfl (Nat.le_of_ble_eq_true rfl) ⟨Nat.le_of_ble_eq_true rfl, Nat.le_of_ble_eq_true rfl⟩ d_TL_man_11 ?_
    refine g_if_ne C d_TL_man_14 (fun c_2 => ?_) (fun c_2 => ?_)
    · have c_2 := zb_n0.mp c_2
      refine g_aload_n C 0 rfl d_TL_man_19 ?_
      refine g_get C 0 rfl rfl in_TL 0 (by decide) kw_372 rfl d_TL_man_20 ?_
      refine g_lload_n C 1 rfl d_TL_man_23 ?_
      refine g_iload_n C 2 rfl d_TL_man_24 ?_
      refine g_iload C 3 rfl d_TL_man_25 ?_
      refine g_callVN0 (rest := []) (Xn := [(t, .inr (12, [.ref t1, .ref t2, .ref t3, .ref t4, .ref t5, .ref t6, .ref t7, .ref t8, .int dt])), (t1, .inr (7, [.ref m1, .ref m2, .ref m3, .int (nI (if manOk nf n w then n + 1 else n))])), (m1, .inl (g.2.1 1, 12, .inr (.inl (if manOk nf n w then vp_updL nf n w else nf)))), (m2, .inl (g.2.1 0, 12, .inl (if manOk nf n w then upd sf n p0 else sf))), (m3, .inl (g.2.1 0, 12, .inl (if manOk nf n w then upd rf n p1 else rf)))]) C (c_Me_add l g t1 m1 m2 m3 n nf sf rf w p0 p1 (by first | assumption | omega | exact nI_pos (by omega))) [1, 2, 3, 4] [0] [0, 1, 2, 3, 4] rfl (by decide) (by decide) rfl mo_Me_add mv_Me_add kw_407 (by decide) (rcX 1 rfl rfl) rfl (Nat.le_of_ble_eq_true rfl) ⟨Nat.le_of_ble_eq_true rfl, Nat.le_of_ble_eq_true rfl⟩ d_TL_man_27 ?_
      exact g_iret C rfl ⟨congrArg (fun z => some (Value.int z)) (by simp [manOkC, c_1, c_2]), (by simp [manOkC, c_1, c_2]), rfl⟩ (by decide) (by decide) d_TL_man_30
    · have c_2 := zb_0.mp c_2
      refine g_iconst (v := (-1)) C rfl d_TL_man_17 ?_
      exact g_iret C rfl ⟨congrArg (fun z => some (Value.int z)) (by simp [manOkC, c_1, c_2]), (by simp [manOkC, c_1, c_2]), rfl⟩ (by decide) (by decide) d_TL_man_18

set_option maxHeartbeats 4000000 in
set_option maxRecDepth 100000 in
theorem c_TL_feed (l : Launch) (g : Gx) (t t1 t2 t3 t4 t5 t6 t7 t8 b1 u : Nat) (dt : Int32) (bf : Nat → Int32) (p0 p1 p2 p3 p4 : Int32) (hu : u ≤ 300) : M0 l g y_TL_feed b_TL_feed 6 (some FieldType.int) ({ frames := 1, cells := 0, slots := 0, locals := 22 }) [.ref t, .int p0, .int p1, .int p2, .int p3, .int p4] [(t, .inr (12, [.ref t1, .ref t2, .ref t3, .ref t4, .ref t5, .ref t6, .ref t7, .ref t8, .int dt])), (t2, .inr (10, [.ref b1, .int (nI u)])), (b1, .inl (g.2.1 0, 300, .inl bf))] (some (.int (if u + 20 ≤ 300 then nI (u + 20) else (-1)))) [(t, .inr (12, [.ref t1, .ref t2, .ref t3, .ref t4, .ref t5, .ref t6, .ref t7, .ref t8, .int dt])), (t2, .inr (10, [.ref b1, .int (nI (if u + 20 ≤ 300 then u + 20 else u))])), (b1, .inl (g.2.1 0, 300, .inl (if u + 20 ≤ 300 then app4 (app4 (app4 (app4 (app4 bf u p0) (u + 4) p1) (u + 8) p2) (u + 12) p3) (u + 16) p4 else bf)))] := by
  refine MP.of (by decide) (Nat.le_of_ble_eq_true rfl) (fun κ C => ?_)
  have C : zC κ l g ({ frames := 1, cells := 0, slots := 0, locals := 22 }) b_TL_feed 6 "TombLane" "feed" (some FieldType.int) _ := C
  refine g_lv (lv1 := [(0, .ref t), (1, .int p0), (2, .int p1), (3, .int p2), (4, .int p3), (5, .int p4)]) [0, 1, 2, 3, 4, 5] rfl ?_
  refine g_aload_n C 0 rfl d_TL_feed_0 ?_
  refine g_get C 0 rfl rfl in_TL 1 (by decide) kw_373 rfl d_TL_feed_1 ?_
  refine g_bipush (v := 20) C rfl d_TL_feed_4 ?_
  refine g_callVN0 (rest := []) (Xn := [(t, .inr (12, [.ref t1, .ref t2, .ref t3, .ref t4, .ref t5, .ref t6, .ref t7, .ref t8, .int dt])), (t2, .inr (10, [.ref b1, .int (nI u)])), (b1, .inl (g.2.1 0, 300, .inl bf))]) C (c_Ta_hasRoomFor l g t2 b1 u 20 (by first | assumption | omega | exact nI_pos (by omega)) (by first | assumption | omega | exact nI_pos (by omega))) [1] [0, 2] [0, 2, 1] rfl (by decide) (by decide) rfl mo_Ta_hasRoomFor mv_Ta_hasRoomFor kw_443 (by decide) (rcX 1 rfl rfl) rfl (Nat.le_of_ble_eq_true rfl) ⟨Nat.le_of_ble_eq_true rfl, Nat.le_of_ble_eq_true rfl⟩ d_TL_feed_6 ?_
  refine g_if_ne C d_TL_feed_9 (fun c_1 => ?_) (fun c_1 => ?_)
  · have c_1 := zb_n0.mp c_1
    refine g_aload_n C 0 rfl d_TL_feed_14 ?_
    refine g_get C 0 rfl rfl in_TL 1 (by decide) kw_373 rfl d_TL_feed_15 ?_
    refine g_iload_n C 1 rfl d_TL_feed_18 ?_
    refine g_callVN0 (rest := []) (Xn := [(t, .inr (12, [.ref t1, .ref t2, .ref t3, .ref t4, .ref t5, .ref t6, .ref t7, .ref t8, .int dt])), (t2, .inr (10, [.ref b1, .int (nI (u + 4))])), (b1, .inl (g.2.1 0, 300, .inl (app4 bf u p0)))]) C (c_Ta_append l g t2 b1 u bf p0 (by first | assumption | omega | exact nI_pos (by omega))) [1, 2] [0] [0, 1, 2] rfl (by decide) (by decide) rfl mo_Ta_append mv_Ta_append kw_447 (by decide) (rcX 1 rfl rfl) rfl (Nat.le_of_ble_eq_true rfl) ⟨Nat.le_of_ble_eq_true rfl, Nat.le_of_ble_eq_true rfl⟩ d_TL_feed_19 ?_
    refine g_aload_n C 0 rfl d_TL_feed_22 ?_
    refine g_get C 0 rfl rfl in_TL 1 (by decide) kw_373 rfl d_TL_feed_23 ?_
    refine g_iload_n C 2 rfl d_TL_feed_26 ?_
    refine g_callVN0 (rest := []) (Xn := [(t, .inr (12, [.ref t1, .ref t2, .ref t3, .ref t4, .ref t5, .ref t6, .ref t7, .ref t8, .int dt])), (t2, .inr (10, [.ref b1, .int (nI ((u + 4) + 4))])), (b1, .inl (g.2.1 0, 300, .inl (app4 (app4 bf u p0) (u + 4) p1)))]) C (c_Ta_append l g t2 b1 (u + 4) (app4 bf u p0) p1 (by first | assumption | omega | exact nI_pos (by omega))) [1, 2] [0] [0, 1, 2] rfl (by decide) (by decide) rfl mo_Ta_append mv_Ta_append kw_447 (by decide) (rcX 1 rfl rfl) rfl (Nat.le_of_ble_eq_true rfl) ⟨Nat.le_of_ble_eq_true rfl, Nat.le_of_ble_eq_true rfl⟩ d_TL_feed_27 ?_
    refine g_aload_n C 0 rfl d_TL_feed_30 ?_
    refine g_get C 0 rfl rfl in_TL 1 (by decide) kw_373 rfl d_TL_feed_31 ?_
    refine g_iload_n C 3 rfl d_TL_feed_34 ?_
    refine g_callVN0 (rest := []) (Xn := [(t, .inr (12, [.ref t1, .ref t2, .ref t3, .ref t4, .ref t5, .ref t6, .ref t7, .ref t8, .int dt])), (t2, .inr (10, [.ref b1, .int (nI (((u + 4) + 4) + 4))])), (b1, .inl (g.2.1 0, 300, .inl (app4 (app4 (app4 bf u p0) (u + 4) p1) ((u + 4) + 4) p2)))]) C (c_Ta_append l g t2 b1 ((u + 4) + 4) (app4 (app4 bf u p0) (u + 4) p1) p2 (by first | assumption | omega | exact nI_pos (by omega))) [1, 2] [0] [0, 1, 2] rfl (by decide) (by decide) rfl mo_Ta_append mv_Ta_append kw_447 (by decide) (rcX 1 rfl rfl) rfl (Nat.le_of_ble_eq_true rfl) ⟨Nat.le_of_ble_eq_true rfl, Nat.le_of_ble_eq_true rfl⟩ d_TL_feed_35 ?_
    refine g_aload_n C 0 rfl d_TL_feed_38 ?_
    refine g_get C 0 rfl rfl in_TL 1 (by decide) kw_373 rfl d_TL_feed_39 ?_
    refine g_iload C 4 rfl d_TL_feed_42 ?_
    refine g_callVN0 (rest := []) (Xn := [(t, .inr (12, [.ref t1, .ref t2, .ref t3, .ref t4, .ref t5, .ref t6, .ref t7, .ref t8, .int dt])), (t2, .inr (10, [.ref b1, .int (nI ((((u + 4) + 4) + 4) + 4))])), (b1, .inl (g.2.1 0, 300, .inl (app4 (app4 (app4 (app4 bf u p0) (u + 4) p1) ((u + 4) + 4) p2) (((u + 4) + 4) + 4) p3)))]) C (c_Ta_append l g t2 b1 (((u + 4) + 4) + 4) (app4 (app4 (app4 bf u p0) (u + 4) p1) ((u + 4) + 4) p2) p3 (by first | assumption | omega | exact nI_pos (by omega))) [1, 2] [0] [0, 1, 2] rfl (by decide) (by decide) rfl mo_Ta_append mv_Ta_append kw_447 (by decide) (rcX 1 rfl rfl) rfl (Nat.le_of_ble_eq_true rfl) ⟨Nat.le_of_ble_eq_true rfl, Nat.le_of_ble_eq_true rfl⟩ d_TL_feed_44 ?_
    refine g_aload_n C 0 rfl d_TL_feed_47 ?_
    refine g_get C 0 rfl rfl in_TL 1 (by decide) kw_373 rfl d_TL_feed_48 ?_
    refine g_iload C 5 rfl d_TL_feed_51 ?_
    refine g_callVN0 (rest := []) (Xn := [(t, .inr (12, [.ref t1, .ref t2, .ref t3, .ref t4, .ref t5, .ref t6, .ref t7, .ref t8, .int dt])), (t2, .inr (10, [.ref b1, .int (nI (((((u + 4) + 4) + 4) + 4) + 4))])), (b1, .inl (g.2.1 0, 300, .inl (app4 (app4 (app4 (app4 (app4 bf u p0) (u + 4) p1) ((u + 4) + 4) p2) (((u + 4) + 4) + 4) p3) ((((u + 4) + 4) + 4) + 4) p4)))]) C (c_Ta_append l g t2 b1 ((((u + 4) + 4) + 4) + 4) (app4 (app4 (app4 (app4 bf u p0) (u + 4) p1) ((u + 4) + 4) p2) (((u + 4) + 4) + 4) p3) p4 (by first | assumption | omega | exact nI_pos (by omega))) [1, 2] [0] [0, 1, 2] rfl (by decide) (by decide) rfl mo_Ta_append mv_Ta_append kw_447 (by decide) (rcX 1 rfl rfl) rfl (Nat.le_of_ble_eq_true rfl) ⟨Nat.le_of_ble_eq_true rfl, Nat.le_of_ble_eq_true rfl⟩ d_TL_feed_53 ?_
    refine g_aload_n C 0 rfl d_TL_feed_56 ?_
    refine g_get C 0 rfl rfl in_TL 1 (by decide) kw_373 rfl d_TL_feed_57 ?_
    refine g_getN C 1 rfl rfl in_Ta 1 (by decide) kw_143 rfl d_TL_feed_60 ?_
    exact g_iret C rfl ⟨congrArg (fun z => some (Value.int z)) (by simp [Nat.add_assoc, c_1]), (by simp [Nat.add_assoc, c_1]), rfl⟩ (by decide) (by decide) d_TL_feed_63
  · have c_1 := zb_0.mp c_1
    refine g_iconst (v := (-1)) C rfl d_TL_feed_12 ?_
    exact g_iret C rfl ⟨congrArg (fun z => some (Value.int z)) (by simp [Nat.add_assoc, c_1]), (by simp [Nat.add_assoc, c_1]), rfl⟩ (by decide) (by decide) d_TL_feed_13

set_option maxHeartbeats 4000000 in
set_option maxRecDepth 100000 in
theorem c_TL_end (l : Launch) (g : Gx) (t t1 t2 t3 t4 t5 t6 t7 t8 b1 u : Nat) (dt : Int32) (p0 : Int32) : M0 l g y_TL_end b_TL_end 2 (some FieldType.int) ({ frames := 1, cells := 0, slots := 0, locals := 21 }) [.ref t, .int p0] [(t, .inr (12, [.ref t1, .ref t2, .ref t3, .ref t4, .ref t5, .ref t6, .ref t7, .ref t8, .int dt])), (t2, .inr (10, [.ref b1, .int (nI u)]))] (some (.int (if cutOk u p0 then p0 else (-1)))) [(t, .inr (12, [.ref t1, .ref t2, .ref t3, .ref t4, .ref t5, .ref t6, .ref t7, .ref t8, .int dt])), (t2, .inr (10, [.ref b1, .int (nI (cutT u p0))]))] := by
  refine MP.of (by decide) (Nat.le_of_ble_eq_true rfl) (fun κ C => ?_)
  have C : zC κ l g ({ frames := 1, cells := 0, slots := 0, locals := 21 }) b_TL_end 2 "TombLane" "end" (some FieldType.int) _ := C
  refine g_lv (lv1 := [(0, .ref t), (1, .int p0)]) [0, 1] rfl ?_
  refine g_aload_n C 0 rfl d_TL_end_0 ?_
  refine g_get C 0 rfl rfl in_TL 1 (by decide) kw_373 rfl d_TL_end_1 ?_
  refine g_iload_n C 1 rfl d_TL_end_4 ?_
  refine g_callVN0 (rest := []) (Xn := [(t, .inr (12, [.ref t1, .ref t2, .ref t3, .ref t4, .ref t5, .ref t6, .ref t7, .ref t8, .int dt])), (t2, .inr (10, [.ref b1, .int (nI (cutT u p0))]))]) C (c_Ta_cut l g t2 b1 u p0) [1] [0] [0, 1] rfl (by decide) (by decide) rfl mo_Ta_cut mv_Ta_cut kw_455 (by decide) (rcX 1 rfl rfl) rfl (Nat.le_of_ble_eq_true rfl) ⟨Nat.le_of_ble_eq_true rfl, Nat.le_of_ble_eq_true rfl⟩ d_TL_end_5 ?_
  refine g_if_eq C d_TL_end_8 (fun c_1 => ?_) (fun c_1 => ?_)
  · have c_1 := zb_0.mp c_1
    refine g_iconst (v := (-1)) C rfl d_TL_end_15 ?_
    exact g_iret C rfl ⟨congrArg (fun z => some (Value.int z)) (by simp [c_1]), rfl, rfl⟩ (by decide) (by decide) d_TL_end_16
  · have c_1 := zb_n0.mp c_1
    refine g_iload_n C 1 rfl d_TL_end_11 ?_
    refine g_goto C d_TL_end_12 ?_
    exact g_iret C rfl ⟨congrArg (fun z => some (Value.int z)) (by simp [c_1]), rfl, rfl⟩ (by decide) (by decide) d_TL_end_16

set_option maxHeartbeats 4000000 in
set_option maxRecDepth 100000 in
theorem c_TL_fault (l : Launch) (g : Gx) (t t1 t2 t3 t4 t5 t6 t7 t8 e1 e2 e3 : Nat) (dt fa pl ex ld nd : Int32) (p0 : Int32) : M0 l g y_TL_fault b_TL_fault 2 (some FieldType.int) ({ frames := 0, cells := 0, slots := 0, locals := 0 }) [.ref t, .int p0] [(t, .inr (12, [.ref t1, .ref t2, .ref t3, .ref t4, .ref t5, .ref t6, .ref t7, .ref t8, .int dt])), (t3, .inr (4, [.ref e1, .ref e2, .int fa, .int pl, .int ex, .int ld, .ref e3, .int nd]))] (some (.int (if p0 = 0 then fa else if p0 = 1 then pl else (-1)))) [(t, .inr (12, [.ref t1, .ref t2, .ref t3, .ref t4, .ref t5, .ref t6, .ref t7, .ref t8, .int dt])), (t3, .inr (4, [.ref e1, .ref e2, .int fa, .int pl, .int ex, .int ld, .ref e3, .int nd]))] := by
  refine MP.of (by decide) (Nat.le_of_ble_eq_true rfl) (fun κ C => ?_)
  have C : zC κ l g ({ frames := 0, cells := 0, slots := 0, locals := 0 }) b_TL_fault 2 "TombLane" "fault" (some FieldType.int) _ := C
  refine g_lv (lv1 := [(0, .ref t), (1, .int p0)]) [0, 1] rfl ?_
  refine g_iload_n C 1 rfl d_TL_fault_0 ?_
  refine g_if_ne C d_TL_fault_1 (fun c_1 => ?_) (fun c_1 => ?_)
  · skip
    refine g_iload_n C 1 rfl d_TL_fault_12 ?_
    refine g_iconst (v := 1) C rfl d_TL_fault_13 ?_
    refine g_icmp_ne C d_TL_fault_14 (fun c_2 => ?_) (fun c_2 => ?_)
    · skip
      refine g_iconst (v := (-1)) C rfl d_TL_fault_27 ?_
      exact g_iret C rfl ⟨congrArg (fun z => some (Value.int z)) (by simp [c_1, c_2]), rfl, rfl⟩ (by decide) (by decide) d_TL_fault_28
    · skip
      refine g_aload_n C 0 rfl d_TL_fault_17 ?_
      refine g_get C 0 rfl rfl in_TL 2 (by decide) kw_374 rfl d_TL_fault_18 ?_
      refine g_getN C 1 rfl rfl in_Re 3 (by decide) kw_214 rfl d_TL_fault_21 ?_
      refine g_goto C d_TL_fault_24 ?_
      exact g_iret C rfl ⟨congrArg (fun z => some (Value.int z)) (by simp [c_1, eq_true c_2]), rfl, rfl⟩ (by decide) (by decide) d_TL_fault_28
  · skip
    refine g_aload_n C 0 rfl d_TL_fault_4 ?_
    refine g_get C 0 rfl rfl in_TL 2 (by decide) kw_374 rfl d_TL_fault_5 ?_
    refine g_getN C 1 rfl rfl in_Re 2 (by decide) kw_212 rfl d_TL_fault_8 ?_
    exact g_iret C rfl ⟨congrArg (fun z => some (Value.int z)) (by simp [eq_true c_1]), rfl, rfl⟩ (by decide) (by decide) d_TL_fault_11

set_option maxHeartbeats 4000000 in
set_option maxRecDepth 100000 in
theorem c_TL_later (l : Launch) (g : Gx) (t t1 t2 t3 t4 t5 t6 t7 t8 : Nat) (dt : Int32) (p0 : Int32) : M0 l g y_TL_later b_TL_later 2 (some FieldType.int) ({ frames := 0, cells := 0, slots := 0, locals := 0 }) [.ref t, .int p0] [(t, .inr (12, [.ref t1, .ref t2, .ref t3, .ref t4, .ref t5, .ref t6, .ref t7, .ref t8, .int dt]))] (some (.int (if ltOk dt p0 then dt + p0 else (-1)))) [(t, .inr (12, [.ref t1, .ref t2, .ref t3, .ref t4, .ref t5, .ref t6, .ref t7, .ref t8, .int (if ltOk dt p0 then dt + p0 else dt)]))] := by
  refine MP.of (by decide) (Nat.le_of_ble_eq_true rfl) (fun κ C => ?_)
  have C : zC κ l g ({ frames := 0, cells := 0, slots := 0, locals := 0 }) b_TL_later 2 "TombLane" "later" (some FieldType.int) _ := C
  refine g_lv (lv1 := [(0, .ref t), (1, .int p0)]) [0, 1] rfl ?_
  refine g_iload_n C 1 rfl d_TL_later_0 ?_
  refine g_if_lt C d_TL_later_1 (fun c_1 => ?_) (fun c_1 => ?_)
  · skip
    refine g_iconst (v := (-1)) C rfl d_TL_later_22 ?_
    exact g_iret C rfl ⟨congrArg (fun z => some (Value.int z)) (by simp [ltOk, c_1, Int32.not_le.mpr c_1]), (by simp [ltOk, c_1, Int32.not_le.mpr c_1]), rfl⟩ (by decide) (by decide) d_TL_later_23
  · skip
    refine g_iload_n C 1 rfl d_TL_later_4 ?_
    refine g_sipush (v := 1000) C rfl d_TL_later_5 ?_
    refine g_icmp_gt C d_TL_later_8 (fun c_2 => ?_) (fun c_2 => ?_)
    · skip
      refine g_iconst (v := (-1)) C rfl d_TL_later_22 ?_
      exact g_iret C rfl ⟨congrArg (fun z => some (Value.int z)) (by simp [ltOk, c_1, Int32.not_lt.mp c_1, c_2, Int32.not_le.mpr c_2]), (by simp [ltOk, c_1, Int32.not_lt.mp c_1, c_2, Int32.not_le.mpr c_2]), rfl⟩ (by decide) (by decide) d_TL_later_23
    · skip
      refine g_aload_n C 0 rfl d_TL_later_11 ?_
      refine g_get C 0 rfl rfl in_TL 8 (by decide) kw_380 rfl d_TL_later_12 ?_
      refine g_iload_n C 1 rfl d_TL_later_15 ?_
      refine g_iadd C d_TL_later_16 ?_
      refine g_ldc C kw_696 d_TL_later_17 ?_
      refine g_icmp_le C d_TL_later_19 (fun c_3 => ?_) (fun c_3 => ?_)
      · skip
        refine g_aload_n C 0 rfl d_TL_later_24 ?_
        refine g_dup C rfl d_TL_later_25 ?_
        refine g_get C 0 rfl rfl in_TL 8 (by decide) kw_380 rfl d_TL_later_26 ?_
        refine g_iload_n C 1 rfl d_TL_later_29 ?_
        refine g_iadd C d_TL_later_30 ?_
        refine g_put (X1 := [(t, .inr (12, [.ref t1, .ref t2, .ref t3, .ref t4, .ref t5, .ref t6, .ref t7, .ref t8, .int (dt + p0)]))]) C 0 rfl rfl in_TL 8 (by decide) ok_TL nm_TL kw_380 rfl rfl rfl (Nat.le_of_ble_eq_true rfl) rfl d_TL_later_31 ?_
        refine g_aload_n C 0 rfl d_TL_later_34 ?_
        refine g_get C 0 rfl rfl in_TL 8 (by decide) kw_380 rfl d_TL_later_35 ?_
        exact g_iret C rfl ⟨congrArg (fun z => some (Value.int z)) (by simp [ltOk, c_1, Int32.not_lt.mp c_1, c_2, Int32.not_lt.mp c_2, c_3, Int32.not_lt.mpr c_3]), (by simp [ltOk, c_1, Int32.not_lt.mp c_1, c_2, Int32.not_lt.mp c_2, c_3, Int32.not_lt.mpr c_3]), rfl⟩ (by decide) (by decide) d_TL_later_38
      · skip
        refine g_iconst (v := (-1)) C rfl d_TL_later_22 ?_
        exact g_iret C rfl ⟨congrArg (fun z => some (Value.int z)) (by simp [ltOk, c_1, Int32.not_lt.mp c_1, c_2, Int32.not_lt.mp c_2, c_3, Int32.not_le.mp c_3]), (by simp [ltOk, c_1, Int32.not_lt.mp c_1, c_2, Int32.not_lt.mp c_2, c_3, Int32.not_le.mp c_3]), rfl⟩ (by decide) (by decide) d_TL_later_23

set_option maxHeartbeats 4000000 in
set_option maxRecDepth 100000 in
theorem c_TL_ration (l : Launch) (g : Gx) (t t1 t2 t3 t4 t5 t6 t7 t8 s1 s2 s3 s4 : Nat) (dt n : Int32) (sk : Nat → Int32) (p0 p1 : Int32) : M0 l g y_TL_ration b_TL_ration 3 (some FieldType.boolean) ({ frames := 1, cells := 0, slots := 0, locals := 22 }) [.ref t, .int p0, .int p1] [(t, .inr (12, [.ref t1, .ref t2, .ref t3, .ref t4, .ref t5, .ref t6, .ref t7, .ref t8, .int dt])), (t6, .inr (8, [.ref t1, .ref s1, .ref s2, .ref s3, .ref s4, .int n])), (s1, .inl (g.2.1 0, 4, .inl sk))] (some (.int (zb (inB p0 4 = true ∧ rg p1 0 100 = true)))) [(t, .inr (12, [.ref t1, .ref t2, .ref t3, .ref t4, .ref t5, .ref t6, .ref t7, .ref t8, .int dt])), (t6, .inr (8, [.ref t1, .ref s1, .ref s2, .ref s3, .ref s4, .int n])), (s1, .inl (g.2.1 0, 4, .inl (if inB p0 4 = true ∧ rg p1 0 100 = true then upd sk p0.toNatClampNeg p1 else sk)))] := by
  refine MP.of (by decide) (Nat.le_of_ble_eq_true rfl) (fun κ C => ?_)
  have C : zC κ l g ({ frames := 1, cells := 0, slots := 0, locals := 22 }) b_TL_ration 3 "TombLane" "ration" (some FieldType.boolean) _ := C
  refine g_lv (lv1 := [(0, .ref t), (1, .int p0), (2, .int p1)]) [0, 1, 2] rfl ?_
  refine g_iload_n C 1 rfl d_TL_ration_0 ?_
  refine g_iconst (v := 4) C rfl d_TL_ration_1 ?_
  refine g_callS0 (rest := []) (Xn := [(t, .inr (12, [.ref t1, .ref t2, .ref t3, .ref t4, .ref t5, .ref t6, .ref t7, .ref t8, .int dt])), (t6, .inr (8, [.ref t1, .ref s1, .ref s2, .ref s3, .ref s4, .int n])), (s1, .inl (g.2.1 0, 4, .inl sk))]) C (c_TL_isBelow l g p0 4) [] [0, 1, 2] [0, 1, 2] rfl (by decide) (by decide) rfl mo_TL_isBelow ms_TL_isBelow kw_404 (by decide) rfl (Nat.le_of_ble_eq_true rfl) ⟨Nat.le_of_ble_eq_true rfl, Nat.le_of_ble_eq_true rfl⟩ d_TL_ration_2 ?_
  refine g_if_eq C d_TL_ration_5 (fun c_1 => ?_) (fun c_1 => ?_)
  · have c_1 := zb_0.mp c_1
    refine g_iconst (v := 0) C rfl d_TL_ration_24 ?_
    exact g_zret C (Or.inl rfl) rfl ⟨congrArg (fun z => some (Value.int z)) (by simp [zb, c_1]), (by simp [zb, c_1]), rfl⟩ (by decide) (by decide) d_TL_ration_25
  · have c_1 := zb_n0.mp c_1
    refine g_aload_n C 0 rfl d_TL_ration_8 ?_
    refine g_get C 0 rfl rfl in_TL 5 (by decide) kw_377 rfl d_TL_ration_9 ?_
    refine g_iload_n C 1 rfl d_TL_ration_12 ?_
    refine g_iload_n C 2 rfl d_TL_ration_13 ?_
    refine g_callVN0 (rest := []) (Xn := [(t, .inr (12, [.ref t1, .ref t2, .ref t3, .ref t4, .ref t5, .ref t6, .ref t7, .ref t8, .int dt])), (t6, .inr (8, [.ref t1, .ref s1, .ref s2, .ref s3, .ref s4, .int n])), (s1, .inl (g.2.1 0, 4, .inl (if rg p1 0 100 then upd sk p0.toNatClampNeg p1 else sk)))]) C (c_Ra_setSacks l g t6 s1 s2 s3 s4 t1 n sk p0 p1 (inB_vp (n := 4) 4 c_1 (by decide) (by decide))) [1, 2] [0] [0, 1, 2] rfl (by decide) (by decide) rfl mo_Ra_setSacks mv_Ra_setSacks kw_775 (by decide) (rcX 1 rfl rfl) rfl (Nat.le_of_ble_eq_true rfl) ⟨Nat.le_of_ble_eq_true rfl, Nat.le_of_ble_eq_true rfl⟩ d_TL_ration_14 ?_
    refine g_if_eq C d_TL_ration_17 (fun c_2 => ?_) (fun c_2 => ?_)
    · have c_2 := zb_0.mp c_2
      refine g_iconst (v := 0) C rfl d_TL_ration_24 ?_
      exact g_zret C (Or.inl rfl) rfl ⟨congrArg (fun z => some (Value.int z)) (by simp [zb, c_1, c_2]), (by simp [zb, c_1, c_2]), rfl⟩ (by decide) (by decide) d_TL_ration_25
    · have c_2 := zb_n0.mp c_2
      refine g_iconst (v := 1) C rfl d_TL_ration_20 ?_
      refine g_goto C d_TL_ration_21 ?_
      exact g_zret C (Or.inr rfl) rfl ⟨congrArg (fun z => some (Value.int z)) (by simp [zb, c_1, c_2]), (by simp [zb, c_1, c_2]), rfl⟩ (by decide) (by decide) d_TL_ration_25

def comeC (n c : Nat) (m d x : Int32) : Bool := decide (inB m (nI n) = true ∧ inB d 3600 = true ∧ comeOk c x = true)
set_option maxHeartbeats 4000000 in
set_option maxRecDepth 100000 in
theorem c_TL_come (l : Launch) (g : Gx) (t t1 t2 t3 t4 t5 t6 t7 t8 m1 m2 m3 s1 s2 s3 s4 n c : Nat) (dt : Int32) (cm cd ck : Nat → Int32) (p0 p1 p2 : Int32) (hc : c ≤ 60) : M0 l g y_TL_come b_TL_come 4 (some FieldType.int) ({ frames := 2, cells := 0, slots := 0, locals := 42 }) [.ref t, .int p0, .int p1, .int p2] [(t, .inr (12, [.ref t1, .ref t2, .ref t3, .ref t4, .ref t5, .ref t6, .ref t7, .ref t8, .int dt])), (t1, .inr (7, [.ref m1, .ref m2, .ref m3, .int (nI n)])), (t6, .inr (8, [.ref t1, .ref s1, .ref s2, .ref s3, .ref s4, .int (nI c)])), (s2, .inl (g.2.1 0, 60, .inl cm)), (s3, .inl (g.2.1 0, 60, .inl cd)), (s4, .inl (g.2.1 0, 60, .inl ck))] (some (.int (if comeC n c p0 p1 p2 then nI (c + 1) else (-1)))) [(t, .inr (12, [.ref t1, .ref t2, .ref t3, .ref t4, .ref t5, .ref t6, .ref t7, .ref t8, .int dt])), (t1, .inr (7, [.ref m1, .ref m2, .ref m3, .int (nI n)])), (t6, .inr (8, [.ref t1, .ref s1, .ref s2, .ref s3, .ref s4, .int (nI (if comeC n c p0 p1 p2 then c + 1 else c))])), (s2, .inl (g.2.1 0, 60, .inl (if comeC n c p0 p1 p2 then upd cm c p0 else cm))), (s3, .inl (g.2.1 0, 60, .inl (if comeC n c p0 p1 p2 then upd cd c p1 else cd))), (s4, .inl (g.2.1 0, 60, .inl (if comeC n c p0 p1 p2 then upd ck c p2 else ck)))] := by
  refine MP.of (by decide) (Nat.le_of_ble_eq_true rfl) (fun κ C => ?_)
  have C : zC κ l g ({ frames := 2, cells := 0, slots := 0, locals := 42 }) b_TL_come 4 "TombLane" "come" (some FieldType.int) _ := C
  refine g_lv (lv1 := [(0, .ref t), (1, .int p0), (2, .int p1), (3, .int p2)]) [0, 1, 2, 3] rfl ?_
  refine g_aload_n C 0 rfl d_TL_come_0 ?_
  refine g_get C 0 rfl rfl in_TL 0 (by decide) kw_372 rfl d_TL_come_1 ?_
  refine g_iload_n C 1 rfl d_TL_come_4 ?_
  refine g_callVN0 (rest := []) (Xn := [(t, .inr (12, [.ref t1, .ref t2, .ref t3, .ref t4, .ref t5, .ref t6, .ref t7, .ref t8, .int dt])), (t1, .inr (7, [.ref m1, .ref m2, .ref m3, .int (nI n)])), (t6, .inr (8, [.ref t1, .ref s1, .ref s2, .ref s3, .ref s4, .int (nI c)])), (s2, .inl (g.2.1 0, 60, .inl cm)), (s3, .inl (g.2.1 0, 60, .inl cd)), (s4, .inl (g.2.1 0, 60, .inl ck))]) C (c_Me_has l g t1 m1 m2 m3 (nI n) p0) [1] [0, 2, 3, 4, 5] [0, 5, 1, 2, 3, 4] rfl (by decide) (by decide) rfl mo_Me_has mv_Me_has kw_701 (by decide) (rcX 1 rfl rfl) rfl (Nat.le_of_ble_eq_true rfl) ⟨Nat.le_of_ble_eq_true rfl, Nat.le_of_ble_eq_true rfl⟩ d_TL_come_5 ?_
  refine g_if_eq C d_TL_come_8 (fun c_1 => ?_) (fun c_1 => ?_)
  · have c_1 := zb_0.mp c_1
    refine g_iconst (v := (-1)) C rfl d_TL_come_21 ?_
    exact g_iret C rfl ⟨congrArg (fun z => some (Value.int z)) (by simp [comeC, c_1]), (by simp [comeC, c_1]), rfl⟩ (by decide) (by decide) d_TL_come_22
  · have c_1 := zb_n0.mp c_1
    refine g_iload_n C 2 rfl d_TL_come_11 ?_
    refine g_sipush (v := 3600) C rfl d_TL_come_12 ?_
    refine g_callS0 (rest := []) (Xn := [(t, .inr (12, [.ref t1, .ref t2, .ref t3, .ref t4, .ref t5, .ref t6, .ref t7, .ref t8, .int dt])), (t1, .inr (7, [.ref m1, .ref m2, .ref m3, .int (nI n)])), (t6, .inr (8, [.ref t1, .ref s1, .ref s2, .ref s3, .ref s4, .int (nI c)])), (s2, .inl (g.2.1 0, 60, .inl cm)), (s3, .inl (g.2.1 0, 60, .inl cd)), (s4, .inl (g.2.1 0, 60, .inl ck))]) C (c_TL_isBelow l g p1 3600) [] [0, 1, 2, 3, 4, 5] [0, 1, 2, 3, 4, 5] rfl (by decide) (by decide) rfl mo_TL_isBelow ms_TL_isBelow kw_404 (by decide) rfl (Nat.le_of_ble_eq_true rfl) ⟨Nat.le_of_ble_eq_true rfl, Nat.le_of_ble_eq_true rfl⟩ d_TL_come_15 ?_
    refine g_if_ne C d_TL_come_18 (fun c_2 => ?_) (fun c_2 => ?_)
    · have c_2 := zb_n0.mp c_2
      refine g_aload_n C 0 rfl d_TL_come_23 ?_
      refine g_get C 0 rfl rfl in_TL 5 (by decide) kw_377 rfl d_TL_come_24 ?_
      refine g_iload_n C 1 rfl d_TL_come_27 ?_
      refine g_iload_n C 2 rfl d_TL_come_28 ?_
      refine g_iload_n C 3 rfl d_TL_come_29 ?_
      refine g_callVN0 (rest := []) (Xn := [(t, .inr (12, [.ref t1, .ref t2, .ref t3, .ref t4, .ref t5, .ref t6, .ref t7, .ref t8, .int dt])), (t1, .inr (7, [.ref m1, .ref m2, .ref m3, .int (nI n)])), (t6, .inr (8, [.ref t1, .ref s1, .ref s2, .ref s3, .ref s4, .int (nI (if comeOk c p2 then c + 1 else c))])), (s2, .inl (g.2.1 0, 60, .inl (if comeOk c p2 then upd cm c p0 else cm))), (s3, .inl (g.2.1 0, 60, .inl (if comeOk c p2 then upd cd c p1 else cd))), (s4, .inl (g.2.1 0, 60, .inl (if comeOk c p2 then upd ck c p2 else ck)))]) C (c_Ra_take l g t6 s1 s2 s3 s4 t1 c cm cd ck p0 p1 p2 (by first | assumption | omega | exact nI_pos (by omega))) [2, 3, 4, 5] [0, 1] [0, 1, 2, 3, 4, 5] rfl (by decide) (by decide) rfl mo_Ra_take mv_Ra_take kw_783 (by decide) (rcX 2 rfl rfl) rfl (Nat.le_of_ble_eq_true rfl) ⟨Nat.le_of_ble_eq_true rfl, Nat.le_of_ble_eq_true rfl⟩ d_TL_come_30 ?_
      exact g_iret C rfl ⟨congrArg (fun z => some (Value.int z)) (by simp [comeC, c_1, c_2]), (by simp [comeC, c_1, c_2]), rfl⟩ (by decide) (by decide) d_TL_come_33
    · have c_2 := zb_0.mp c_2
      refine g_iconst (v := (-1)) C rfl d_TL_come_21 ?_
      exact g_iret C rfl ⟨congrArg (fun z => some (Value.int z)) (by simp [comeC, c_1, c_2]), (by simp [comeC, c_1, c_2]), rfl⟩ (by decide) (by decide) d_TL_come_22

set_option maxHeartbeats 4000000 in
set_option maxRecDepth 100000 in
theorem c_TL_arrears (l : Launch) (g : Gx) (t t1 t2 t3 t4 t5 t6 t7 t8 m1 m2 m3 s1 s2 s3 s4 n c : Nat) (dt : Int32) (rf sk cm cd ck : Nat → Int32) (p0 p1 : Int32) (hn : n ≤ 12) (hc : c ≤ 60) (hr : ∀ i, i < n → vp_in (rf i) 4) : M0 l g y_TL_arrears b_TL_arrears 3 (some FieldType.int) ({ frames := 2, cells := 0, slots := 0, locals := 42 }) [.ref t, .int p0, .int p1] [(t, .inr (12, [.ref t1, .ref t2, .ref t3, .ref t4, .ref t5, .ref t6, .ref t7, .ref t8, .int dt])), (t1, .inr (7, [.ref m1, .ref m2, .ref m3, .int (nI n)])), (m3, .inl (g.2.1 0, 12, .inl rf)), (t6, .inr (8, [.ref t1, .ref s1, .ref s2, .ref s3, .ref s4, .int (nI c)])), (s1, .inl (g.2.1 0, 4, .inl sk)), (s2, .inl (g.2.1 0, 60, .inl cm)), (s3, .inl (g.2.1 0, 60, .inl cd)), (s4, .inl (g.2.1 0, 60, .inl ck))] (some (.int (if inB p0 (nI n) = true ∧ inB p1 3600 = true then owe cm cd ck p0 p1 c 0 ((p1 + 1) / 30 * sk (rf p0.toNatClampNeg).toNatClampNeg) else (-1000000)))) [(t, .inr (12, [.ref t1, .ref t2, .ref t3, .ref t4, .ref t5, .ref t6, .ref t7, .ref t8, .int dt])), (t1, .inr (7, [.ref m1, .ref m2, .ref m3, .int (nI n)])), (m3, .inl (g.2.1 0, 12, .inl rf)), (t6, .inr (8, [.ref t1, .ref s1, .ref s2, .ref s3, .ref s4, .int (nI c)])), (s1, .inl (g.2.1 0, 4, .inl sk)), (s2, .inl (g.2.1 0, 60, .inl cm)), (s3, .inl (g.2.1 0, 60, .inl cd)), (s4, .inl (g.2.1 0, 60, .inl ck))] := by
  refine MP.of (by decide) (Nat.le_of_ble_eq_true rfl) (fun κ C => ?_)
  have C : zC κ l g ({ frames := 2, cells := 0, slots := 0, locals := 42 }) b_TL_arrears 3 "TombLane" "arrears" (some FieldType.int) _ := C
  refine g_lv (lv1 := [(0, .ref t), (1, .int p0), (2, .int p1)]) [0, 1, 2] rfl ?_
  refine g_aload_n C 0 rfl d_TL_arrears_0 ?_
  refine g_get C 0 rfl rfl in_TL 0 (by decide) kw_372 rfl d_TL_arrears_1 ?_
  refine g_iload_n C 1 rfl d_TL_arrears_4 ?_
  refine g_callVN0 (rest := []) (Xn := [(t, .inr (12, [.ref t1, .ref t2, .ref t3, .ref t4, .ref t5, .ref t6, .ref t7, .ref t8, .int dt])), (t1, .inr (7, [.ref m1, .ref m2, .ref m3, .int (nI n)])), (m3, .inl (g.2.1 0, 12, .inl rf)), (t6, .inr (8, [.ref t1, .ref s1, .ref s2, .ref s3, .ref s4, .int (nI c)])), (s1, .inl (g.2.1 0, 4, .inl sk)), (s2, .inl (g.2.1 0, 60, .inl cm)), (s3, .inl (g.2.1 0, 60, .inl cd)), (s4, .inl (g.2.1 0, 60, .inl ck))]) C (c_Me_has l g t1 m1 m2 m3 (nI n) p0) [1] [0, 2, 3, 4, 5, 6, 7] [0, 7, 1, 2, 3, 4, 5, 6] rfl (by decide) (by decide) rfl mo_Me_has mv_Me_has kw_701 (by decide) (rcX 1 rfl rfl) rfl (Nat.le_of_ble_eq_true rfl) ⟨Nat.le_of_ble_eq_true rfl, Nat.le_of_ble_eq_true rfl⟩ d_TL_arrears_5 ?_
  refine g_if_eq C d_TL_arrears_8 (fun c_1 => ?_) (fun c_1 => ?_)
  · have c_1 := zb_0.mp c_1
    refine g_ldc C kw_791 d_TL_arrears_21 ?_
    exact g_iret C rfl ⟨congrArg (fun z => some (Value.int z)) (by simp [c_1]), rfl, rfl⟩ (by decide) (by decide) d_TL_arrears_23
  · have c_1 := zb_n0.mp c_1
    refine g_iload_n C 2 rfl d_TL_arrears_11 ?_
    refine g_sipush (v := 3600) C rfl d_TL_arrears_12 ?_
    refine g_callS0 (rest := []) (Xn := [(t, .inr (12, [.ref t1, .ref t2, .ref t3, .ref t4, .ref t5, .ref t6, .ref t7, .ref t8, .int dt])), (t1, .inr (7, [.ref m1, .ref m2, .ref m3, .int (nI n)])), (m3, .inl (g.2.1 0, 12, .inl rf)), (t6, .inr (8, [.ref t1, .ref s1, .ref s2, .ref s3, .ref s4, .int (nI c)])), (s1, .inl (g.2.1 0, 4, .inl sk)), (s2, .inl (g.2.1 0, 60, .inl cm)), (s3, .inl (g.2.1 0, 60, .inl cd)), (s4, .inl (g.2.1 0, 60, .inl ck))]) C (c_TL_isBelow l g p1 3600) [] [0, 1, 2, 3, 4, 5, 6, 7] [0, 1, 2, 3, 4, 5, 6, 7] rfl (by decide) (by decide) rfl mo_TL_isBelow ms_TL_isBelow kw_404 (by decide) rfl (Nat.le_of_ble_eq_true rfl) ⟨Nat.le_of_ble_eq_true rfl, Nat.le_of_ble_eq_true rfl⟩ d_TL_arrears_15 ?_
    refine g_if_ne C d_TL_arrears_18 (fun c_2 => ?_) (fun c_2 => ?_)
    · have c_2 := zb_n0.mp c_2
      refine g_aload_n C 0 rfl d_TL_arrears_24 ?_
      refine g_get C 0 rfl rfl in_TL 5 (by decide) kw_377 rfl d_TL_arrears_25 ?_
      refine g_iload_n C 1 rfl d_TL_arrears_28 ?_
      refine g_iload_n C 2 rfl d_TL_arrears_29 ?_
      refine g_callVN0 (rest := []) (Xn := [(t, .inr (12, [.ref t1, .ref t2, .ref t3, .ref t4, .ref t5, .ref t6, .ref t7, .ref t8, .int dt])), (t1, .inr (7, [.ref m1, .ref m2, .ref m3, .int (nI n)])), (m3, .inl (g.2.1 0, 12, .inl rf)), (t6, .inr (8, [.ref t1, .ref s1, .ref s2, .ref s3, .ref s4, .int (nI c)])), (s1, .inl (g.2.1 0, 4, .inl sk)), (s2, .inl (g.2.1 0, 60, .inl cm)), (s3, .inl (g.2.1 0, 60, .inl cd)), (s4, .inl (g.2.1 0, 60, .inl ck))]) C (c_Ra_owedTo l g t6 s1 s2 s3 s4 t1 m1 m2 m3 c (nI n) sk cm cd ck rf p0 p1 hc (inB_vp 12 c_1 hn (by decide)) (inB_ix hr hn c_1)) [3, 4, 5, 6, 7, 1, 2] [0] [0, 6, 7, 1, 2, 3, 4, 5] rfl (by decide) (by decide) rfl mo_Ra_owedTo mv_Ra_owedTo kw_792 (by decide) (rcX 3 rfl rfl) rfl (Nat.le_of_ble_eq_true rfl) ⟨Nat.le_of_ble_eq_true rfl, Nat.le_of_ble_eq_true rfl⟩ d_TL_arrears_30 ?_
      exact g_iret C rfl ⟨congrArg (fun z => some (Value.int z)) (by simp [c_1, c_2]), rfl, rfl⟩ (by decide) (by decide) d_TL_arrears_33
    · have c_2 := zb_0.mp c_2
      refine g_ldc C kw_791 d_TL_arrears_21 ?_
      exact g_iret C rfl ⟨congrArg (fun z => some (Value.int z)) (by simp [c_1, c_2]), rfl, rfl⟩ (by decide) (by decide) d_TL_arrears_23

theorem w50C {a b : Int32} (h1 : inB a 5 = true) (h2 : inB b 10 = true) : vp_in (a * 10 + b) 50 := by
  obtain ⟨i, hi, rfl⟩ := (inB_iff (n := 5) (by decide)).mp h1
  obtain ⟨j, hj, rfl⟩ := (inB_iff (n := 10) (by decide)).mp h2
  have e : nI i * (10 : Int32) + nI j = nI (i * 10 + j) := by rw [show (10 : Int32) = nI 10 from rfl, pk_mul, nI_add]
  rw [e]
  exact vp_in_nI (by omega) (by decide)
set_option maxHeartbeats 4000000 in
set_option maxRecDepth 100000 in
theorem c_TL_worth (l : Launch) (g : Gx) (t t1 t2 t3 t4 t5 t6 t7 t8 d1 d2 d3 d4 d5 d6 d7 d8 : Nat) (dt n : Int32) (wf : Nat → Int32) (p0 p1 p2 : Int32) : M0 l g y_TL_worth b_TL_worth 4 (some FieldType.boolean) ({ frames := 1, cells := 0, slots := 0, locals := 23 }) [.ref t, .int p0, .int p1, .int p2] [(t, .inr (12, [.ref t1, .ref t2, .ref t3, .ref t4, .ref t5, .ref t6, .ref t7, .ref t8, .int dt])), (t7, .inr (2, [.ref d1, .ref d2, .ref d3, .ref d4, .ref d5, .ref d6, .int n, .ref d7, .ref d8])), (d7, .inl (g.2.1 0, 50, .inl wf))] (some (.int (zb (inB p0 5 = true ∧ inB p1 10 = true ∧ rg p2 0 1000 = true)))) [(t, .inr (12, [.ref t1, .ref t2, .ref t3, .ref t4, .ref t5, .ref t6, .ref t7, .ref t8, .int dt])), (t7, .inr (2, [.ref d1, .ref d2, .ref d3, .ref d4, .ref d5, .ref d6, .int n, .ref d7, .ref d8])), (d7, .inl (g.2.1 0, 50, .inl (if inB p0 5 = true ∧ inB p1 10 = true ∧ rg p2 0 1000 = true then upd wf (p0 * 10 + p1).toNatClampNeg p2 else wf)))] := by
  refine MP.of (by decide) (Nat.le_of_ble_eq_true rfl) (fun κ C => ?_)
  have C : zC κ l g ({ frames := 1, cells := 0, slots := 0, locals := 23 }) b_TL_worth 4 "TombLane" "worth" (some FieldType.boolean) _ := C
  refine g_lv (lv1 := [(0, .ref t), (1, .int p0), (2, .int p1), (3, .int p2)]) [0, 1, 2, 3] rfl ?_
  refine g_iload_n C 1 rfl d_TL_worth_0 ?_
  refine g_iconst (v := 5) C rfl d_TL_worth_1 ?_
  refine g_callS0 (rest := []) (Xn := [(t, .inr (12, [.ref t1, .ref t2, .ref t3, .ref t4, .ref t5, .ref t6, .ref t7, .ref t8, .int dt])), (t7, .inr (2, [.ref d1, .ref d2, .ref d3, .ref d4, .ref d5, .ref d6, .int n, .ref d7, .ref d8])), (d7, .inl (g.2.1 0, 50, .inl wf))]) C (c_TL_isBelow l g p0 5) [] [0, 1, 2] [0, 1, 2] rfl (by decide) (by decide) rfl mo_TL_isBelow ms_TL_isBelow kw_404 (by decide) rfl (Nat.le_of_ble_eq_true rfl) ⟨Nat.le_of_ble_eq_true rfl, Nat.le_of_ble_eq_true rfl⟩ d_TL_worth_2 ?_
  refine g_if_eq C d_TL_worth_5 (fun c_1 => ?_) (fun c_1 => ?_)
  · have c_1 := zb_0.mp c_1
    refine g_iconst (v := 0) C rfl d_TL_worth_34 ?_
    exact g_zret C (Or.inl rfl) rfl ⟨congrArg (fun z => some (Value.int z)) (by simp [zb, c_1]), (by simp [zb, c_1]), rfl⟩ (by decide) (by decide) d_TL_worth_35
  · have c_1 := zb_n0.mp c_1
    refine g_iload_n C 2 rfl d_TL_worth_8 ?_
    refine g_bipush (v := 10) C rfl d_TL_worth_9 ?_
    refine g_callS0 (rest := []) (Xn := [(t, .inr (12, [.ref t1, .ref t2, .ref t3, .ref t4, .ref t5, .ref t6, .ref t7, .ref t8, .int dt])), (t7, .inr (2, [.ref d1, .ref d2, .ref d3, .ref d4, .ref d5, .ref d6, .int n, .ref d7, .ref d8])), (d7, .inl (g.2.1 0, 50, .inl wf))]) C (c_TL_isBelow l g p1 10) [] [0, 1, 2] [0, 1, 2] rfl (by decide) (by decide) rfl mo_TL_isBelow ms_TL_isBelow kw_404 (by decide) rfl (Nat.le_of_ble_eq_true rfl) ⟨Nat.le_of_ble_eq_true rfl, Nat.le_of_ble_eq_true rfl⟩ d_TL_worth_11 ?_
    refine g_if_eq C d_TL_worth_14 (fun c_2 => ?_) (fun c_2 => ?_)
    · have c_2 := zb_0.mp c_2
      refine g_iconst (v := 0) C rfl d_TL_worth_34 ?_
      exact g_zret C (Or.inl rfl) rfl ⟨congrArg (fun z => some (Value.int z)) (by simp [zb, c_1, c_2]), (by simp [zb, c_1, c_2]), rfl⟩ (by decide) (by decide) d_TL_worth_35
    · have c_2 := zb_n0.mp c_2
      refine g_aload_n C 0 rfl d_TL_worth_17 ?_
      refine g_get C 0 rfl rfl in_TL 6 (by decide) kw_378 rfl d_TL_worth_18 ?_
      refine g_iload_n C 1 rfl d_TL_worth_21 ?_
      refine g_iload_n C 2 rfl d_TL_worth_22 ?_
      refine g_iload_n C 3 rfl d_TL_worth_23 ?_
      refine g_callVN0 (rest := []) (Xn := [(t, .inr (12, [.ref t1, .ref t2, .ref t3, .ref t4, .ref t5, .ref t6, .ref t7, .ref t8, .int dt])), (t7, .inr (2, [.ref d1, .ref d2, .ref d3, .ref d4, .ref d5, .ref d6, .int n, .ref d7, .ref d8])), (d7, .inl (g.2.1 0, 50, .inl (if rg p2 0 1000 then upd wf (p0 * 10 + p1).toNatClampNeg p2 else wf)))]) C (c_De_setWorth l g t7 d1 d2 d3 d4 d5 d6 d7 d8 n wf p0 p1 p2 (w50C c_1 c_2)) [1, 2] [0] [0, 1, 2] rfl (by decide) (by decide) rfl mo_De_setWorth mv_De_setWorth kw_800 (by decide) (rcX 1 rfl rfl) rfl (Nat.le_of_ble_eq_true rfl) ⟨Nat.le_of_ble_eq_true rfl, Nat.le_of_ble_eq_true rfl⟩ d_TL_worth_24 ?_
      refine g_if_eq C d_TL_worth_27 (fun c_3 => ?_) (fun c_3 => ?_)
      · have c_3 := zb_0.mp c_3
        refine g_iconst (v := 0) C rfl d_TL_worth_34 ?_
        exact g_zret C (Or.inl rfl) rfl ⟨congrArg (fun z => some (Value.int z)) (by simp [zb, c_1, c_2, c_3]), (by simp [zb, c_1, c_2, c_3]), rfl⟩ (by decide) (by decide) d_TL_worth_35
      · have c_3 := zb_n0.mp c_3
        refine g_iconst (v := 1) C rfl d_TL_worth_30 ?_
        refine g_goto C d_TL_worth_31 ?_
        exact g_zret C (Or.inr rfl) rfl ⟨congrArg (fun z => some (Value.int z)) (by simp [zb, c_1, c_2, c_3]), (by simp [zb, c_1, c_2, c_3]), rfl⟩ (by decide) (by decide) d_TL_worth_35

def dbtC (n c : Nat) (by1 to1 gd my dy : Int32) : Bool := decide (inB by1 (nI n) = true ∧ inB to1 (nI n) = true ∧ ¬ by1 = to1 ∧ inB gd 5 = true ∧ inB dy 3600 = true ∧ debtOk c my = true)
set_option maxHeartbeats 4000000 in
set_option maxRecDepth 100000 in
theorem c_TL_debt (l : Launch) (g : Gx) (t t1 t2 t3 t4 t5 t6 t7 t8 m1 m2 m3 d1 d2 d3 d4 d5 d6 d7 d8 n c : Nat) (dt : Int32) (bf tf gf mf ff pf : Nat → Int32) (p0 p1 p2 p3 p4 : Int32) (hc : c ≤ 60) : M0 l g y_TL_debt b_TL_debt 6 (some FieldType.int) ({ frames := 2, cells := 0, slots := 0, locals := 42 }) [.ref t, .int p0, .int p1, .int p2, .int p3, .int p4] [(t, .inr (12, [.ref t1, .ref t2, .ref t3, .ref t4, .ref t5, .ref t6, .ref t7, .ref t8, .int dt])), (t1, .inr (7, [.ref m1, .ref m2, .ref m3, .int (nI n)])), (t7, .inr (2, [.ref d1, .ref d2, .ref d3, .ref d4, .ref d5, .ref d6, .int (nI c), .ref d7, .ref d8])), (d1, .inl (g.2.1 0, 60, .inl bf)), (d2, .inl (g.2.1 0, 60, .inl tf)), (d3, .inl (g.2.1 0, 60, .inl gf)), (d4, .inl (g.2.1 0, 60, .inl mf)), (d5, .inl (g.2.1 0, 60, .inl ff)), (d6, .inl (g.2.1 0, 60, .inl pf))] (some (.int (if dbtC n c p0 p1 p2 p3 p4 then nI c else (-1)))) [(t, .inr (12, [.ref t1, .ref t2, .ref t3, .ref t4, .ref t5, .ref t6, .ref t7, .ref t8, .int dt])), (t1, .inr (7, [.ref m1, .ref m2, .ref m3, .int (nI n)])), (t7, .inr (2, [.ref d1, .ref d2, .ref d3, .ref d4, .ref d5, .ref d6, .int (nI (if dbtC n c p0 p1 p2 p3 p4 then c + 1 else c)), .ref d7, .ref d8])), (d1, .inl (g.2.1 0, 60, .inl (if dbtC n c p0 p1 p2 p3 p4 then upd bf c p0 else bf))), (d2, .inl (g.2.1 0, 60, .inl (if dbtC n c p0 p1 p2 p3 p4 then upd tf c p1 else tf))), (d3, .inl (g.2.1 0, 60, .inl (if dbtC n c p0 p1 p2 p3 p4 then upd gf c p2 else gf))), (d4, .inl (g.2.1 0, 60, .inl (if dbtC n c p0 p1 p2 p3 p4 then upd mf c p3 else mf))), (d5, .inl (g.2.1 0, 60, .inl (if dbtC n c p0 p1 p2 p3 p4 then upd ff c p4 else ff))), (d6, .inl (g.2.1 0, 60, .inl (if dbtC n c p0 p1 p2 p3 p4 then upd pf c 3600 else pf)))] := by
  refine MP.of (by decide) (Nat.le_of_ble_eq_true rfl) (fun κ C => ?_)
  have C : zC κ l g ({ frames := 2, cells := 0, slots := 0, locals := 42 }) b_TL_debt 6 "TombLane" "debt" (some FieldType.int) _ := C
  refine g_lv (lv1 := [(0, .ref t), (1, .int p0), (2, .int p1), (3, .int p2), (4, .int p3), (5, .int p4)]) [0, 1, 2, 3, 4, 5] rfl ?_
  refine g_aload_n C 0 rfl d_TL_debt_0 ?_
  refine g_get C 0 rfl rfl in_TL 0 (by decide) kw_372 rfl d_TL_debt_1 ?_
  refine g_iload_n C 1 rfl d_TL_debt_4 ?_
  refine g_callVN0 (rest := []) (Xn := [(t, .inr (12, [.ref t1, .ref t2, .ref t3, .ref t4, .ref t5, .ref t6, .ref t7, .ref t8, .int dt])), (t1, .inr (7, [.ref m1, .ref m2, .ref m3, .int (nI n)])), (t7, .inr (2, [.ref d1, .ref d2, .ref d3, .ref d4, .ref d5, .ref d6, .int (nI c), .ref d7, .ref d8])), (d1, .inl (g.2.1 0, 60, .inl bf)), (d2, .inl (g.2.1 0, 60, .inl tf)), (d3, .inl (g.2.1 0, 60, .inl gf)), (d4, .inl (g.2.1 0, 60, .inl mf)), (d5, .inl (g.2.1 0, 60, .inl ff)), (d6, .inl (g.2.1 0, 60, .inl pf))]) C (c_Me_has l g t1 m1 m2 m3 (nI n) p0) [1] [0, 2, 3, 4, 5, 6, 7, 8] [0, 8, 1, 2, 3, 4, 5, 6, 7] rfl (by decide) (by decide) rfl mo_Me_has mv_Me_has kw_701 (by decide) (rcX 1 rfl rfl) rfl (Nat.le_of_ble_eq_true rfl) ⟨Nat.le_of_ble_eq_true rfl, Nat.le_of_ble_eq_true rfl⟩ d_TL_debt_5 ?_
  refine g_if_eq C d_TL_debt_8 (fun c_1 => ?_) (fun c_1 => ?_)
  · have c_1 := zb_0.mp c_1
    refine g_iconst (v := (-1)) C rfl d_TL_debt_46 ?_
    exact g_iret C rfl ⟨congrArg (fun z => some (Value.int z)) (by simp [dbtC, c_1]), (by simp [dbtC, c_1]), rfl⟩ (by decide) (by decide) d_TL_debt_47
  · have c_1 := zb_n0.mp c_1
    refine g_aload_n C 0 rfl d_TL_debt_11 ?_
    refine g_get C 0 rfl rfl in_TL 0 (by decide) kw_372 rfl d_TL_debt_12 ?_
    refine g_iload_n C 2 rfl d_TL_debt_15 ?_
    refine g_callVN0 (rest := []) (Xn := [(t, .inr (12, [.ref t1, .ref t2, .ref t3, .ref t4, .ref t5, .ref t6, .ref t7, .ref t8, .int dt])), (t1, .inr (7, [.ref m1, .ref m2, .ref m3, .int (nI n)])), (t7, .inr (2, [.ref d1, .ref d2, .ref d3, .ref d4, .ref d5, .ref d6, .int (nI c), .ref d7, .ref d8])), (d1, .inl (g.2.1 0, 60, .inl bf)), (d2, .inl (g.2.1 0, 60, .inl tf)), (d3, .inl (g.2.1 0, 60, .inl gf)), (d4, .inl (g.2.1 0, 60, .inl mf)), (d5, .inl (g.2.1 0, 60, .inl ff)), (d6, .inl (g.2.1 0, 60, .inl pf))]) C (c_Me_has l g t1 m1 m2 m3 (nI n) p1) [1] [0, 2, 3, 4, 5, 6, 7, 8] [0, 8, 1, 2, 3, 4, 5, 6, 7] rfl (by decide) (by decide) rfl mo_Me_has mv_Me_has kw_701 (by decide) (rcX 1 rfl rfl) rfl (Nat.le_of_ble_eq_true rfl) ⟨Nat.le_of_ble_eq_true rfl, Nat.le_of_ble_eq_true rfl⟩ d_TL_debt_16 ?_
    refine g_if_eq C d_TL_debt_19 (fun c_2 => ?_) (fun c_2 => ?_)
    · have c_2 := zb_0.mp c_2
      refine g_iconst (v := (-1)) C rfl d_TL_debt_46 ?_
      exact g_iret C rfl ⟨congrArg (fun z => some (Value.int z)) (by simp [dbtC, c_1, c_2]), (by simp [dbtC, c_1, c_2]), rfl⟩ (by decide) (by decide) d_TL_debt_47
    · have c_2 := zb_n0.mp c_2
      refine g_iload_n C 1 rfl d_TL_debt_22 ?_
      refine g_iload_n C 2 rfl d_TL_debt_23 ?_
      refine g_icmp_eq C d_TL_debt_24 (fun c_3 => ?_) (fun c_3 => ?_)
      · skip
        refine g_iconst (v := (-1)) C rfl d_TL_debt_46 ?_
        exact g_iret C rfl ⟨congrArg (fun z => some (Value.int z)) (by simp [dbtC, c_1, c_2, eq_true c_3]), (by simp [dbtC, c_1, c_2, eq_true c_3]), rfl⟩ (by decide) (by decide) d_TL_debt_47
      · skip
        refine g_iload_n C 3 rfl d_TL_debt_27 ?_
        refine g_iconst (v := 5) C rfl d_TL_debt_28 ?_
        refine g_callS0 (rest := []) (Xn := [(t, .inr (12, [.ref t1, .ref t2, .ref t3, .ref t4, .ref t5, .ref t6, .ref t7, .ref t8, .int dt])), (t1, .inr (7, [.ref m1, .ref m2, .ref m3, .int (nI n)])), (t7, .inr (2, [.ref d1, .ref d2, .ref d3, .ref d4, .ref d5, .ref d6, .int (nI c), .ref d7, .ref d8])), (d1, .inl (g.2.1 0, 60, .inl bf)), (d2, .inl (g.2.1 0, 60, .inl tf)), (d3, .inl (g.2.1 0, 60, .inl gf)), (d4, .inl (g.2.1 0, 60, .inl mf)), (d5, .inl (g.2.1 0, 60, .inl ff)), (d6, .inl (g.2.1 0, 60, .inl pf))]) C (c_TL_isBelow l g p2 5) [] [0, 1, 2, 3, 4, 5, 6, 7, 8] [0, 1, 2, 3, 4, 5, 6, 7, 8] rfl (by decide) (by decide) rfl mo_TL_isBelow ms_TL_isBelow kw_404 (by decide) rfl (Nat.le_of_ble_eq_true rfl) ⟨Nat.le_of_ble_eq_true rfl, Nat.le_of_ble_eq_true rfl⟩ d_TL_debt_29 ?_
        refine g_if_eq C d_TL_debt_32 (fun c_4 => ?_) (fun c_4 => ?_)
        · have c_4 := zb_0.mp c_4
          refine g_iconst (v := (-1)) C rfl d_TL_debt_46 ?_
          exact g_iret C rfl ⟨congrArg (fun z => some (Value.int z)) (by simp [dbtC, c_1, c_2, c_3, c_4]), (by simp [dbtC, c_1, c_2, c_3, c_4]), rfl⟩ (by decide) (by decide) d_TL_debt_47
        · have c_4 := zb_n0.mp c_4
          refine g_iload C 5 rfl d_TL_debt_35 ?_
          refine g_sipush (v := 3600) C rfl d_TL_debt_37 ?_
          refine g_callS0 (rest := []) (Xn := [(t, .inr (12, [.ref t1, .ref t2, .ref t3, .ref t4, .ref t5, .ref t6, .ref t7, .ref t8, .int dt])), (t1, .inr (7, [.ref m1, .ref m2, .ref m3, .int (nI n)])), (t7, .inr (2, [.ref d1, .ref d2, .ref d3, .ref d4, .ref d5, .ref d6, .int (nI c), .ref d7, .ref d8])), (d1, .inl (g.2.1 0, 60, .inl bf)), (d2, .inl (g.2.1 0, 60, .inl tf)), (d3, .inl (g.2.1 0, 60, .inl gf)), (d4, .inl (g.2.1 0, 60, .inl mf)), (d5, .inl (g.2.1 0, 60, .inl ff)), (d6, .inl (g.2.1 0, 60, .inl pf))]) C (c_TL_isBelow l g p4 3600) [] [0, 1, 2, 3, 4, 5, 6, 7, 8] [0, 1, 2, 3, 4, 5, 6, 7, 8] rfl (by decide) (by decide) rfl mo_TL_isBelow ms_TL_isBelow kw_404 (by decide) rfl (Nat.le_of_ble_eq_true rfl) ⟨Nat.le_of_ble_eq_true rfl, Nat.le_of_ble_eq_true rfl⟩ d_TL_debt_40 ?_
          refine g_if_ne C d_TL_debt_43 (fun c_5 => ?_) (fun c_5 => ?_)
          · have c_5 := zb_n0.mp c_5
            refine g_aload_n C 0 rfl d_TL_debt_48 ?_
            refine g_get C 0 rfl rfl in_TL 6 (by decide) kw_378 rfl d_TL_debt_49 ?_
            refine g_iload_n C 1 rfl d_TL_debt_52 ?_
            refine g_iload_n C 2 rfl d_TL_debt_53 ?_
            refine g_iload_n C 3 rfl d_TL_debt_54 ?_
            refine g_iload C 4 rfl d_TL_debt_55 ?_
            refine g_iload C 5 rfl d_TL_debt_57 ?_
            refine g_callVN0 (rest := []) (Xn := [(t, .inr (12, [.ref t1, .ref t2, .ref t3, .ref t4, .ref t5, .ref t6, .ref t7, .ref t8, .int dt])), (t1, .inr (7, [.ref m1, .ref m2, .ref m3, .int (nI n)])), (t7, .inr (2, [.ref d1, .ref d2, .ref d3, .ref d4, .ref d5, .ref d6, .int (nI (if debtOk c p3 then c + 1 else c)), .ref d7, .ref d8])), (d1, .inl (g.2.1 0, 60, .inl (if debtOk c p3 then upd bf c p0 else bf))), (d2, .inl (g.2.1 0, 60, .inl (if debtOk c p3 then upd tf c p1 else tf))), (d3, .inl (g.2.1 0, 60, .inl (if debtOk c p3 then upd gf c p2 else gf))), (d4, .inl (g.2.1 0, 60, .inl (if debtOk c p3 then upd mf c p3 else mf))), (d5, .inl (g.2.1 0, 60, .inl (if debtOk c p3 then upd ff c p4 else ff))), (d6, .inl (g.2.1 0, 60, .inl (if debtOk c p3 then upd pf c 3600 else pf)))]) C (c_De_add l g t7 d1 d2 d3 d4 d5 d6 d7 d8 c bf tf gf mf ff pf p0 p1 p2 p3 p4 (by first | assumption | omega | exact nI_pos (by omega))) [2, 3, 4, 5, 6, 7, 8] [0, 1] [0, 1, 2, 3, 4, 5, 6, 7, 8] rfl (by decide) (by decide) rfl mo_De_add mv_De_add kw_808 (by decide) (rcX 2 rfl rfl) rfl (Nat.le_of_ble_eq_true rfl) ⟨Nat.le_of_ble_eq_true rfl, Nat.le_of_ble_eq_true rfl⟩ d_TL_debt_59 ?_
            exact g_iret C rfl ⟨congrArg (fun z => some (Value.int z)) (by simp [dbtC, c_1, c_2, c_3, c_4, c_5]), (by simp [dbtC, c_1, c_2, c_3, c_4, c_5]), rfl⟩ (by decide) (by decide) d_TL_debt_62
          · have c_5 := zb_0.mp c_5
            refine g_iconst (v := (-1)) C rfl d_TL_debt_46 ?_
            exact g_iret C rfl ⟨congrArg (fun z => some (Value.int z)) (by simp [dbtC, c_1, c_2, c_3, c_4, c_5]), (by simp [dbtC, c_1, c_2, c_3, c_4, c_5]), rfl⟩ (by decide) (by decide) d_TL_debt_47

set_option maxHeartbeats 4000000 in
set_option maxRecDepth 100000 in
theorem c_TL_pay (l : Launch) (g : Gx) (t t1 t2 t3 t4 t5 t6 t7 t8 d1 d2 d3 d4 d5 d6 d7 d8 c : Nat) (dt : Int32) (ff pf : Nat → Int32) (p0 p1 : Int32) (hc : c ≤ 60) : M0 l g y_TL_pay b_TL_pay 3 (some FieldType.boolean) ({ frames := 2, cells := 0, slots := 0, locals := 43 }) [.ref t, .int p0, .int p1] [(t, .inr (12, [.ref t1, .ref t2, .ref t3, .ref t4, .ref t5, .ref t6, .ref t7, .ref t8, .int dt])), (t7, .inr (2, [.ref d1, .ref d2, .ref d3, .ref d4, .ref d5, .ref d6, .int (nI c), .ref d7, .ref d8])), (d5, .inl (g.2.1 0, 60, .inl ff)), (d6, .inl (g.2.1 0, 60, .inl pf))] (some (.int (zb (inB p1 3600 = true ∧ payOk c ff pf p0 p1 = true)))) [(t, .inr (12, [.ref t1, .ref t2, .ref t3, .ref t4, .ref t5, .ref t6, .ref t7, .ref t8, .int dt])), (t7, .inr (2, [.ref d1, .ref d2, .ref d3, .ref d4, .ref d5, .ref d6, .int (nI c), .ref d7, .ref d8])), (d5, .inl (g.2.1 0, 60, .inl ff)), (d6, .inl (g.2.1 0, 60, .inl (if inB p1 3600 = true ∧ payOk c ff pf p0 p1 = true then upd pf p0.toNatClampNeg p1 else pf)))] := by
  refine MP.of (by decide) (Nat.le_of_ble_eq_true rfl) (fun κ C => ?_)
  have C : zC κ l g ({ frames := 2, cells := 0, slots := 0, locals := 43 }) b_TL_pay 3 "TombLane" "pay" (some FieldType.boolean) _ := C
  refine g_lv (lv1 := [(0, .ref t), (1, .int p0), (2, .int p1)]) [0, 1, 2] rfl ?_
  refine g_iload_n C 2 rfl d_TL_pay_0 ?_
  refine g_sipush (v := 3600) C rfl d_TL_pay_1 ?_
  refine g_callS0 (rest := []) (Xn := [(t, .inr (12, [.ref t1, .ref t2, .ref t3, .ref t4, .ref t5, .ref t6, .ref t7, .ref t8, .int dt])), (t7, .inr (2, [.ref d1, .ref d2, .ref d3, .ref d4, .ref d5, .ref d6, .int (nI c), .ref d7, .ref d8])), (d5, .inl (g.2.1 0, 60, .inl ff)), (d6, .inl (g.2.1 0, 60, .inl pf))]) C (c_TL_isBelow l g p1 3600) [] [0, 1, 2, 3] [0, 1, 2, 3] rfl (by decide) (by decide) rfl mo_TL_isBelow ms_TL_isBelow kw_404 (by decide) rfl (Nat.le_of_ble_eq_true rfl) ⟨Nat.le_of_ble_eq_true rfl, Nat.le_of_ble_eq_true rfl⟩ d_TL_pay_4 ?_
  refine g_if_eq C d_TL_pay_7 (fun c_1 => ?_) (fun c_1 => ?_)
  · have c_1 := zb_0.mp c_1
    refine g_iconst (v := 0) C rfl d_TL_pay_26 ?_
    exact g_zret C (Or.inl rfl) rfl ⟨congrArg (fun z => some (Value.int z)) (by simp [zb, c_1]), (by simp [zb, c_1]), rfl⟩ (by decide) (by decide) d_TL_pay_27
  · have c_1 := zb_n0.mp c_1
    refine g_aload_n C 0 rfl d_TL_pay_10 ?_
    refine g_get C 0 rfl rfl in_TL 6 (by decide) kw_378 rfl d_TL_pay_11 ?_
    refine g_iload_n C 1 rfl d_TL_pay_14 ?_
    refine g_iload_n C 2 rfl d_TL_pay_15 ?_
    refine g_callVN0 (rest := []) (Xn := [(t, .inr (12, [.ref t1, .ref t2, .ref t3, .ref t4, .ref t5, .ref t6, .ref t7, .ref t8, .int dt])), (t7, .inr (2, [.ref d1, .ref d2, .ref d3, .ref d4, .ref d5, .ref d6, .int (nI c), .ref d7, .ref d8])), (d5, .inl (g.2.1 0, 60, .inl ff)), (d6, .inl (g.2.1 0, 60, .inl (if payOk c ff pf p0 p1 then upd pf p0.toNatClampNeg p1 else pf)))]) C (c_De_setPaid l g t7 d1 d2 d3 d4 d5 d6 d7 d8 c ff pf p0 p1 (by first | assumption | omega | exact nI_pos (by omega))) [1, 2, 3] [0] [0, 1, 2, 3] rfl (by decide) (by decide) rfl mo_De_setPaid mv_De_setPaid kw_816 (by decide) (rcX 1 rfl rfl) rfl (Nat.le_of_ble_eq_true rfl) ⟨Nat.le_of_ble_eq_true rfl, Nat.le_of_ble_eq_true rfl⟩ d_TL_pay_16 ?_
    refine g_if_eq C d_TL_pay_19 (fun c_2 => ?_) (fun c_2 => ?_)
    · have c_2 := zb_0.mp c_2
      refine g_iconst (v := 0) C rfl d_TL_pay_26 ?_
      exact g_zret C (Or.inl rfl) rfl ⟨congrArg (fun z => some (Value.int z)) (by simp [zb, c_1, c_2]), (by simp [zb, c_1, c_2]), rfl⟩ (by decide) (by decide) d_TL_pay_27
    · have c_2 := zb_n0.mp c_2
      refine g_iconst (v := 1) C rfl d_TL_pay_22 ?_
      refine g_goto C d_TL_pay_23 ?_
      exact g_zret C (Or.inr rfl) rfl ⟨congrArg (fun z => some (Value.int z)) (by simp [zb, c_1, c_2]), (by simp [zb, c_1, c_2]), rfl⟩ (by decide) (by decide) d_TL_pay_27

set_option maxHeartbeats 4000000 in
set_option maxRecDepth 100000 in
theorem c_TL_balance (l : Launch) (g : Gx) (t t1 t2 t3 t4 t5 t6 t7 t8 m1 m2 m3 d1 d2 d3 d4 d5 d6 d7 d8 n c : Nat) (dt : Int32) (bf tf gf mf ff pf wf xf : Nat → Int32) (p0 p1 : Int32) (hn : n ≤ 12) (hc : c ≤ 60) (hd : dbtIn c bf tf gf ff) : M0 l g y_TL_balance b_TL_balance 3 (some FieldType.int) ({ frames := 2, cells := 0, slots := 0, locals := 42 }) [.ref t, .int p0, .int p1] [(t, .inr (12, [.ref t1, .ref t2, .ref t3, .ref t4, .ref t5, .ref t6, .ref t7, .ref t8, .int dt])), (t1, .inr (7, [.ref m1, .ref m2, .ref m3, .int (nI n)])), (t7, .inr (2, [.ref d1, .ref d2, .ref d3, .ref d4, .ref d5, .ref d6, .int (nI c), .ref d7, .ref d8])), (d1, .inl (g.2.1 0, 60, .inl bf)), (d2, .inl (g.2.1 0, 60, .inl tf)), (d3, .inl (g.2.1 0, 60, .inl gf)), (d4, .inl (g.2.1 0, 60, .inl mf)), (d5, .inl (g.2.1 0, 60, .inl ff)), (d6, .inl (g.2.1 0, 60, .inl pf)), (d7, .inl (g.2.1 0, 50, .inl wf)), (d8, .inl (g.2.1 0, 12, .inl xf))] (some (.int (if inB p0 (nI n) = true ∧ inB p1 3600 = true then (bal bf tf gf mf ff pf wf p1 c 0 (fun _ => 0)) p0.toNatClampNeg else (-2000000001)))) [(t, .inr (12, [.ref t1, .ref t2, .ref t3, .ref t4, .ref t5, .ref t6, .ref t7, .ref t8, .int dt])), (t1, .inr (7, [.ref m1, .ref m2, .ref m3, .int (nI n)])), (t7, .inr (2, [.ref d1, .ref d2, .ref d3, .ref d4, .ref d5, .ref d6, .int (nI c), .ref d7, .ref d8])), (d1, .inl (g.2.1 0, 60, .inl bf)), (d2, .inl (g.2.1 0, 60, .inl tf)), (d3, .inl (g.2.1 0, 60, .inl gf)), (d4, .inl (g.2.1 0, 60, .inl mf)), (d5, .inl (g.2.1 0, 60, .inl ff)), (d6, .inl (g.2.1 0, 60, .inl pf)), (d7, .inl (g.2.1 0, 50, .inl wf)), (d8, .inl (g.2.1 0, 12, .inl (if inB p0 (nI n) = true ∧ inB p1 3600 = true then bal bf tf gf mf ff pf wf p1 c 0 (fun _ => 0) else xf)))] := by
  refine MP.of (by decide) (Nat.le_of_ble_eq_true rfl) (fun κ C => ?_)
  have C : zC κ l g ({ frames := 2, cells := 0, slots := 0, locals := 42 }) b_TL_balance 3 "TombLane" "balance" (some FieldType.int) _ := C
  refine g_lv (lv1 := [(0, .ref t), (1, .int p0), (2, .int p1)]) [0, 1, 2] rfl ?_
  refine g_aload_n C 0 rfl d_TL_balance_0 ?_
  refine g_get C 0 rfl rfl in_TL 0 (by decide) kw_372 rfl d_TL_balance_1 ?_
  refine g_iload_n C 1 rfl d_TL_balance_4 ?_
  refine g_callVN0 (rest := []) (Xn := [(t, .inr (12, [.ref t1, .ref t2, .ref t3, .ref t4, .ref t5, .ref t6, .ref t7, .ref t8, .int dt])), (t1, .inr (7, [.ref m1, .ref m2, .ref m3, .int (nI n)])), (t7, .inr (2, [.ref d1, .ref d2, .ref d3, .ref d4, .ref d5, .ref d6, .int (nI c), .ref d7, .ref d8])), (d1, .inl (g.2.1 0, 60, .inl bf)), (d2, .inl (g.2.1 0, 60, .inl tf)), (d3, .inl (g.2.1 0, 60, .inl gf)), (d4, .inl (g.2.1 0, 60, .inl mf)), (d5, .inl (g.2.1 0, 60, .inl ff)), (d6, .inl (g.2.1 0, 60, .inl pf)), (d7, .inl (g.2.1 0, 50, .inl wf)), (d8, .inl (g.2.1 0, 12, .inl xf))]) C (c_Me_has l g t1 m1 m2 m3 (nI n) p0) [1] [0, 2, 3, 4, 5, 6, 7, 8, 9, 10] [0, 10, 1, 2, 3, 4, 5, 6, 7, 8, 9] rfl (by decide) (by decide) rfl mo_Me_has mv_Me_has kw_701 (by decide) (rcX 1 rfl rfl) rfl (Nat.le_of_ble_eq_true rfl) ⟨Nat.le_of_ble_eq_true rfl, Nat.le_of_ble_eq_true rfl⟩ d_TL_balance_5 ?_
  refine g_if_eq C d_TL_balance_8 (fun c_1 => ?_) (fun c_1 => ?_)
  · have c_1 := zb_0.mp c_1
    refine g_ldc C kw_825 d_TL_balance_21 ?_
    exact g_iret C rfl ⟨congrArg (fun z => some (Value.int z)) (by simp [c_1]), (by simp [c_1]), rfl⟩ (by decide) (by decide) d_TL_balance_23
  · have c_1 := zb_n0.mp c_1
    refine g_iload_n C 2 rfl d_TL_balance_11 ?_
    refine g_sipush (v := 3600) C rfl d_TL_balance_12 ?_
    refine g_callS0 (rest := []) (Xn := [(t, .inr (12, [.ref t1, .ref t2, .ref t3, .ref t4, .ref t5, .ref t6, .ref t7, .ref t8, .int dt])), (t1, .inr (7, [.ref m1, .ref m2, .ref m3, .int (nI n)])), (t7, .inr (2, [.ref d1, .ref d2, .ref d3, .ref d4, .ref d5, .ref d6, .int (nI c), .ref d7, .ref d8])), (d1, .inl (g.2.1 0, 60, .inl bf)), (d2, .inl (g.2.1 0, 60, .inl tf)), (d3, .inl (g.2.1 0, 60, .inl gf)), (d4, .inl (g.2.1 0, 60, .inl mf)), (d5, .inl (g.2.1 0, 60, .inl ff)), (d6, .inl (g.2.1 0, 60, .inl pf)), (d7, .inl (g.2.1 0, 50, .inl wf)), (d8, .inl (g.2.1 0, 12, .inl xf))]) C (c_TL_isBelow l g p1 3600) [] [0, 1, 2, 3, 4, 5, 6, 7, 8, 9, 10] [0, 1, 2, 3, 4, 5, 6, 7, 8, 9, 10] rfl (by decide) (by decide) rfl mo_TL_isBelow ms_TL_isBelow kw_404 (by decide) rfl (Nat.le_of_ble_eq_true rfl) ⟨Nat.le_of_ble_eq_true rfl, Nat.le_of_ble_eq_true rfl⟩ d_TL_balance_15 ?_
    refine g_if_ne C d_TL_balance_18 (fun c_2 => ?_) (fun c_2 => ?_)
    · have c_2 := zb_n0.mp c_2
      refine g_aload_n C 0 rfl d_TL_balance_24 ?_
      refine g_get C 0 rfl rfl in_TL 6 (by decide) kw_378 rfl d_TL_balance_25 ?_
      refine g_iload_n C 2 rfl d_TL_balance_28 ?_
      refine g_callVN0 (rest := []) (Xn := [(t, .inr (12, [.ref t1, .ref t2, .ref t3, .ref t4, .ref t5, .ref t6, .ref t7, .ref t8, .int dt])), (t1, .inr (7, [.ref m1, .ref m2, .ref m3, .int (nI n)])), (t7, .inr (2, [.ref d1, .ref d2, .ref d3, .ref d4, .ref d5, .ref d6, .int (nI c), .ref d7, .ref d8])), (d1, .inl (g.2.1 0, 60, .inl bf)), (d2, .inl (g.2.1 0, 60, .inl tf)), (d3, .inl (g.2.1 0, 60, .inl gf)), (d4, .inl (g.2.1 0, 60, .inl mf)), (d5, .inl (g.2.1 0, 60, .inl ff)), (d6, .inl (g.2.1 0, 60, .inl pf)), (d7, .inl (g.2.1 0, 50, .inl wf)), (d8, .inl (g.2.1 0, 12, .inl (bal bf tf gf mf ff pf wf p1 c 0 (fun _ => 0))))]) C (c_De_balancesOn l g t7 d1 d2 d3 d4 d5 d6 d7 d8 c bf tf gf mf ff pf wf p1 xf (by first | assumption | omega | exact nI_pos (by omega)) (by first | assumption | omega | exact nI_pos (by omega))) [2, 3, 4, 5, 6, 7, 8, 9, 10] [0, 1] [0, 1, 2, 3, 4, 5, 6, 7, 8, 9, 10] rfl (by decide) (by decide) rfl mo_De_balancesOn mv_De_balancesOn kw_826 (by decide) (rcX 2 rfl rfl) rfl (Nat.le_of_ble_eq_true rfl) ⟨Nat.le_of_ble_eq_true rfl, Nat.le_of_ble_eq_true rfl⟩ d_TL_balance_29 ?_
      refine g_iload_n C 1 rfl d_TL_balance_32 ?_
      refine g_iald C 10 rfl (inB_vp 12 c_1 hn (by decide)) d_TL_balance_33 ?_
      exact g_iret C rfl ⟨congrArg (fun z => some (Value.int z)) (by simp [c_1, c_2]), (by simp [c_1, c_2]), rfl⟩ (by decide) (by decide) d_TL_balance_34
    · have c_2 := zb_0.mp c_2
      refine g_ldc C kw_825 d_TL_balance_21 ?_
      exact g_iret C rfl ⟨congrArg (fun z => some (Value.int z)) (by simp [c_1, c_2]), (by simp [c_1, c_2]), rfl⟩ (by decide) (by decide) d_TL_balance_23

set_option maxHeartbeats 4000000 in
set_option maxRecDepth 100000 in
theorem c_TL_fewest (l : Launch) (g : Gx) (t t1 t2 t3 t4 t5 t6 t7 t8 d1 d2 d3 d4 d5 d6 d7 d8 g1 g2 c : Nat) (dt : Int32) (bf tf gf mf ff pf wf xf sm ms : Nat → Int32) (p0 : Int32) (hc : c ≤ 60) (hd : dbtIn c bf tf gf ff) : M0 l g y_TL_fewest b_TL_fewest 2 (some FieldType.int) ({ frames := 4, cells := 0, slots := 0, locals := 93 }) [.ref t, .int p0] [(t, .inr (12, [.ref t1, .ref t2, .ref t3, .ref t4, .ref t5, .ref t6, .ref t7, .ref t8, .int dt])), (t7, .inr (2, [.ref d1, .ref d2, .ref d3, .ref d4, .ref d5, .ref d6, .int (nI c), .ref d7, .ref d8])), (d1, .inl (g.2.1 0, 60, .inl bf)), (d2, .inl (g.2.1 0, 60, .inl tf)), (d3, .inl (g.2.1 0, 60, .inl gf)), (d4, .inl (g.2.1 0, 60, .inl mf)), (d5, .inl (g.2.1 0, 60, .inl ff)), (d6, .inl (g.2.1 0, 60, .inl pf)), (d7, .inl (g.2.1 0, 50, .inl wf)), (d8, .inl (g.2.1 0, 12, .inl xf)), (t8, .inr (9, [.ref g1, .ref g2])), (g1, .inl (g.2.1 0, 12, .inl sm)), (g2, .inl (g.2.1 0, 2048, .inl ms))] (some (.int (if inB p0 3600 = true then payV (pyl (bal bf tf gf mf ff pf wf p0 c 0 (fun _ => 0)) 12 0 0 sm).1 (pyl (bal bf tf gf mf ff pf wf p0 c 0 (fun _ => 0)) 12 0 0 sm).2 ms else (-1)))) [(t, .inr (12, [.ref t1, .ref t2, .ref t3, .ref t4, .ref t5, .ref t6, .ref t7, .ref t8, .int dt])), (t7, .inr (2, [.ref d1, .ref d2, .ref d3, .ref d4, .ref d5, .ref d6, .int (nI c), .ref d7, .ref d8])), (d1, .inl (g.2.1 0, 60, .inl bf)), (d2, .inl (g.2.1 0, 60, .inl tf)), (d3, .inl (g.2.1 0, 60, .inl gf)), (d4, .inl (g.2.1 0, 60, .inl mf)), (d5, .inl (g.2.1 0, 60, .inl ff)), (d6, .inl (g.2.1 0, 60, .inl pf)), (d7, .inl (g.2.1 0, 50, .inl wf)), (d8, .inl (g.2.1 0, 12, .inl (if inB p0 3600 = true then (bal bf tf gf mf ff pf wf p0 c 0 (fun _ => 0)) else xf))), (t8, .inr (9, [.ref g1, .ref g2])), (g1, .inl (g.2.1 0, 12, .inl (if inB p0 3600 = true then (pyl (bal bf tf gf mf ff pf wf p0 c 0 (fun _ => 0)) 12 0 0 sm).2 else sm))), (g2, .inl (g.2.1 0, 2048, .inl (if inB p0 3600 = true then payM (pyl (bal bf tf gf mf ff pf wf p0 c 0 (fun _ => 0)) 12 0 0 sm).1 (pyl (bal bf tf gf mf ff pf wf p0 c 0 (fun _ => 0)) 12 0 0 sm).2 ms else ms)))] := by
  refine MP.of (by decide) (Nat.le_of_ble_eq_true rfl) (fun κ C => ?_)
  have C : zC κ l g ({ frames := 4, cells := 0, slots := 0, locals := 93 }) b_TL_fewest 2 "TombLane" "fewest" (some FieldType.int) _ := C
  refine g_lv (lv1 := [(0, .ref t), (1, .int p0)]) [0, 1] rfl ?_
  refine g_iload_n C 1 rfl d_TL_fewest_0 ?_
  refine g_sipush (v := 3600) C rfl d_TL_fewest_1 ?_
  refine g_callS0 (rest := []) (Xn := [(t, .inr (12, [.ref t1, .ref t2, .ref t3, .ref t4, .ref t5, .ref t6, .ref t7, .ref t8, .int dt])), (t7, .inr (2, [.ref d1, .ref d2, .ref d3, .ref d4, .ref d5, .ref d6, .int (nI c), .ref d7, .ref d8])), (d1, .inl (g.2.1 0, 60, .inl bf)), (d2, .inl (g.2.1 0, 60, .inl tf)), (d3, .inl (g.2.1 0, 60, .inl gf)), (d4, .inl (g.2.1 0, 60, .inl mf)), (d5, .inl (g.2.1 0, 60, .inl ff)), (d6, .inl (g.2.1 0, 60, .inl pf)), (d7, .inl (g.2.1 0, 50, .inl wf)), (d8, .inl (g.2.1 0, 12, .inl xf)), (t8, .inr (9, [.ref g1, .ref g2])), (g1, .inl (g.2.1 0, 12, .inl sm)), (g2, .inl (g.2.1 0, 2048, .inl ms))]) C (c_TL_isBelow l g p0 3600) [] [0, 1, 2, 3, 4, 5, 6, 7, 8, 9, 10, 11, 12] [0, 1, 2, 3, 4, 5, 6, 7, 8, 9, 10, 11, 12] rfl (by decide) (by decide) rfl mo_TL_isBelow ms_TL_isBelow kw_404 (by decide) rfl (Nat.le_of_ble_eq_true rfl) ⟨Nat.le_of_ble_eq_true rfl, Nat.le_of_ble_eq_true rfl⟩ d_TL_fewest_4 ?_
  refine g_if_ne C d_TL_fewest_7 (fun c_1 => ?_) (fun c_1 => ?_)
  · have c_1 := zb_n0.mp c_1
    refine g_aload_n C 0 rfl d_TL_fewest_12 ?_
    refine g_get C 0 rfl rfl in_TL 7 (by decide) kw_379 rfl d_TL_fewest_13 ?_
    refine g_aload_n C 0 rfl d_TL_fewest_16 ?_
    refine g_get C 0 rfl rfl in_TL 6 (by decide) kw_378 rfl d_TL_fewest_17 ?_
    refine g_iload_n C 1 rfl d_TL_fewest_20 ?_
    refine g_callVN0 (rest := [.ref t8]) (Xn := [(t, .inr (12, [.ref t1, .ref t2, .ref t3, .ref t4, .ref t5, .ref t6, .ref t7, .ref t8, .int dt])), (t7, .inr (2, [.ref d1, .ref d2, .ref d3, .ref d4, .ref d5, .ref d6, .int (nI c), .ref d7, .ref d8])), (d1, .inl (g.2.1 0, 60, .inl bf)), (d2, .inl (g.2.1 0, 60, .inl tf)), (d3, .inl (g.2.1 0, 60, .inl gf)), (d4, .inl (g.2.1 0, 60, .inl mf)), (d5, .inl (g.2.1 0, 60, .inl ff)), (d6, .inl (g.2.1 0, 60, .inl pf)), (d7, .inl (g.2.1 0, 50, .inl wf)), (d8, .inl (g.2.1 0, 12, .inl (bal bf tf gf mf ff pf wf p0 c 0 (fun _ => 0)))), (t8, .inr (9, [.ref g1, .ref g2])), (g1, .inl (g.2.1 0, 12, .inl sm)), (g2, .inl (g.2.1 0, 2048, .inl ms))]) C (c_De_balancesOn l g t7 d1 d2 d3 d4 d5 d6 d7 d8 c bf tf gf mf ff pf wf p0 xf (by first | assumption | omega | exact nI_pos (by omega)) (by first | assumption | omega | exact nI_pos (by omega))) [1, 2, 3, 4, 5, 6, 7, 8, 9] [0, 10, 11, 12] [0, 4, 5, 6, 7, 8, 9, 10, 11, 12, 1, 2, 3] rfl (by decide) (by decide) rfl mo_De_balancesOn mv_De_balancesOn kw_826 (by decide) (rcX 1 rfl rfl) rfl (Nat.le_of_ble_eq_true rfl) ⟨Nat.le_of_ble_eq_true rfl, Nat.le_of_ble_eq_true rfl⟩ d_TL_fewest_21 ?_
    refine g_callVN0 (rest := []) (Xn := [(t, .inr (12, [.ref t1, .ref t2, .ref t3, .ref t4, .ref t5, .ref t6, .ref t7, .ref t8, .int dt])), (t7, .inr (2, [.ref d1, .ref d2, .ref d3, .ref d4, .ref d5, .ref d6, .int (nI c), .ref d7, .ref d8])), (d1, .inl (g.2.1 0, 60, .inl bf)), (d2, .inl (g.2.1 0, 60, .inl tf)), (d3, .inl (g.2.1 0, 60, .inl gf)), (d4, .inl (g.2.1 0, 60, .inl mf)), (d5, .inl (g.2.1 0, 60, .inl ff)), (d6, .inl (g.2.1 0, 60, .inl pf)), (d7, .inl (g.2.1 0, 50, .inl wf)), (d8, .inl (g.2.1 0, 12, .inl (bal bf tf gf mf ff pf wf p0 c 0 (fun _ => 0)))), (t8, .inr (9, [.ref g1, .ref g2])), (g1, .inl (g.2.1 0, 12, .inl (pyl (bal bf tf gf mf ff pf wf p0 c 0 (fun _ => 0)) 12 0 0 sm).2)), (g2, .inl (g.2.1 0, 2048, .inl (payM (pyl (bal bf tf gf mf ff pf wf p0 c 0 (fun _ => 0)) 12 0 0 sm).1 (pyl (bal bf tf gf mf ff pf wf p0 c 0 (fun _ => 0)) 12 0 0 sm).2 ms)))]) C (c_Se_payments l g t8 g1 g2 d8 sm ms (bal bf tf gf mf ff pf wf p0 c 0 (fun _ => 0))) [10, 11, 12, 9] [0, 1, 2, 3, 4, 5, 6, 7, 8] [0, 1, 2, 3, 4, 5, 6, 7, 8, 12, 9, 10, 11] rfl (by decide) (by decide) rfl mo_Se_payments mv_Se_payments kw_834 (by decide) (rcX 10 rfl rfl) rfl (Nat.le_of_ble_eq_true rfl) ⟨Nat.le_of_ble_eq_true rfl, Nat.le_of_ble_eq_true rfl⟩ d_TL_fewest_24 ?_
    exact g_iret C rfl ⟨congrArg (fun z => some (Value.int z)) (by simp [c_1]), (by simp [c_1]), rfl⟩ (by decide) (by decide) d_TL_fewest_27
  · have c_1 := zb_0.mp c_1
    refine g_iconst (v := (-1)) C rfl d_TL_fewest_10 ?_
    exact g_iret C rfl ⟨congrArg (fun z => some (Value.int z)) (by simp [c_1]), (by simp [c_1]), rfl⟩ (by decide) (by decide) d_TL_fewest_11

set_option maxHeartbeats 4000000 in
set_option maxRecDepth 100000 in
theorem c_TL_of (l : Launch) (g : Gx) (t t1 t2 t3 t4 t5 t6 t7 t8 m1 m2 m3 n : Nat) (dt : Int32) (nf : Nat → Int64) (sf rf : Nat → Int32) (p0 p1 : Int32) (hn : n ≤ 12) : M0 l g y_TL_of b_TL_of 3 (some FieldType.int) ({ frames := 2, cells := 0, slots := 0, locals := 44 }) [.ref t, .int p0, .int p1] [(t, .inr (12, [.ref t1, .ref t2, .ref t3, .ref t4, .ref t5, .ref t6, .ref t7, .ref t8, .int dt])), (t1, .inr (7, [.ref m1, .ref m2, .ref m3, .int (nI n)])), (m1, .inl (g.2.1 1, 12, .inr (.inl nf))), (m2, .inl (g.2.1 0, 12, .inl sf)), (m3, .inl (g.2.1 0, 12, .inl rf))] (some (.int (ofV (lto (nf p0.toNatClampNeg) 8 0) n sf rf p0 p1))) [(t, .inr (12, [.ref t1, .ref t2, .ref t3, .ref t4, .ref t5, .ref t6, .ref t7, .ref t8, .int dt])), (t1, .inr (7, [.ref m1, .ref m2, .ref m3, .int (nI n)])), (m1, .inl (g.2.1 1, 12, .inr (.inl nf))), (m2, .inl (g.2.1 0, 12, .inl sf)), (m3, .inl (g.2.1 0, 12, .inl rf))] := by
  refine MP.of (by decide) (Nat.le_of_ble_eq_true rfl) (fun κ C => ?_)
  have C : zC κ l g ({ frames := 2, cells := 0, slots := 0, locals := 44 }) b_TL_of 3 "TombLane" "of" (some FieldType.int) _ := C
  refine g_lv (lv1 := [(0, .ref t), (1, .int p0), (2, .int p1)]) [0, 1, 2] rfl ?_
  refine g_aload_n C 0 rfl d_TL_of_0 ?_
  refine g_get C 0 rfl rfl in_TL 0 (by decide) kw_372 rfl d_TL_of_1 ?_
  refine g_iload_n C 1 rfl d_TL_of_4 ?_
  refine g_callVN0 (rest := []) (Xn := [(t, .inr (12, [.ref t1, .ref t2, .ref t3, .ref t4, .ref t5, .ref t6, .ref t7, .ref t8, .int dt])), (t1, .inr (7, [.ref m1, .ref m2, .ref m3, .int (nI n)])), (m1, .inl (g.2.1 1, 12, .inr (.inl nf))), (m2, .inl (g.2.1 0, 12, .inl sf)), (m3, .inl (g.2.1 0, 12, .inl rf))]) C (c_Me_has l g t1 m1 m2 m3 (nI n) p0) [1] [0, 2, 3, 4] [0, 4, 1, 2, 3] rfl (by decide) (by decide) rfl mo_Me_has mv_Me_has kw_701 (by decide) (rcX 1 rfl rfl) rfl (Nat.le_of_ble_eq_true rfl) ⟨Nat.le_of_ble_eq_true rfl, Nat.le_of_ble_eq_true rfl⟩ d_TL_of_5 ?_
  refine g_if_ne C d_TL_of_8 (fun c_1 => ?_) (fun c_1 => ?_)
  · have c_1 := zb_n0.mp c_1
    refine g_iload_n C 2 rfl d_TL_of_13 ?_
    by_cases t_2 : p1 = 0
    · refine g_tabIn (tgt := 40) C 0 t_2 d_TL_of_14 (by decide) (by decide) rfl (by decide) ?_
      refine g_aload_n C 0 rfl d_TL_of_40 ?_
      refine g_get C 0 rfl rfl in_TL 0 (by decide) kw_372 rfl d_TL_of_41 ?_
      refine g_getN C 1 rfl rfl in_Me 1 (by decide) kw_117 rfl d_TL_of_44 ?_
      refine g_iload_n C 1 rfl d_TL_of_47 ?_
      refine g_iald C 3 rfl (inB_vp 12 c_1 hn (by decide)) d_TL_of_48 ?_
      exact g_iret C rfl ⟨congrArg (fun z => some (Value.int z)) (by simp [ofV, c_1, eq_true t_2]), rfl, rfl⟩ (by decide) (by decide) d_TL_of_49
    by_cases t_3 : p1 = 1
    · refine g_tabIn (tgt := 50) C 1 t_3 d_TL_of_14 (by decide) (by decide) rfl (by decide) ?_
      refine g_aload_n C 0 rfl d_TL_of_50 ?_
      refine g_get C 0 rfl rfl in_TL 0 (by decide) kw_372 rfl d_TL_of_51 ?_
      refine g_getN C 1 rfl rfl in_Me 2 (by decide) kw_120 rfl d_TL_of_54 ?_
      refine g_iload_n C 1 rfl d_TL_of_57 ?_
      refine g_iald C 4 rfl (inB_vp 12 c_1 hn (by decide)) d_TL_of_58 ?_
      exact g_iret C rfl ⟨congrArg (fun z => some (Value.int z)) (by simp [ofV, c_1, t_2, eq_true t_3]), rfl, rfl⟩ (by decide) (by decide) d_TL_of_59
    by_cases t_4 : p1 = 2
    · refine g_tabIn (tgt := 60) C 2 t_4 d_TL_of_14 (by decide) (by decide) rfl (by decide) ?_
      refine g_aload_n C 0 rfl d_TL_of_60 ?_
      refine g_get C 0 rfl rfl in_TL 0 (by decide) kw_372 rfl d_TL_of_61 ?_
      refine g_getN C 1 rfl rfl in_Me 0 (by decide) kw_114 rfl d_TL_of_64 ?_
      refine g_iload_n C 1 rfl d_TL_of_67 ?_
      refine g_lald C 2 rfl (inB_vp 12 c_1 hn (by decide)) d_TL_of_68 ?_
      refine g_callS0 (rest := []) (Xn := [(t, .inr (12, [.ref t1, .ref t2, .ref t3, .ref t4, .ref t5, .ref t6, .ref t7, .ref t8, .int dt])), (t1, .inr (7, [.ref m1, .ref m2, .ref m3, .int (nI n)])), (m1, .inl (g.2.1 1, 12, .inr (.inl nf))), (m2, .inl (g.2.1 0, 12, .inl sf)), (m3, .inl (g.2.1 0, 12, .inl rf))]) C (c_TL_lettersOf l g (nf (Int32.toNatClampNeg p0))) [] [0, 1, 2, 3, 4] [0, 1, 2, 3, 4] rfl (by decide) (by decide) rfl mo_TL_lettersOf ms_TL_lettersOf kw_851 (by decide) rfl (Nat.le_of_ble_eq_true rfl) ⟨Nat.le_of_ble_eq_true rfl, Nat.le_of_ble_eq_true rfl⟩ d_TL_of_69 ?_
      exact g_iret C rfl ⟨congrArg (fun z => some (Value.int z)) (by simp [ofV, c_1, t_2, t_3, eq_true t_4]), rfl, rfl⟩ (by decide) (by decide) d_TL_of_72
    refine g_tabOut (tgt := 73) C 2 (by decide) rfl (fun c hc => by rcases (show c = 0 ∨ c = 1 ∨ c = 2 by omega) with rfl | rfl | rfl <;> assumption) d_TL_of_14 (by decide) ?_
    refine g_iconst (v := (-1)) C rfl d_TL_of_73 ?_
    exact g_iret C rfl ⟨congrArg (fun z => some (Value.int z)) (by simp [ofV, c_1, t_2, t_3, t_4]), rfl, rfl⟩ (by decide) (by decide) d_TL_of_74
  · have c_1 := zb_0.mp c_1
    refine g_iconst (v := (-1)) C rfl d_TL_of_11 ?_
    exact g_iret C rfl ⟨congrArg (fun z => some (Value.int z)) (by simp [ofV, c_1]), rfl, rfl⟩ (by decide) (by decide) d_TL_of_12

