set_option maxHeartbeats 4000000 in
set_option maxRecDepth 100000 in
theorem c_TL_day (l : Launch) (g : Gx) (t t1 t2 t3 t4 t5 t6 t7 t8 m1 m2 m3 y1 y2 n : Nat) (dt wt wu : Int32) (sf st : Nat → Int32) (K : AR) (fs : List FR) (p0 p1 p2 : Int32) (P : va_W) (hn : n ≤ 12) (hK : okA g K (fad fs)) (hfk : ∀ r ∈ fs, fok g r) : MP l g y_TL_day b_TL_day 4 (some FieldType.int) ({ frames := 7, cells := 0, slots := 0, locals := 157 }) [.ref t, .int p0, .int p1, .int p2] [(t, .inr (12, [.ref t1, .ref t2, .ref t3, .ref t4, .ref t5, .ref t6, .ref t7, .ref t8, .int dt])), (t1, .inr (7, [.ref m1, .ref m2, .ref m3, .int (nI n)])), (m2, .inl (g.2.1 0, 12, .inl sf)), (t5, .inr (1, [.ref t1, .ref t4, .ref y1, .ref y2, .int wt, .int wu])), (y1, .inl (g.2.1 0, 12, .inl st)), (t4, .inr (5, [.ref K.1])), (K.1, .inr (0, [.int K.2.1, .ref K.2.2.1, .int (nI fs.length)]))] (arc g K fs.length ++ (fcs g fs ++ P)) (fun v2 X2 P2 => ∃ (st1 : Nat → Int32) (wt1 : Int32) (wu1 : Int32), v2 = some (.int (if inB p0 (nI n) = true ∧ inB p1 3600 = true then (nrC sf n (sf p0.toNatClampNeg) p1 p2 fs).2 p0.toNatClampNeg else (-1))) ∧ X2 = [(t, .inr (12, [.ref t1, .ref t2, .ref t3, .ref t4, .ref t5, .ref t6, .ref t7, .ref t8, .int dt])), (t1, .inr (7, [.ref m1, .ref m2, .ref m3, .int (nI n)])), (m2, .inl (g.2.1 0, 12, .inl sf)), (t5, .inr (1, [.ref t1, .ref t4, .ref y1, .ref y2, .int wt1, .int wu1])), (y1, .inl (g.2.1 0, 12, .inl st1)), (t4, .inr (5, [.ref K.1])), (K.1, .inr (0, [.int K.2.1, .ref K.2.2.1, .int (nI fs.length)]))] ∧ P2 = arc g K fs.length ++ (fcs g fs ++ P)) := by
  refine MP.of (by decide) (Nat.le_of_ble_eq_true rfl) (fun κ C => ?_)
  have C : zC κ l g ({ frames := 7, cells := 0, slots := 0, locals := 157 }) b_TL_day 4 "TombLane" "day" (some FieldType.int) _ := C
  refine g_lv (lv1 := [(0, .ref t), (1, .int p0), (2, .int p1), (3, .int p2)]) [0, 1, 2, 3] rfl ?_
  refine g_aload_n C 0 rfl d_TL_day_0 ?_
  refine g_get C 0 rfl rfl in_TL 0 (by decide) kw_372 rfl d_TL_day_1 ?_
  refine g_iload_n C 1 rfl d_TL_day_4 ?_
  refine g_callVN0 (rest := []) (Xn := [(t, .inr (12, [.ref t1, .ref t2, .ref t3, .ref t4, .ref t5, .ref t6, .ref t7, .ref t8, .int dt])), (t1, .inr (7, [.ref m1, .ref m2, .ref m3, .int (nI n)])), (m2, .inl (g.2.1 0, 12, .inl sf)), (t5, .inr (1, [.ref t1, .ref t4, .ref y1, .ref y2, .int wt, .int wu])), (y1, .inl (g.2.1 0, 12, .inl st)), (t4, .inr (5, [.ref K.1])), (K.1, .inr (0, [.int K.2.1, .ref K.2.2.1, .int (nI fs.length)]))]) C (c_Me_has l g t1 m1 m2 m3 (nI n) p0) [1] [0, 2, 3, 4, 5, 6] [0, 6, 1, 2, 3, 4, 5] rfl (by decide) (by decide) rfl mo_Me_has mv_Me_has kw_701 (by decide) (rcX 1 rfl rfl) rfl (Nat.le_of_ble_eq_true rfl) ⟨Nat.le_of_ble_eq_true rfl, Nat.le_of_ble_eq_true rfl⟩ d_TL_day_5 ?_
  refine g_if_eq C d_TL_day_8 (fun c_1 => ?_) (fun c_1 => ?_)
  · have c_1 := zb_0.mp c_1
    refine g_iconst (v := (-1)) C rfl d_TL_day_21 ?_
    exact g_iret C rfl ⟨st, wt, wu, (by simp [c_1]), rfl, rfl⟩ (by first | decide | (dsimp only; omega)) (by first | decide | (dsimp only; omega)) d_TL_day_22
  · have c_1 := zb_n0.mp c_1
    refine g_iload_n C 2 rfl d_TL_day_11 ?_
    refine g_sipush (v := 3600) C rfl d_TL_day_12 ?_
    refine g_callS0 (rest := []) (Xn := [(t, .inr (12, [.ref t1, .ref t2, .ref t3, .ref t4, .ref t5, .ref t6, .ref t7, .ref t8, .int dt])), (t1, .inr (7, [.ref m1, .ref m2, .ref m3, .int (nI n)])), (m2, .inl (g.2.1 0, 12, .inl sf)), (t5, .inr (1, [.ref t1, .ref t4, .ref y1, .ref y2, .int wt, .int wu])), (y1, .inl (g.2.1 0, 12, .inl st)), (t4, .inr (5, [.ref K.1])), (K.1, .inr (0, [.int K.2.1, .ref K.2.2.1, .int (nI fs.length)]))]) C (c_TL_isBelow l g p1 3600) [] [0, 1, 2, 3, 4, 5, 6] [0, 1, 2, 3, 4, 5, 6] rfl (by decide) (by decide) rfl mo_TL_isBelow ms_TL_isBelow kw_404 (by decide) rfl (Nat.le_of_ble_eq_true rfl) ⟨Nat.le_of_ble_eq_true rfl, Nat.le_of_ble_eq_true rfl⟩ d_TL_day_15 ?_
    refine g_if_ne C d_TL_day_18 (fun c_2 => ?_) (fun c_2 => ?_)
    · have c_2 := zb_n0.mp c_2
      refine g_aload_n C 0 rfl d_TL_day_23 ?_
      refine g_get C 0 rfl rfl in_TL 4 (by decide) kw_376 rfl d_TL_day_24 ?_
      refine g_iload_n C 1 rfl d_TL_day_27 ?_
      refine g_iload_n C 2 rfl d_TL_day_28 ?_
      refine g_iload_n C 3 rfl d_TL_day_29 ?_
      refine g_callVNP (rest := []) C (c_Dy_stateOf l g t5 y1 y2 t1 t4 m1 m2 m3 n sf K fs p0 p1 p2 st wt wu P hn hK hfk (inB_vp 12 c_1 hn (by decide))) [3, 4, 1, 2, 5, 6] [0] rfl (by decide) mo_Dy_stateOf mv_Dy_stateOf kw_706 (by decide) (rcX 3 rfl rfl) rfl (Nat.le_of_ble_eq_true rfl) ⟨Nat.le_of_ble_eq_true rfl, Nat.le_of_ble_eq_true rfl⟩ d_TL_day_30 (fun v2 X2 P2 q => ?_)
      obtain ⟨rfl, rfl, rfl⟩ := q
      refine g_ord (X1 := [(t, .inr (12, [.ref t1, .ref t2, .ref t3, .ref t4, .ref t5, .ref t6, .ref t7, .ref t8, .int dt])), (t1, .inr (7, [.ref m1, .ref m2, .ref m3, .int (nI n)])), (m2, .inl (g.2.1 0, 12, .inl sf)), (t5, .inr (1, [.ref t1, .ref t4, .ref y1, .ref y2, .int (rkC sf n (sf p0.toNatClampNeg) p1 p2 fs).2.1, .int (rkC sf n (sf p0.toNatClampNeg) p1 p2 fs).2.2])), (y1, .inl (g.2.1 0, 12, .inl (nrC sf n (sf p0.toNatClampNeg) p1 p2 fs).2)), (t4, .inr (5, [.ref K.1])), (K.1, .inr (0, [.int K.2.1, .ref K.2.2.1, .int (nI fs.length)]))]) [0, 3, 4, 1, 2, 5, 6] (by decide) rfl ?_
      exact g_iret C rfl ⟨(nrC sf n (sf p0.toNatClampNeg) p1 p2 fs).2, (rkC sf n (sf p0.toNatClampNeg) p1 p2 fs).2.1, (rkC sf n (sf p0.toNatClampNeg) p1 p2 fs).2.2, (by simp [c_1, c_2]), rfl, rfl⟩ (by first | decide | (dsimp only; omega)) (by first | decide | (dsimp only; omega)) d_TL_day_33
    · have c_2 := zb_0.mp c_2
      refine g_iconst (v := (-1)) C rfl d_TL_day_21 ?_
      exact g_iret C rfl ⟨st, wt, wu, (by simp [c_1, c_2]), rfl, rfl⟩ (by first | decide | (dsimp only; omega)) (by first | decide | (dsimp only; omega)) d_TL_day_22

set_option maxHeartbeats 4000000 in
set_option maxRecDepth 100000 in
theorem c_TL_wicks (l : Launch) (g : Gx) (t t1 t2 t3 t4 t5 t6 t7 t8 m1 m2 m3 y1 y2 n : Nat) (dt wt wu : Int32) (sf st : Nat → Int32) (K : AR) (fs : List FR) (p0 p1 p2 : Int32) (P : va_W) (hn : n ≤ 12) (hK : okA g K (fad fs)) (hfk : ∀ r ∈ fs, fok g r) : MP l g y_TL_wicks b_TL_wicks 4 (some FieldType.int) ({ frames := 6, cells := 0, slots := 0, locals := 134 }) [.ref t, .int p0, .int p1, .int p2] [(t, .inr (12, [.ref t1, .ref t2, .ref t3, .ref t4, .ref t5, .ref t6, .ref t7, .ref t8, .int dt])), (t1, .inr (7, [.ref m1, .ref m2, .ref m3, .int (nI n)])), (m2, .inl (g.2.1 0, 12, .inl sf)), (t5, .inr (1, [.ref t1, .ref t4, .ref y1, .ref y2, .int wt, .int wu])), (y1, .inl (g.2.1 0, 12, .inl st)), (t4, .inr (5, [.ref K.1])), (K.1, .inr (0, [.int K.2.1, .ref K.2.2.1, .int (nI fs.length)]))] (arc g K fs.length ++ (fcs g fs ++ P)) (fun v2 X2 P2 => ∃ (st1 : Nat → Int32) (wt1 : Int32) (wu1 : Int32), v2 = some (.int (if inB p0 2 = true ∧ inB p1 3600 = true then (nrC sf n p0 p1 p2 fs).1 else (-1))) ∧ X2 = [(t, .inr (12, [.ref t1, .ref t2, .ref t3, .ref t4, .ref t5, .ref t6, .ref t7, .ref t8, .int dt])), (t1, .inr (7, [.ref m1, .ref m2, .ref m3, .int (nI n)])), (m2, .inl (g.2.1 0, 12, .inl sf)), (t5, .inr (1, [.ref t1, .ref t4, .ref y1, .ref y2, .int wt1, .int wu1])), (y1, .inl (g.2.1 0, 12, .inl st1)), (t4, .inr (5, [.ref K.1])), (K.1, .inr (0, [.int K.2.1, .ref K.2.2.1, .int (nI fs.length)]))] ∧ P2 = arc g K fs.length ++ (fcs g fs ++ P)) := by
  refine MP.of (by decide) (Nat.le_of_ble_eq_true rfl) (fun κ C => ?_)
  have C : zC κ l g ({ frames := 6, cells := 0, slots := 0, locals := 134 }) b_TL_wicks 4 "TombLane" "wicks" (some FieldType.int) _ := C
  refine g_lv (lv1 := [(0, .ref t), (1, .int p0), (2, .int p1), (3, .int p2)]) [0, 1, 2, 3] rfl ?_
  refine g_iload_n C 1 rfl d_TL_wicks_0 ?_
  refine g_iconst (v := 2) C rfl d_TL_wicks_1 ?_
  refine g_callS0 (rest := []) (Xn := [(t, .inr (12, [.ref t1, .ref t2, .ref t3, .ref t4, .ref t5, .ref t6, .ref t7, .ref t8, .int dt])), (t1, .inr (7, [.ref m1, .ref m2, .ref m3, .int (nI n)])), (m2, .inl (g.2.1 0, 12, .inl sf)), (t5, .inr (1, [.ref t1, .ref t4, .ref y1, .ref y2, .int wt, .int wu])), (y1, .inl (g.2.1 0, 12, .inl st)), (t4, .inr (5, [.ref K.1])), (K.1, .inr (0, [.int K.2.1, .ref K.2.2.1, .int (nI fs.length)]))]) C (c_TL_isBelow l g p0 2) [] [0, 1, 2, 3, 4, 5, 6] [0, 1, 2, 3, 4, 5, 6] rfl (by decide) (by decide) rfl mo_TL_isBelow ms_TL_isBelow kw_404 (by decide) rfl (Nat.le_of_ble_eq_true rfl) ⟨Nat.le_of_ble_eq_true rfl, Nat.le_of_ble_eq_true rfl⟩ d_TL_wicks_2 ?_
  refine g_if_eq C d_TL_wicks_5 (fun c_1 => ?_) (fun c_1 => ?_)
  · have c_1 := zb_0.mp c_1
    refine g_iconst (v := (-1)) C rfl d_TL_wicks_18 ?_
    exact g_iret C rfl ⟨st, wt, wu, (by simp [c_1]), rfl, rfl⟩ (by first | decide | (dsimp only; omega)) (by first | decide | (dsimp only; omega)) d_TL_wicks_19
  · have c_1 := zb_n0.mp c_1
    refine g_iload_n C 2 rfl d_TL_wicks_8 ?_
    refine g_sipush (v := 3600) C rfl d_TL_wicks_9 ?_
    refine g_callS0 (rest := []) (Xn := [(t, .inr (12, [.ref t1, .ref t2, .ref t3, .ref t4, .ref t5, .ref t6, .ref t7, .ref t8, .int dt])), (t1, .inr (7, [.ref m1, .ref m2, .ref m3, .int (nI n)])), (m2, .inl (g.2.1 0, 12, .inl sf)), (t5, .inr (1, [.ref t1, .ref t4, .ref y1, .ref y2, .int wt, .int wu])), (y1, .inl (g.2.1 0, 12, .inl st)), (t4, .inr (5, [.ref K.1])), (K.1, .inr (0, [.int K.2.1, .ref K.2.2.1, .int (nI fs.length)]))]) C (c_TL_isBelow l g p1 3600) [] [0, 1, 2, 3, 4, 5, 6] [0, 1, 2, 3, 4, 5, 6] rfl (by decide) (by decide) rfl mo_TL_isBelow ms_TL_isBelow kw_404 (by decide) rfl (Nat.le_of_ble_eq_true rfl) ⟨Nat.le_of_ble_eq_true rfl, Nat.le_of_ble_eq_true rfl⟩ d_TL_wicks_12 ?_
    refine g_if_ne C d_TL_wicks_15 (fun c_2 => ?_) (fun c_2 => ?_)
    · have c_2 := zb_n0.mp c_2
      refine g_aload_n C 0 rfl d_TL_wicks_20 ?_
      refine g_get C 0 rfl rfl in_TL 4 (by decide) kw_376 rfl d_TL_wicks_21 ?_
      refine g_iload_n C 1 rfl d_TL_wicks_24 ?_
      refine g_iload_n C 2 rfl d_TL_wicks_25 ?_
      refine g_iload_n C 3 rfl d_TL_wicks_26 ?_
      refine g_callVNP (rest := []) C (c_Dy_reckon l g t5 y1 y2 t1 t4 m1 m2 m3 n sf K fs p0 p1 p2 st wt wu P hn hK hfk) [3, 4, 1, 2, 5, 6] [0] rfl (by decide) mo_Dy_reckon mv_Dy_reckon kw_757 (by decide) (rcX 3 rfl rfl) rfl (Nat.le_of_ble_eq_true rfl) ⟨Nat.le_of_ble_eq_true rfl, Nat.le_of_ble_eq_true rfl⟩ d_TL_wicks_27 (fun v2 X2 P2 q => ?_)
      obtain ⟨rfl, rfl, rfl⟩ := q
      refine g_ord (X1 := [(t, .inr (12, [.ref t1, .ref t2, .ref t3, .ref t4, .ref t5, .ref t6, .ref t7, .ref t8, .int dt])), (t1, .inr (7, [.ref m1, .ref m2, .ref m3, .int (nI n)])), (m2, .inl (g.2.1 0, 12, .inl sf)), (t5, .inr (1, [.ref t1, .ref t4, .ref y1, .ref y2, .int (rkC sf n p0 p1 p2 fs).2.1, .int (rkC sf n p0 p1 p2 fs).2.2])), (y1, .inl (g.2.1 0, 12, .inl (nrC sf n p0 p1 p2 fs).2)), (t4, .inr (5, [.ref K.1])), (K.1, .inr (0, [.int K.2.1, .ref K.2.2.1, .int (nI fs.length)]))]) [0, 3, 4, 1, 2, 5, 6] (by decide) rfl ?_
      exact g_iret C rfl ⟨(nrC sf n p0 p1 p2 fs).2, (rkC sf n p0 p1 p2 fs).2.1, (rkC sf n p0 p1 p2 fs).2.2, (by simp [c_1, c_2]), rfl, rfl⟩ (by first | decide | (dsimp only; omega)) (by first | decide | (dsimp only; omega)) d_TL_wicks_30
    · have c_2 := zb_0.mp c_2
      refine g_iconst (v := (-1)) C rfl d_TL_wicks_18 ?_
      exact g_iret C rfl ⟨st, wt, wu, (by simp [c_1, c_2]), rfl, rfl⟩ (by first | decide | (dsimp only; omega)) (by first | decide | (dsimp only; omega)) d_TL_wicks_19

set_option maxHeartbeats 4000000 in
set_option maxRecDepth 100000 in
theorem c_TL_span (l : Launch) (g : Gx) (t t1 t2 t3 t4 t5 t6 t7 t8 m1 m2 m3 y1 y2 n : Nat) (dt wt wu : Int32) (sf st : Nat → Int32) (K : AR) (fs : List FR) (df : Nat → Int32) (p0 p1 p2 p3 : Int32) (P : va_W) (hn : n ≤ 12) (hK : okA g K (fad fs)) (hfk : ∀ r ∈ fs, fok g r) (hv : ∀ p d, vp_in ((nrC sf n (sf p) d p2 fs).2 p) 8) : MP l g y_TL_span b_TL_span 6 (some FieldType.int) ({ frames := 8, cells := 0, slots := 0, locals := 181 }) [.ref t, .int p0, .int p1, .int p2, .int p3] [(t, .inr (12, [.ref t1, .ref t2, .ref t3, .ref t4, .ref t5, .ref t6, .ref t7, .ref t8, .int dt])), (t1, .inr (7, [.ref m1, .ref m2, .ref m3, .int (nI n)])), (m2, .inl (g.2.1 0, 12, .inl sf)), (t5, .inr (1, [.ref t1, .ref t4, .ref y1, .ref y2, .int wt, .int wu])), (y1, .inl (g.2.1 0, 12, .inl st)), (t4, .inr (5, [.ref K.1])), (K.1, .inr (0, [.int K.2.1, .ref K.2.2.1, .int (nI fs.length)])), (y2, .inl (g.2.1 0, 8, .inl df))] (arc g K fs.length ++ (fcs g fs ++ P)) (fun v2 X2 P2 => ∃ (st1 : Nat → Int32) (wt1 : Int32) (wu1 : Int32) (df1 : Nat → Int32), v2 = some (.int (if inB p0 (nI n) = true ∧ inB p1 120 = true then (if p3 = 0 then (dsC sf n fs p0.toNatClampNeg p1 p2 (st, wt, wu)).1 1 else (dsC sf n fs p0.toNatClampNeg p1 p2 (st, wt, wu)).1 1 + (dsC sf n fs p0.toNatClampNeg p1 p2 (st, wt, wu)).1 0 + (dsC sf n fs p0.toNatClampNeg p1 p2 (st, wt, wu)).1 7) else (-1))) ∧ X2 = [(t, .inr (12, [.ref t1, .ref t2, .ref t3, .ref t4, .ref t5, .ref t6, .ref t7, .ref t8, .int dt])), (t1, .inr (7, [.ref m1, .ref m2, .ref m3, .int (nI n)])), (m2, .inl (g.2.1 0, 12, .inl sf)), (t5, .inr (1, [.ref t1, .ref t4, .ref y1, .ref y2, .int wt1, .int wu1])), (y1, .inl (g.2.1 0, 12, .inl st1)), (t4, .inr (5, [.ref K.1])), (K.1, .inr (0, [.int K.2.1, .ref K.2.2.1, .int (nI fs.length)])), (y2, .inl (g.2.1 0, 8, .inl df1))] ∧ P2 = arc g K fs.length ++ (fcs g fs ++ P)) := by
  refine MP.of (by decide) (Nat.le_of_ble_eq_true rfl) (fun κ C => ?_)
  have C : zC κ l g ({ frames := 8, cells := 0, slots := 0, locals := 181 }) b_TL_span 6 "TombLane" "span" (some FieldType.int) _ := C
  refine g_lv (lv1 := [(0, .ref t), (1, .int p0), (2, .int p1), (3, .int p2), (4, .int p3)]) [0, 1, 2, 3, 4] rfl ?_
  refine g_aload_n C 0 rfl d_TL_span_0 ?_
  refine g_get C 0 rfl rfl in_TL 0 (by decide) kw_372 rfl d_TL_span_1 ?_
  refine g_iload_n C 1 rfl d_TL_span_4 ?_
  refine g_callVN0 (rest := []) (Xn := [(t, .inr (12, [.ref t1, .ref t2, .ref t3, .ref t4, .ref t5, .ref t6, .ref t7, .ref t8, .int dt])), (t1, .inr (7, [.ref m1, .ref m2, .ref m3, .int (nI n)])), (m2, .inl (g.2.1 0, 12, .inl sf)), (t5, .inr (1, [.ref t1, .ref t4, .ref y1, .ref y2, .int wt, .int wu])), (y1, .inl (g.2.1 0, 12, .inl st)), (t4, .inr (5, [.ref K.1])), (K.1, .inr (0, [.int K.2.1, .ref K.2.2.1, .int (nI fs.length)])), (y2, .inl (g.2.1 0, 8, .inl df))]) C (c_Me_has l g t1 m1 m2 m3 (nI n) p0) [1] [0, 2, 3, 4, 5, 6, 7] [0, 7, 1, 2, 3, 4, 5, 6] rfl (by decide) (by decide) rfl mo_Me_has mv_Me_has kw_701 (by decide) (rcX 1 rfl rfl) rfl (Nat.le_of_ble_eq_true rfl) ⟨Nat.le_of_ble_eq_true rfl, Nat.le_of_ble_eq_true rfl⟩ d_TL_span_5 ?_
  refine g_if_eq C d_TL_span_8 (fun c_1 => ?_) (fun c_1 => ?_)
  · have c_1 := zb_0.mp c_1
    refine g_iconst (v := (-1)) C rfl d_TL_span_20 ?_
    exact g_iret C rfl ⟨st, wt, wu, df, (by simp [c_1]), rfl, rfl⟩ (by first | decide | (dsimp only; omega)) (by first | decide | (dsimp only; omega)) d_TL_span_21
  · have c_1 := zb_n0.mp c_1
    refine g_iload_n C 2 rfl d_TL_span_11 ?_
    refine g_bipush (v := 120) C rfl d_TL_span_12 ?_
    refine g_callS0 (rest := []) (Xn := [(t, .inr (12, [.ref t1, .ref t2, .ref t3, .ref t4, .ref t5, .ref t6, .ref t7, .ref t8, .int dt])), (t1, .inr (7, [.ref m1, .ref m2, .ref m3, .int (nI n)])), (m2, .inl (g.2.1 0, 12, .inl sf)), (t5, .inr (1, [.ref t1, .ref t4, .ref y1, .ref y2, .int wt, .int wu])), (y1, .inl (g.2.1 0, 12, .inl st)), (t4, .inr (5, [.ref K.1])), (K.1, .inr (0, [.int K.2.1, .ref K.2.2.1, .int (nI fs.length)])), (y2, .inl (g.2.1 0, 8, .inl df))]) C (c_TL_isBelow l g p1 120) [] [0, 1, 2, 3, 4, 5, 6, 7] [0, 1, 2, 3, 4, 5, 6, 7] rfl (by decide) (by decide) rfl mo_TL_isBelow ms_TL_isBelow kw_404 (by decide) rfl (Nat.le_of_ble_eq_true rfl) ⟨Nat.le_of_ble_eq_true rfl, Nat.le_of_ble_eq_true rfl⟩ d_TL_span_14 ?_
    refine g_if_ne C d_TL_span_17 (fun c_2 => ?_) (fun c_2 => ?_)
    · have c_2 := zb_n0.mp c_2
      refine g_aload_n C 0 rfl d_TL_span_22 ?_
      refine g_get C 0 rfl rfl in_TL 4 (by decide) kw_376 rfl d_TL_span_23 ?_
      refine g_iload_n C 1 rfl d_TL_span_26 ?_
      refine g_iload_n C 2 rfl d_TL_span_27 ?_
      refine g_iload_n C 3 rfl d_TL_span_28 ?_
      refine g_callVNP (rest := []) C (c_Dy_daysByState l g t5 y1 y2 t1 t4 m1 m2 m3 n sf K fs p0 p1 p2 st wt wu df P hn hK hfk (inB_vp 12 c_1 hn (by decide)) (fun d => hv _ d)) [3, 4, 1, 2, 5, 6, 7] [0] rfl (by decide) mo_Dy_daysByState mv_Dy_daysByState kw_762 (by decide) (rcX 3 rfl rfl) rfl (Nat.le_of_ble_eq_true rfl) ⟨Nat.le_of_ble_eq_true rfl, Nat.le_of_ble_eq_true rfl⟩ d_TL_span_29 (fun v2 X2 P2 q => ?_)
      obtain ⟨rfl, rfl, rfl⟩ := q
      refine g_ord (X1 := [(t, .inr (12, [.ref t1, .ref t2, .ref t3, .ref t4, .ref t5, .ref t6, .ref t7, .ref t8, .int dt])), (t1, .inr (7, [.ref m1, .ref m2, .ref m3, .int (nI n)])), (m2, .inl (g.2.1 0, 12, .inl sf)), (t5, .inr (1, [.ref t1, .ref t4, .ref y1, .ref y2, .int (dsC sf n fs p0.toNatClampNeg p1 p2 (st, wt, wu)).2.2.1, .int (dsC sf n fs p0.toNatClampNeg p1 p2 (st, wt, wu)).2.2.2])), (y1, .inl (g.2.1 0, 12, .inl (dsC sf n fs p0.toNatClampNeg p1 p2 (st, wt, wu)).2.1)), (t4, .inr (5, [.ref K.1])), (K.1, .inr (0, [.int K.2.1, .ref K.2.2.1, .int (nI fs.length)])), (y2, .inl (g.2.1 0, 8, .inl (dsC sf n fs p0.toNatClampNeg p1 p2 (st, wt, wu)).1))]) [0, 3, 4, 1, 2, 5, 6, 7] (by decide) rfl ?_
      refine g_astore (lv1 := [(0, .ref t), (1, .int p0), (2, .int p1), (3, .int p2), (4, .int p3), (5, .ref y2)]) C d_TL_span_32 [1, 2, 3, 4, 5, 0] (by decide) rfl ?_
      refine g_iload C 4 rfl d_TL_span_34 ?_
      refine g_if_eq C d_TL_span_36 (fun c_3 => ?_) (fun c_3 => ?_)
      · skip
        refine g_aload C 5 rfl d_TL_span_57 ?_
        refine g_iconst (v := 1) C rfl d_TL_span_59 ?_
        refine g_iald C 7 rfl (vp_in_nI (n := 1) (by decide) (by decide)) d_TL_span_60 ?_
        refine g_eq (st1 := [.int ((dsC sf n fs p0.toNatClampNeg p1 p2 (st, wt, wu)).1 1)]) (congrArg (fun z => Value.int z :: []) rfl) rfl ?_
        exact g_iret C rfl ⟨(dsC sf n fs p0.toNatClampNeg p1 p2 (st, wt, wu)).2.1, (dsC sf n fs p0.toNatClampNeg p1 p2 (st, wt, wu)).2.2.1, (dsC sf n fs p0.toNatClampNeg p1 p2 (st, wt, wu)).2.2.2, (dsC sf n fs p0.toNatClampNeg p1 p2 (st, wt, wu)).1, (by simp [c_1, c_2, eq_true c_3]), rfl, rfl⟩ (by first | decide | (dsimp only; omega)) (by first | decide | (dsimp only; omega)) d_TL_span_61
      · skip
        refine g_aload C 5 rfl d_TL_span_39 ?_
        refine g_iconst (v := 1) C rfl d_TL_span_41 ?_
        refine g_iald C 7 rfl (vp_in_nI (n := 1) (by decide) (by decide)) d_TL_span_42 ?_
        refine g_eq (st1 := [.int ((dsC sf n fs p0.toNatClampNeg p1 p2 (st, wt, wu)).1 1)]) (congrArg (fun z => Value.int z :: []) rfl) rfl ?_
        refine g_aload C 5 rfl d_TL_span_43 ?_
        refine g_iconst (v := 0) C rfl d_TL_span_45 ?_
        refine g_iald C 7 rfl (vp_in_nI (n := 0) (by decide) (by decide)) d_TL_span_46 ?_
        refine g_eq (st1 := [.int ((dsC sf n fs p0.toNatClampNeg p1 p2 (st, wt, wu)).1 0), .int ((dsC sf n fs p0.toNatClampNeg p1 p2 (st, wt, wu)).1 1)]) (congrArg (fun z => Value.int z :: [.int ((dsC sf n fs p0.toNatClampNeg p1 p2 (st, wt, wu)).1 1)]) rfl) rfl ?_
        refine g_iadd C d_TL_span_47 ?_
        refine g_aload C 5 rfl d_TL_span_48 ?_
        refine g_bipush (v := 7) C rfl d_TL_span_50 ?_
        refine g_iald C 7 rfl (vp_in_nI (n := 7) (by decide) (by decide)) d_TL_span_52 ?_
        refine g_eq (st1 := [.int ((dsC sf n fs p0.toNatClampNeg p1 p2 (st, wt, wu)).1 7), .int (((dsC sf n fs p0.toNatClampNeg p1 p2 (st, wt, wu)).1 1) + ((dsC sf n fs p0.toNatClampNeg p1 p2 (st, wt, wu)).1 0))]) (congrArg (fun z => Value.int z :: [.int (((dsC sf n fs p0.toNatClampNeg p1 p2 (st, wt, wu)).1 1) + ((dsC sf n fs p0.toNatClampNeg p1 p2 (st, wt, wu)).1 0))]) rfl) rfl ?_
        refine g_iadd C d_TL_span_53 ?_
        refine g_goto C d_TL_span_54 ?_
        exact g_iret C rfl ⟨(dsC sf n fs p0.toNatClampNeg p1 p2 (st, wt, wu)).2.1, (dsC sf n fs p0.toNatClampNeg p1 p2 (st, wt, wu)).2.2.1, (dsC sf n fs p0.toNatClampNeg p1 p2 (st, wt, wu)).2.2.2, (dsC sf n fs p0.toNatClampNeg p1 p2 (st, wt, wu)).1, (by simp [c_1, c_2, c_3]), rfl, rfl⟩ (by first | decide | (dsimp only; omega)) (by first | decide | (dsimp only; omega)) d_TL_span_61
    · have c_2 := zb_0.mp c_2
      refine g_iconst (v := (-1)) C rfl d_TL_span_20 ?_
      exact g_iret C rfl ⟨st, wt, wu, df, (by simp [c_1, c_2]), rfl, rfl⟩ (by first | decide | (dsimp only; omega)) (by first | decide | (dsimp only; omega)) d_TL_span_21

theorem rsn_vp {x : Int32} (h1 : ¬ x < 2) (h2 : x ≤ 6) : vp_in x 8 := by
  obtain ⟨j, hj, rfl⟩ := nI_of2 (x := x) (M := 6) (n := 6) (by decide) (fun z => h1 (Int32.lt_trans z (by decide))) h2
  exact vp_in_nI (by omega) (by decide)
set_option maxHeartbeats 4000000 in
set_option maxRecDepth 100000 in
theorem c_TL_missed (l : Launch) (g : Gx) (t t1 t2 t3 t4 t5 t6 t7 t8 m1 m2 m3 y1 y2 n : Nat) (dt wt wu : Int32) (sf st : Nat → Int32) (K : AR) (fs : List FR) (df : Nat → Int32) (p0 p1 p2 p3 : Int32) (P : va_W) (hn : n ≤ 12) (hK : okA g K (fad fs)) (hfk : ∀ r ∈ fs, fok g r) (hv : ∀ p d, vp_in ((nrC sf n (sf p) d p3 fs).2 p) 8) : MP l g y_TL_missed b_TL_missed 5 (some FieldType.int) ({ frames := 8, cells := 0, slots := 0, locals := 181 }) [.ref t, .int p0, .int p1, .int p2, .int p3] [(t, .inr (12, [.ref t1, .ref t2, .ref t3, .ref t4, .ref t5, .ref t6, .ref t7, .ref t8, .int dt])), (t1, .inr (7, [.ref m1, .ref m2, .ref m3, .int (nI n)])), (m2, .inl (g.2.1 0, 12, .inl sf)), (t5, .inr (1, [.ref t1, .ref t4, .ref y1, .ref y2, .int wt, .int wu])), (y1, .inl (g.2.1 0, 12, .inl st)), (t4, .inr (5, [.ref K.1])), (K.1, .inr (0, [.int K.2.1, .ref K.2.2.1, .int (nI fs.length)])), (y2, .inl (g.2.1 0, 8, .inl df))] (arc g K fs.length ++ (fcs g fs ++ P)) (fun v2 X2 P2 => ∃ (st1 : Nat → Int32) (wt1 : Int32) (wu1 : Int32) (df1 : Nat → Int32), v2 = some (.int (if inB p0 (nI n) = true ∧ inB p1 120 = true ∧ ¬ p2 < 2 ∧ p2 ≤ 6 then (dsC sf n fs p0.toNatClampNeg p1 p3 (st, wt, wu)).1 p2.toNatClampNeg else (-1))) ∧ X2 = [(t, .inr (12, [.ref t1, .ref t2, .ref t3, .ref t4, .ref t5, .ref t6, .ref t7, .ref t8, .int dt])), (t1, .inr (7, [.ref m1, .ref m2, .ref m3, .int (nI n)])), (m2, .inl (g.2.1 0, 12, .inl sf)), (t5, .inr (1, [.ref t1, .ref t4, .ref y1, .ref y2, .int wt1, .int wu1])), (y1, .inl (g.2.1 0, 12, .inl st1)), (t4, .inr (5, [.ref K.1])), (K.1, .inr (0, [.int K.2.1, .ref K.2.2.1, .int (nI fs.length)])), (y2, .inl (g.2.1 0, 8, .inl df1))] ∧ P2 = arc g K fs.length ++ (fcs g fs ++ P)) := by
  refine MP.of (by decide) (Nat.le_of_ble_eq_true rfl) (fun κ C => ?_)
  have C : zC κ l g ({ frames := 8, cells := 0, slots := 0, locals := 181 }) b_TL_missed 5 "TombLane" "missed" (some FieldType.int) _ := C
  refine g_lv (lv1 := [(0, .ref t), (1, .int p0), (2, .int p1), (3, .int p2), (4, .int p3)]) [0, 1, 2, 3, 4] rfl ?_
  refine g_aload_n C 0 rfl d_TL_missed_0 ?_
  refine g_get C 0 rfl rfl in_TL 0 (by decide) kw_372 rfl d_TL_missed_1 ?_
  refine g_iload_n C 1 rfl d_TL_missed_4 ?_
  refine g_callVN0 (rest := []) (Xn := [(t, .inr (12, [.ref t1, .ref t2, .ref t3, .ref t4, .ref t5, .ref t6, .ref t7, .ref t8, .int dt])), (t1, .inr (7, [.ref m1, .ref m2, .ref m3, .int (nI n)])), (m2, .inl (g.2.1 0, 12, .inl sf)), (t5, .inr (1, [.ref t1, .ref t4, .ref y1, .ref y2, .int wt, .int wu])), (y1, .inl (g.2.1 0, 12, .inl st)), (t4, .inr (5, [.ref K.1])), (K.1, .inr (0, [.int K.2.1, .ref K.2.2.1, .int (nI fs.length)])), (y2, .inl (g.2.1 0, 8, .inl df))]) C (c_Me_has l g t1 m1 m2 m3 (nI n) p0) [1] [0, 2, 3, 4, 5, 6, 7] [0, 7, 1, 2, 3, 4, 5, 6] rfl (by decide) (by decide) rfl mo_Me_has mv_Me_has kw_701 (by decide) (rcX 1 rfl rfl) rfl (Nat.le_of_ble_eq_true rfl) ⟨Nat.le_of_ble_eq_true rfl, Nat.le_of_ble_eq_true rfl⟩ d_TL_missed_5 ?_
  refine g_if_eq C d_TL_missed_8 (fun c_1 => ?_) (fun c_1 => ?_)
  · have c_1 := zb_0.mp c_1
    refine g_iconst (v := (-1)) C rfl d_TL_missed_31 ?_
    exact g_iret C rfl ⟨st, wt, wu, df, (by simp [c_1]), rfl, rfl⟩ (by first | decide | (dsimp only; omega)) (by first | decide | (dsimp only; omega)) d_TL_missed_32
  · have c_1 := zb_n0.mp c_1
    refine g_iload_n C 2 rfl d_TL_missed_11 ?_
    refine g_bipush (v := 120) C rfl d_TL_missed_12 ?_
    refine g_callS0 (rest := []) (Xn := [(t, .inr (12, [.ref t1, .ref t2, .ref t3, .ref t4, .ref t5, .ref t6, .ref t7, .ref t8, .int dt])), (t1, .inr (7, [.ref m1, .ref m2, .ref m3, .int (nI n)])), (m2, .inl (g.2.1 0, 12, .inl sf)), (t5, .inr (1, [.ref t1, .ref t4, .ref y1, .ref y2, .int wt, .int wu])), (y1, .inl (g.2.1 0, 12, .inl st)), (t4, .inr (5, [.ref K.1])), (K.1, .inr (0, [.int K.2.1, .ref K.2.2.1, .int (nI fs.length)])), (y2, .inl (g.2.1 0, 8, .inl df))]) C (c_TL_isBelow l g p1 120) [] [0, 1, 2, 3, 4, 5, 6, 7] [0, 1, 2, 3, 4, 5, 6, 7] rfl (by decide) (by decide) rfl mo_TL_isBelow ms_TL_isBelow kw_404 (by decide) rfl (Nat.le_of_ble_eq_true rfl) ⟨Nat.le_of_ble_eq_true rfl, Nat.le_of_ble_eq_true rfl⟩ d_TL_missed_14 ?_
    refine g_if_eq C d_TL_missed_17 (fun c_2 => ?_) (fun c_2 => ?_)
    · have c_2 := zb_0.mp c_2
      refine g_iconst (v := (-1)) C rfl d_TL_missed_31 ?_
      exact g_iret C rfl ⟨st, wt, wu, df, (by simp [c_1, c_2]), rfl, rfl⟩ (by first | decide | (dsimp only; omega)) (by first | decide | (dsimp only; omega)) d_TL_missed_32
    · have c_2 := zb_n0.mp c_2
      refine g_iload_n C 3 rfl d_TL_missed_20 ?_
      refine g_iconst (v := 2) C rfl d_TL_missed_21 ?_
      refine g_icmp_lt C d_TL_missed_22 (fun c_3 => ?_) (fun c_3 => ?_)
      · skip
        refine g_iconst (v := (-1)) C rfl d_TL_missed_31 ?_
        exact g_iret C rfl ⟨st, wt, wu, df, (by simp [c_1, c_2, c_3, Int32.not_le.mpr c_3]), rfl, rfl⟩ (by first | decide | (dsimp only; omega)) (by first | decide | (dsimp only; omega)) d_TL_missed_32
      · skip
        refine g_iload_n C 3 rfl d_TL_missed_25 ?_
        refine g_bipush (v := 6) C rfl d_TL_missed_26 ?_
        refine g_icmp_le C d_TL_missed_28 (fun c_4 => ?_) (fun c_4 => ?_)
        · skip
          refine g_aload_n C 0 rfl d_TL_missed_33 ?_
          refine g_get C 0 rfl rfl in_TL 4 (by decide) kw_376 rfl d_TL_missed_34 ?_
          refine g_iload_n C 1 rfl d_TL_missed_37 ?_
          refine g_iload_n C 2 rfl d_TL_missed_38 ?_
          refine g_iload C 4 rfl d_TL_missed_39 ?_
          refine g_callVNP (rest := []) C (c_Dy_daysByState l g t5 y1 y2 t1 t4 m1 m2 m3 n sf K fs p0 p1 p3 st wt wu df P hn hK hfk (inB_vp 12 c_1 hn (by decide)) (fun d => hv _ d)) [3, 4, 1, 2, 5, 6, 7] [0] rfl (by decide) mo_Dy_daysByState mv_Dy_daysByState kw_762 (by decide) (rcX 3 rfl rfl) rfl (Nat.le_of_ble_eq_true rfl) ⟨Nat.le_of_ble_eq_true rfl, Nat.le_of_ble_eq_true rfl⟩ d_TL_missed_41 (fun v2 X2 P2 q => ?_)
          obtain ⟨rfl, rfl, rfl⟩ := q
          refine g_ord (X1 := [(t, .inr (12, [.ref t1, .ref t2, .ref t3, .ref t4, .ref t5, .ref t6, .ref t7, .ref t8, .int dt])), (t1, .inr (7, [.ref m1, .ref m2, .ref m3, .int (nI n)])), (m2, .inl (g.2.1 0, 12, .inl sf)), (t5, .inr (1, [.ref t1, .ref t4, .ref y1, .ref y2, .int (dsC sf n fs p0.toNatClampNeg p1 p3 (st, wt, wu)).2.2.1, .int (dsC sf n fs p0.toNatClampNeg p1 p3 (st, wt, wu)).2.2.2])), (y1, .inl (g.2.1 0, 12, .inl (dsC sf n fs p0.toNatClampNeg p1 p3 (st, wt, wu)).2.1)), (t4, .inr (5, [.ref K.1])), (K.1, .inr (0, [.int K.2.1, .ref K.2.2.1, .int (nI fs.length)])), (y2, .inl (g.2.1 0, 8, .inl (dsC sf n fs p0.toNatClampNeg p1 p3 (st, wt, wu)).1))]) [0, 3, 4, 1, 2, 5, 6, 7] (by decide) rfl ?_
          refine g_iload_n C 3 rfl d_TL_missed_44 ?_
          refine g_iald C 7 rfl (rsn_vp c_3 c_4) d_TL_missed_45 ?_
          exact g_iret C rfl ⟨(dsC sf n fs p0.toNatClampNeg p1 p3 (st, wt, wu)).2.1, (dsC sf n fs p0.toNatClampNeg p1 p3 (st, wt, wu)).2.2.1, (dsC sf n fs p0.toNatClampNeg p1 p3 (st, wt, wu)).2.2.2, (dsC sf n fs p0.toNatClampNeg p1 p3 (st, wt, wu)).1, (by simp [c_1, c_2, c_3, Int32.not_lt.mp c_3, c_4, Int32.not_lt.mpr c_4]), rfl, rfl⟩ (by first | decide | (dsimp only; omega)) (by first | decide | (dsimp only; omega)) d_TL_missed_46
        · skip
          refine g_iconst (v := (-1)) C rfl d_TL_missed_31 ?_
          exact g_iret C rfl ⟨st, wt, wu, df, (by simp [c_1, c_2, c_3, Int32.not_lt.mp c_3, c_4, Int32.not_le.mp c_4]), rfl, rfl⟩ (by first | decide | (dsimp only; omega)) (by first | decide | (dsimp only; omega)) d_TL_missed_32

def abC (n : Nat) (fs : List FR) (dt rc dc tl p : Int32) : Int32 := if p = 0 then nI n else if p = 1 then nI fs.length else if p = 2 then dt else if p = 3 then rc else if p = 4 then dc else if p = 5 then tl else if p < 10 then (-1) else if inB (p - 10) (nI fs.length) = true then nI (lnA fs (p - 10).toNatClampNeg) else (-1)
set_option maxHeartbeats 4000000 in
set_option maxRecDepth 100000 in
theorem c_TL_about (l : Launch) (g : Gx) (t t1 t2 t3 t4 t5 t6 t7 t8 m1 m2 m3 b1 s1 s2 s3 s4 d1 d2 d3 d4 d5 d6 d7 d8 n : Nat) (dt tl rc dc : Int32) (K : AR) (fs : List FR) (p0 : Int32) (P : va_W) (hl : fs.length ≤ 40) (hK : okA g K (fad fs)) : MP l g y_TL_about b_TL_about 2 (some FieldType.int) ({ frames := 5, cells := 0, slots := 0, locals := 105 }) [.ref t, .int p0] [(t, .inr (12, [.ref t1, .ref t2, .ref t3, .ref t4, .ref t5, .ref t6, .ref t7, .ref t8, .int dt])), (t1, .inr (7, [.ref m1, .ref m2, .ref m3, .int (nI n)])), (t2, .inr (10, [.ref b1, .int tl])), (t4, .inr (5, [.ref K.1])), (K.1, .inr (0, [.int K.2.1, .ref K.2.2.1, .int (nI fs.length)])), (t6, .inr (8, [.ref t1, .ref s1, .ref s2, .ref s3, .ref s4, .int rc])), (t7, .inr (2, [.ref d1, .ref d2, .ref d3, .ref d4, .ref d5, .ref d6, .int dc, .ref d7, .ref d8]))] (arc g K fs.length ++ (fcs g fs ++ P)) (fun v2 X2 P2 => v2 = some (.int (abC n fs dt rc dc tl p0)) ∧ X2 = [(t, .inr (12, [.ref t1, .ref t2, .ref t3, .ref t4, .ref t5, .ref t6, .ref t7, .ref t8, .int dt])), (t1, .inr (7, [.ref m1, .ref m2, .ref m3, .int (nI n)])), (t2, .inr (10, [.ref b1, .int tl])), (t4, .inr (5, [.ref K.1])), (K.1, .inr (0, [.int K.2.1, .ref K.2.2.1, .int (nI fs.length)])), (t6, .inr (8, [.ref t1, .ref s1, .ref s2, .ref s3, .ref s4, .int rc])), (t7, .inr (2, [.ref d1, .ref d2, .ref d3, .ref d4, .ref d5, .ref d6, .int dc, .ref d7, .ref d8]))] ∧ P2 = arc g K fs.length ++ (fcs g fs ++ P)) := by
  refine MP.of (by decide) (Nat.le_of_ble_eq_true rfl) (fun κ C => ?_)
  have C : zC κ l g ({ frames := 5, cells := 0, slots := 0, locals := 105 }) b_TL_about 2 "TombLane" "about" (some FieldType.int) _ := C
  refine g_lv (lv1 := [(0, .ref t), (1, .int p0)]) [0, 1] rfl ?_
  refine g_iload_n C 1 rfl d_TL_about_0 ?_
  by_cases t_1 : p0 = 0
  · refine g_tabIn (tgt := 40) C 0 t_1 d_TL_about_1 (by decide) (by decide) rfl (by decide) ?_
    refine g_aload_n C 0 rfl d_TL_about_40 ?_
    refine g_get C 0 rfl rfl in_TL 0 (by decide) kw_372 rfl d_TL_about_41 ?_
    refine g_getN C 1 rfl rfl in_Me 3 (by decide) kw_123 rfl d_TL_about_44 ?_
    exact g_iret C rfl ⟨(by simp [abC, eq_true t_1]), rfl, rfl⟩ (by first | decide | (dsimp only; omega)) (by first | decide | (dsimp only; omega)) d_TL_about_47
  by_cases t_2 : p0 = 1
  · refine g_tabIn (tgt := 48) C 1 t_2 d_TL_about_1 (by decide) (by decide) rfl (by decide) ?_
    refine g_aload_n C 0 rfl d_TL_about_48 ?_
    refine g_get C 0 rfl rfl in_TL 3 (by decide) kw_375 rfl d_TL_about_49 ?_
    refine g_callVN0 (rest := []) (Xn := [(t, .inr (12, [.ref t1, .ref t2, .ref t3, .ref t4, .ref t5, .ref t6, .ref t7, .ref t8, .int dt])), (t1, .inr (7, [.ref m1, .ref m2, .ref m3, .int (nI n)])), (t2, .inr (10, [.ref b1, .int tl])), (t4, .inr (5, [.ref K.1])), (K.1, .inr (0, [.int K.2.1, .ref K.2.2.1, .int (nI fs.length)])), (t6, .inr (8, [.ref t1, .ref s1, .ref s2, .ref s3, .ref s4, .int rc])), (t7, .inr (2, [.ref d1, .ref d2, .ref d3, .ref d4, .ref d5, .ref d6, .int dc, .ref d7, .ref d8]))]) C (c_Fs_count l g t4 K.1 K.2.2.1 K.2.1 (nI fs.length)) [3, 4] [0, 1, 2, 5, 6] [0, 1, 2, 5, 6, 3, 4] rfl (by decide) (by decide) rfl mo_Fs_count mv_Fs_count kw_856 (by decide) (rcX 3 rfl rfl) rfl (Nat.le_of_ble_eq_true rfl) ⟨Nat.le_of_ble_eq_true rfl, Nat.le_of_ble_eq_true rfl⟩ d_TL_about_52 ?_
    exact g_iret C rfl ⟨(by simp [abC, t_1, eq_true t_2]), rfl, rfl⟩ (by first | decide | (dsimp only; omega)) (by first | decide | (dsimp only; omega)) d_TL_about_55
  by_cases t_3 : p0 = 2
  · refine g_tabIn (tgt := 56) C 2 t_3 d_TL_about_1 (by decide) (by decide) rfl (by decide) ?_
    refine g_aload_n C 0 rfl d_TL_about_56 ?_
    refine g_get C 0 rfl rfl in_TL 8 (by decide) kw_380 rfl d_TL_about_57 ?_
    exact g_iret C rfl ⟨(by simp [abC, t_1, t_2, eq_true t_3]), rfl, rfl⟩ (by first | decide | (dsimp only; omega)) (by first | decide | (dsimp only; omega)) d_TL_about_60
  by_cases t_4 : p0 = 3
  · refine g_tabIn (tgt := 61) C 3 t_4 d_TL_about_1 (by decide) (by decide) rfl (by decide) ?_
    refine g_aload_n C 0 rfl d_TL_about_61 ?_
    refine g_get C 0 rfl rfl in_TL 5 (by decide) kw_377 rfl d_TL_about_62 ?_
    refine g_getN C 5 rfl rfl in_Ra 5 (by decide) kw_310 rfl d_TL_about_65 ?_
    exact g_iret C rfl ⟨(by simp [abC, t_1, t_2, t_3, eq_true t_4]), rfl, rfl⟩ (by first | decide | (dsimp only; omega)) (by first | decide | (dsimp only; omega)) d_TL_about_68
  by_cases t_5 : p0 = 4
  · refine g_tabIn (tgt := 69) C 4 t_5 d_TL_about_1 (by decide) (by decide) rfl (by decide) ?_
    refine g_aload_n C 0 rfl d_TL_about_69 ?_
    refine g_get C 0 rfl rfl in_TL 6 (by decide) kw_378 rfl d_TL_about_70 ?_
    refine g_getN C 6 rfl rfl in_De 6 (by decide) kw_337 rfl d_TL_about_73 ?_
    exact g_iret C rfl ⟨(by simp [abC, t_1, t_2, t_3, t_4, eq_true t_5]), rfl, rfl⟩ (by first | decide | (dsimp only; omega)) (by first | decide | (dsimp only; omega)) d_TL_about_76
  by_cases t_6 : p0 = 5
  · refine g_tabIn (tgt := 77) C 5 t_6 d_TL_about_1 (by decide) (by decide) rfl (by decide) ?_
    refine g_aload_n C 0 rfl d_TL_about_77 ?_
    refine g_get C 0 rfl rfl in_TL 1 (by decide) kw_373 rfl d_TL_about_78 ?_
    refine g_getN C 2 rfl rfl in_Ta 1 (by decide) kw_143 rfl d_TL_about_81 ?_
    exact g_iret C rfl ⟨(by simp [abC, t_1, t_2, t_3, t_4, t_5, eq_true t_6]), rfl, rfl⟩ (by first | decide | (dsimp only; omega)) (by first | decide | (dsimp only; omega)) d_TL_about_84
  refine g_tabOut (tgt := 85) C 5 (by decide) rfl (fun c hc => by rcases (show c = 0 ∨ c = 1 ∨ c = 2 ∨ c = 3 ∨ c = 4 ∨ c = 5 by omega) with rfl | rfl | rfl | rfl | rfl | rfl <;> assumption) d_TL_about_1 (by decide) ?_
  refine g_iload_n C 1 rfl d_TL_about_85 ?_
  refine g_bipush (v := 10) C rfl d_TL_about_86 ?_
  refine g_icmp_ge C d_TL_about_88 (fun c_7 => ?_) (fun c_7 => ?_)
  · skip
    refine g_aload_n C 0 rfl d_TL_about_95 ?_
    refine g_get C 0 rfl rfl in_TL 3 (by decide) kw_375 rfl d_TL_about_96 ?_
    refine g_iload_n C 1 rfl d_TL_about_99 ?_
    refine g_bipush (v := 10) C rfl d_TL_about_100 ?_
    refine g_isub C d_TL_about_102 ?_
    refine g_callVNP (rest := []) C (c_Fs_linesOf l g t4 K fs (p0 - 10) P hl hK) [3, 4] [0, 1, 2, 5, 6] rfl (by decide) mo_Fs_linesOf mv_Fs_linesOf kw_860 (by decide) (rcX 3 rfl rfl) rfl (Nat.le_of_ble_eq_true rfl) ⟨Nat.le_of_ble_eq_true rfl, Nat.le_of_ble_eq_true rfl⟩ d_TL_about_103 (fun v2 X2 P2 q => ?_)
    obtain ⟨rfl, rfl, rfl⟩ := q
    refine g_ord (X1 := [(t, .inr (12, [.ref t1, .ref t2, .ref t3, .ref t4, .ref t5, .ref t6, .ref t7, .ref t8, .int dt])), (t1, .inr (7, [.ref m1, .ref m2, .ref m3, .int (nI n)])), (t2, .inr (10, [.ref b1, .int tl])), (t4, .inr (5, [.ref K.1])), (K.1, .inr (0, [.int K.2.1, .ref K.2.2.1, .int (nI fs.length)])), (t6, .inr (8, [.ref t1, .ref s1, .ref s2, .ref s3, .ref s4, .int rc])), (t7, .inr (2, [.ref d1, .ref d2, .ref d3, .ref d4, .ref d5, .ref d6, .int dc, .ref d7, .ref d8]))]) [0, 1, 2, 5, 6, 3, 4] (by decide) rfl ?_
    exact g_iret C rfl ⟨(by simp [abC, t_1, t_2, t_3, t_4, t_5, t_6, c_7, Int32.not_lt.mpr c_7]), rfl, rfl⟩ (by first | decide | (dsimp only; omega)) (by first | decide | (dsimp only; omega)) d_TL_about_106
  · skip
    refine g_iconst (v := (-1)) C rfl d_TL_about_91 ?_
    refine g_goto C d_TL_about_92 ?_
    exact g_iret C rfl ⟨(by simp [abC, t_1, t_2, t_3, t_4, t_5, t_6, c_7, Int32.not_le.mp c_7]), rfl, rfl⟩ (by first | decide | (dsimp only; omega)) (by first | decide | (dsimp only; omega)) d_TL_about_106

set_option maxHeartbeats 4000000 in
set_option maxRecDepth 100000 in
theorem c_TL_giveUp (l : Launch) (g : Gx) (t t1 t2 t3 t4 t5 t6 t7 t8 : Nat) (dt : Int32) (K : AR) (fs : List FR) (p0 : Int32) (P : va_W) (hl : fs.length ≤ 40) (hK : okA g K (fad fs)) : MP l g y_TL_giveUp b_TL_giveUp 2 (some FieldType.boolean) ({ frames := 5, cells := 0, slots := 0, locals := 106 }) [.ref t, .int p0] [(t, .inr (12, [.ref t1, .ref t2, .ref t3, .ref t4, .ref t5, .ref t6, .ref t7, .ref t8, .int dt])), (t4, .inr (5, [.ref K.1])), (K.1, .inr (0, [.int K.2.1, .ref K.2.2.1, .int (nI fs.length)]))] (arc g K fs.length ++ (fcs g fs ++ P)) (fun v2 X2 P2 => v2 = some (.int (zb (inB p0 (nI fs.length) = true ∧ guA fs p0.toNatClampNeg = 0))) ∧ X2 = [(t, .inr (12, [.ref t1, .ref t2, .ref t3, .ref t4, .ref t5, .ref t6, .ref t7, .ref t8, .int dt])), (t4, .inr (5, [.ref K.1])), (K.1, .inr (0, [.int K.2.1, .ref K.2.2.1, .int (nI fs.length)]))] ∧ P2 = arc g K fs.length ++ (fcs g (if inB p0 (nI fs.length) = true ∧ guA fs p0.toNatClampNeg = 0 then gvF fs p0.toNatClampNeg dt else fs) ++ P)) := by
  refine MP.of (by decide) (Nat.le_of_ble_eq_true rfl) (fun κ C => ?_)
  have C : zC κ l g ({ frames := 5, cells := 0, slots := 0, locals := 106 }) b_TL_giveUp 2 "TombLane" "giveUp" (some FieldType.boolean) _ := C
  refine g_lv (lv1 := [(0, .ref t), (1, .int p0)]) [0, 1] rfl ?_
  refine g_aload_n C 0 rfl d_TL_giveUp_0 ?_
  refine g_get C 0 rfl rfl in_TL 3 (by decide) kw_375 rfl d_TL_giveUp_1 ?_
  refine g_iload_n C 1 rfl d_TL_giveUp_4 ?_
  refine g_aload_n C 0 rfl d_TL_giveUp_5 ?_
  refine g_get C 0 rfl rfl in_TL 8 (by decide) kw_380 rfl d_TL_giveUp_6 ?_
  refine g_callVNP (rest := []) C (c_Fs_giveUpOn l g t4 K fs p0 dt P hl hK) [1, 2] [0] rfl (by decide) mo_Fs_giveUpOn mv_Fs_giveUpOn kw_672 (by decide) (rcX 1 rfl rfl) rfl (Nat.le_of_ble_eq_true rfl) ⟨Nat.le_of_ble_eq_true rfl, Nat.le_of_ble_eq_true rfl⟩ d_TL_giveUp_9 (fun v2 X2 P2 q => ?_)
  obtain ⟨rfl, rfl, rfl⟩ := q
  refine g_ord (X1 := [(t, .inr (12, [.ref t1, .ref t2, .ref t3, .ref t4, .ref t5, .ref t6, .ref t7, .ref t8, .int dt])), (t4, .inr (5, [.ref K.1])), (K.1, .inr (0, [.int K.2.1, .ref K.2.2.1, .int (nI fs.length)]))]) [0, 1, 2] (by decide) rfl ?_
  exact g_zret C zb_or rfl ⟨rfl, rfl, rfl⟩ (by first | decide | (dsimp only; omega)) (by first | decide | (dsimp only; omega)) d_TL_giveUp_12

theorem pac {A B C : va_W} : (A ++ (B ++ C)).Perm (B ++ (A ++ C)) := by
  rw [← List.append_assoc, ← List.append_assoc]
  exact List.Perm.append_right _ List.perm_append_comm
theorem g_dr {κ : Kx} {nL cs ss pc : Nat} {lv : List (Nat × Value)} {st : List Value} {X P X1 P1 D : va_W} (h : (X ++ P).Perm ((X1 ++ P1) ++ D)) (k : G κ nL cs ss pc lv st X1 P1) : G κ nL cs ss pc lv st X P := by
  intro H locs l1 hl hP hD hS
  exact k H locs l1 hl (P_left (P_perm h hP)) (D_left (D_perm h hD)) hS
theorem perm_no {X B A1 L1 Q : va_W} : ((X ++ B) ++ (A1 ++ (L1 ++ Q))).Perm ((X ++ Q) ++ (B ++ (A1 ++ L1))) := by
  rw [List.append_assoc, List.append_assoc]
  refine List.Perm.append_left _ ?_
  rw [show B ++ (A1 ++ (L1 ++ Q)) = (B ++ (A1 ++ L1)) ++ Q from by simp only [List.append_assoc]]
  exact List.perm_append_comm
theorem perm_mv {X A1 L1 A2 Q : va_W} : (X ++ (A1 ++ (L1 ++ (A2 ++ Q)))).Perm (X ++ (A2 ++ (A1 ++ (L1 ++ Q)))) :=
  List.Perm.append_left _ ((List.Perm.append_left _ pac).trans pac)
theorem perm_keep {X B A A1 L1 L2 P : va_W} : ((X ++ B) ++ (A ++ (A1 ++ (L1 ++ (L2 ++ P))))).Perm (X ++ (A ++ ((L2 ++ (B ++ (A1 ++ L1))) ++ P))) := by
  rw [List.append_assoc]
  refine List.Perm.append_left _ (pac.trans (List.Perm.append_left _ ?_))
  rw [show (L2 ++ (B ++ (A1 ++ L1))) ++ P = L2 ++ (B ++ (A1 ++ (L1 ++ P))) from by simp only [List.append_assoc]]
  exact (List.Perm.append_left _ ((List.Perm.append_left _ pac).trans pac)).trans pac
theorem fcs_snoc (g : Gx) (fs : List FR) (r : FR) : fcs g (fs ++ [r]) = fcs g fs ++ fc1 g r := by
  unfold fcs
  rw [List.flatMap_append]
  simp
theorem rdC_01 {nf : Nat → Int64} {sf : Nat → Int32} {n : Nat} {bf : Nat → Int32} {t : Nat} : ∀ (k j : Nat) (s : CS), (rdC nf sf n bf t k j s).1 = 0 ∨ (rdC nf sf n bf t k j s).1 = 1
  | 0, _, _ => Or.inl rfl
  | k + 1, j, s => by
    unfold rdC
    split
    · exact Or.inr rfl
    · split
      · exact rdC_01 k _ _
      · exact Or.inl rfl
/-- what flake() does to the class -/
def flk (fs : List FR) (dt : Int32) (R : Int32 × Int32 × Int32 × List LN) (u fa pl v : Int32) (fs1 : List FR) (u1 fa1 pl1 : Int32) : Prop :=
  (40 ≤ fs.length ∧ fs1 = fs ∧ v = (-2) ∧ u1 = u ∧ fa1 = fa ∧ pl1 = pl) ∨
  (fs.length < 40 ∧ u1 = 0 ∧ fa1 = R.2.1 ∧ pl1 = R.2.2.1 ∧ ((R.1 = 0 ∧ fs1 = fs ∧ v = (-1)) ∨ (R.1 = 1 ∧ v = nI fs.length ∧ ∃ r : FR, fs1 = fs ++ [r] ∧ r.2.2.1 = dt ∧ r.2.2.2.1 = 0 ∧ r.2.2.2.2.1 = 0 ∧ r.2.2.2.2.2.length ≤ 20 ∧ lnp r.2.2.2.2.2 = R.2.2.2)))
theorem cut0 {u : Nat} (h : u ≤ 300) : nI (cutT u 0) = 0 := by
  have : cutOk u 0 = true := by
    unfold cutOk
    exact decide_eq_true ⟨by decide, nI_pos' (by omega)⟩
  unfold cutT
  rw [if_pos this]
  decide
theorem fad_app (fs : List FR) (r : FR) : fad (fs ++ [r]) = fad fs ++ [r.1] := by simp [fad]
theorem fok_app {g : Gx} {fs : List FR} {r : FR} (h : ∀ r ∈ fs, fok g r) (hr : fok g r) : ∀ x ∈ fs ++ [r], fok g x := by
  intro x hx
  rcases List.mem_append.mp hx with hx | hx
  · exact h x hx
  · rw [List.mem_singleton.mp hx]; exact hr
set_option maxHeartbeats 4000000 in
set_option maxRecDepth 100000 in
theorem c_TL_flake (l : Launch) (g : Gx) (t t1 t2 t3 t4 t5 t6 t7 t8 m1 m2 m3 b1 e1 e3 n u : Nat) (dt fa pl ex ld nd nx kd pk : Int32) (va : Int64) (nf : Nat → Int64) (sf bf : Nat → Int32) (K : AR) (fs : List FR) (P : va_W) (hn : n ≤ 12) (hK : okA g K (fad fs)) (hfk : ∀ r ∈ fs, fok g r) (hl : fs.length ≤ 40) (hu : u ≤ 300) (hb : ∀ i, ¬ bf i = (-1)) : MP l g y_TL_flake b_TL_flake 3 (some FieldType.int) ({ frames := 10, cells := 63, slots := 1607, locals := 236 }) [.ref t] [(t, .inr (12, [.ref t1, .ref t2, .ref t3, .ref t4, .ref t5, .ref t6, .ref t7, .ref t8, .int dt])), (t1, .inr (7, [.ref m1, .ref m2, .ref m3, .int (nI n)])), (m1, .inl (g.2.1 1, 12, .inr (.inl nf))), (m2, .inl (g.2.1 0, 12, .inl sf)), (t2, .inr (10, [.ref b1, .int (nI u)])), (b1, .inl (g.2.1 0, 300, .inl bf)), (t3, .inr (4, [.ref e1, .ref t1, .int fa, .int pl, .int ex, .int ld, .ref e3, .int nd])), (e1, .inr (11, [.ref t2, .int nx, .int kd, .int pk, .long va])), (t4, .inr (5, [.ref K.1])), (K.1, .inr (0, [.int K.2.1, .ref K.2.2.1, .int (nI fs.length)]))] (arc g K fs.length ++ (fcs g fs ++ P)) (fun v2 X2 P2 => ∃ (vv : Int32) (fs1 : List FR) (kb : Int32 × Nat × Nat × (Nat → Option Nat)) (u1 : Int32) (fa1 : Int32) (pl1 : Int32) (ex1 : Int32) (ld1 : Int32) (nd1 : Int32) (nx1 : Int32) (kd1 : Int32) (pk1 : Int32) (e31 : Nat) (va1 : Int64), (okA g (K.1, kb) (fad fs1)) ∧ (∀ r ∈ fs1, fok g r) ∧ (flk fs dt (rdR nf sf n bf u ld nd) (nI u) fa pl vv fs1 u1 fa1 pl1) ∧ v2 = some (.int vv) ∧ X2 = [(t, .inr (12, [.ref t1, .ref t2, .ref t3, .ref t4, .ref t5, .ref t6, .ref t7, .ref t8, .int dt])), (t1, .inr (7, [.ref m1, .ref m2, .ref m3, .int (nI n)])), (m1, .inl (g.2.1 1, 12, .inr (.inl nf))), (m2, .inl (g.2.1 0, 12, .inl sf)), (t2, .inr (10, [.ref b1, .int u1])), (b1, .inl (g.2.1 0, 300, .inl bf)), (t3, .inr (4, [.ref e1, .ref t1, .int fa1, .int pl1, .int ex1, .int ld1, .ref e31, .int nd1])), (e1, .inr (11, [.ref t2, .int nx1, .int kd1, .int pk1, .long va1])), (t4, .inr (5, [.ref K.1])), (K.1, .inr (0, [.int kb.1, .ref kb.2.1, .int (nI fs1.length)]))] ∧ P2 = arc g (K.1, kb) fs1.length ++ (fcs g fs1 ++ P)) := by
  refine MP.of (by decide) (Nat.le_of_ble_eq_true rfl) (fun κ C => ?_)
  have C : zC κ l g ({ frames := 10, cells := 63, slots := 1607, locals := 236 }) b_TL_flake 3 "TombLane" "flake" (some FieldType.int) _ := C
  refine g_lv (lv1 := [(0, .ref t)]) [0] rfl ?_
  refine g_aload_n C 0 rfl d_TL_flake_0 ?_
  refine g_get C 0 rfl rfl in_TL 3 (by decide) kw_375 rfl d_TL_flake_1 ?_
  refine g_callVN0 (rest := []) (Xn := [(t, .inr (12, [.ref t1, .ref t2, .ref t3, .ref t4, .ref t5, .ref t6, .ref t7, .ref t8, .int dt])), (t1, .inr (7, [.ref m1, .ref m2, .ref m3, .int (nI n)])), (m1, .inl (g.2.1 1, 12, .inr (.inl nf))), (m2, .inl (g.2.1 0, 12, .inl sf)), (t2, .inr (10, [.ref b1, .int (nI u)])), (b1, .inl (g.2.1 0, 300, .inl bf)), (t3, .inr (4, [.ref e1, .ref t1, .int fa, .int pl, .int ex, .int ld, .ref e3, .int nd])), (e1, .inr (11, [.ref t2, .int nx, .int kd, .int pk, .long va])), (t4, .inr (5, [.ref K.1])), (K.1, .inr (0, [.int K.2.1, .ref K.2.2.1, .int (nI fs.length)]))]) C (c_Fs_isFull l g t4 K.1 K.2.2.1 fs.length K.2.1 (by first | assumption | omega | exact nI_pos (by omega))) [8, 9] [0, 1, 2, 3, 4, 5, 6, 7] [0, 1, 2, 3, 4, 5, 6, 7, 8, 9] rfl (by decide) (by decide) rfl mo_Fs_isFull mv_Fs_isFull kw_463 (by decide) (rcX 8 rfl rfl) rfl (Nat.le_of_ble_eq_true rfl) ⟨Nat.le_of_ble_eq_true rfl, Nat.le_of_ble_eq_true rfl⟩ d_TL_flake_4 ?_
  refine g_if_eq C d_TL_flake_7 (fun c_1 => ?_) (fun c_1 => ?_)
  · have c_1 := zb_0.mp c_1
    refine g_new (ci := 3) (fs := [.int 0, .null, .int 0, .int 0]) C rfl in_Fk ok_Fk kw_471 kw_472 kw_92 (fun j hj => by rcases (show j = 0 ∨ j = 1 ∨ j = 2 ∨ j = 3 by omega) with rfl | rfl | rfl | rfl <;> rfl) (by decide) (by decide) d_TL_flake_13 (fun f hf => ?_)
    refine g_eq (X1 := [(t, .inr (12, [.ref t1, .ref t2, .ref t3, .ref t4, .ref t5, .ref t6, .ref t7, .ref t8, .int dt])), (t1, .inr (7, [.ref m1, .ref m2, .ref m3, .int (nI n)])), (m1, .inl (g.2.1 1, 12, .inr (.inl nf))), (m2, .inl (g.2.1 0, 12, .inl sf)), (t2, .inr (10, [.ref b1, .int (nI u)])), (b1, .inl (g.2.1 0, 300, .inl bf)), (t3, .inr (4, [.ref e1, .ref t1, .int fa, .int pl, .int ex, .int ld, .ref e3, .int nd])), (e1, .inr (11, [.ref t2, .int nx, .int kd, .int pk, .long va])), (t4, .inr (5, [.ref K.1])), (K.1, .inr (0, [.int K.2.1, .ref K.2.2.1, .int (nI fs.length)])), (f, .inr (3, [.int 0, .null, .int 0, .int 0]))]) rfl rfl ?_
    refine g_dup C rfl d_TL_flake_16 ?_
    refine g_aload_n C 0 rfl d_TL_flake_17 ?_
    refine g_get C 0 rfl rfl in_TL 8 (by decide) kw_380 rfl d_TL_flake_18 ?_
    refine g_callINE (rest := [.ref f]) C (c_Fk_init l g f dt) [10] [0, 1, 2, 3, 4, 5, 6, 7, 8, 9] rfl (by decide) (fun _ _ _ q => by obtain ⟨_, -, -, q⟩ := q; exact q) mo_Fk_init mi_Fk_init rfl kw_473 (by decide) rfl (Nat.le_of_ble_eq_true rfl) ⟨Nat.le_of_ble_eq_true rfl, Nat.le_of_ble_eq_true rfl⟩ d_TL_flake_21 (fun v2 X2 q => ?_)
    obtain ⟨f1, rfl, rfl, -⟩ := q
    refine g_ord (X1 := [(t, .inr (12, [.ref t1, .ref t2, .ref t3, .ref t4, .ref t5, .ref t6, .ref t7, .ref t8, .int dt])), (t1, .inr (7, [.ref m1, .ref m2, .ref m3, .int (nI n)])), (m1, .inl (g.2.1 1, 12, .inr (.inl nf))), (m2, .inl (g.2.1 0, 12, .inl sf)), (t2, .inr (10, [.ref b1, .int (nI u)])), (b1, .inl (g.2.1 0, 300, .inl bf)), (t3, .inr (4, [.ref e1, .ref t1, .int fa, .int pl, .int ex, .int ld, .ref e3, .int nd])), (e1, .inr (11, [.ref t2, .int nx, .int kd, .int pk, .long va])), (t4, .inr (5, [.ref K.1])), (K.1, .inr (0, [.int K.2.1, .ref K.2.2.1, .int (nI fs.length)])), (f, .inr (3, [.int dt, .ref f1, .int 0, .int 0])), (f1, .inr (0, [.int 0, .ref g.2.2.1, .int 0]))]) [0, 1, 2, 3, 4, 5, 6, 7, 8, 9, 10, 11] (by decide) rfl ?_
    refine g_astore_n (lv1 := [(0, .ref t), (1, .ref f)]) C d_TL_flake_24 [1, 0] (by decide) rfl ?_
    refine g_aload_n C 0 rfl d_TL_flake_25 ?_
    refine g_get C 0 rfl rfl in_TL 2 (by decide) kw_374 rfl d_TL_flake_26 ?_
    refine g_aload_n C 1 rfl d_TL_flake_29 ?_
    refine g_callVNP (rest := []) C (c_Re_read l g t3 e1 t1 e3 t2 b1 m1 m2 m3 n u f f1 fa pl ex ld nd nx kd pk dt 0 0 va nf sf bf (arc g K fs.length ++ (fcs g fs ++ P)) hn hu hb) [6, 7, 4, 5, 1, 2, 3, 10, 11] [0, 8, 9] rfl (by decide) mo_Re_read mv_Re_read kw_497 (by decide) (rcX 6 rfl rfl) rfl (Nat.le_of_ble_eq_true rfl) ⟨Nat.le_of_ble_eq_true rfl, Nat.le_of_ble_eq_true rfl⟩ d_TL_flake_30 (fun v2 X2 P2 q => ?_)
    obtain ⟨b2, F, ex1, ld1, nd1, nx1, kd1, pk1, e31, va1, hok, hl20, hln, rfl, rfl, rfl⟩ := q
    refine g_ord (X1 := [(t, .inr (12, [.ref t1, .ref t2, .ref t3, .ref t4, .ref t5, .ref t6, .ref t7, .ref t8, .int dt])), (t1, .inr (7, [.ref m1, .ref m2, .ref m3, .int (nI n)])), (m1, .inl (g.2.1 1, 12, .inr (.inl nf))), (m2, .inl (g.2.1 0, 12, .inl sf)), (t2, .inr (10, [.ref b1, .int (nI u)])), (b1, .inl (g.2.1 0, 300, .inl bf)), (t3, .inr (4, [.ref e1, .ref t1, .int (rdR nf sf n bf u ld nd).2.1, .int (rdR nf sf n bf u ld nd).2.2.1, .int ex1, .int ld1, .ref e31, .int nd1])), (e1, .inr (11, [.ref t2, .int nx1, .int kd1, .int pk1, .long va1])), (t4, .inr (5, [.ref K.1])), (K.1, .inr (0, [.int K.2.1, .ref K.2.2.1, .int (nI fs.length)])), (f, .inr (3, [.int dt, .ref f1, .int 0, .int 0])), (f1, .inr (0, [.int b2.1, .ref b2.2.1, .int (nI F.length)]))]) [0, 7, 8, 9, 5, 6, 3, 4, 1, 2, 10, 11] (by decide) rfl ?_
    refine g_istore_n (lv1 := [(0, .ref t), (1, .ref f), (2, .int (rdR nf sf n bf u ld nd).1)]) C d_TL_flake_33 [1, 2, 0] (by decide) rfl ?_
    refine g_aload_n C 0 rfl d_TL_flake_34 ?_
    refine g_get C 0 rfl rfl in_TL 1 (by decide) kw_373 rfl d_TL_flake_35 ?_
    refine g_iconst (v := 0) C rfl d_TL_flake_38 ?_
    refine g_callVN0 (rest := []) (Xn := [(t, .inr (12, [.ref t1, .ref t2, .ref t3, .ref t4, .ref t5, .ref t6, .ref t7, .ref t8, .int dt])), (t1, .inr (7, [.ref m1, .ref m2, .ref m3, .int (nI n)])), (m1, .inl (g.2.1 1, 12, .inr (.inl nf))), (m2, .inl (g.2.1 0, 12, .inl sf)), (t2, .inr (10, [.ref b1, .int (nI (cutT u 0))])), (b1, .inl (g.2.1 0, 300, .inl bf)), (t3, .inr (4, [.ref e1, .ref t1, .int (rdR nf sf n bf u ld nd).2.1, .int (rdR nf sf n bf u ld nd).2.2.1, .int ex1, .int ld1, .ref e31, .int nd1])), (e1, .inr (11, [.ref t2, .int nx1, .int kd1, .int pk1, .long va1])), (t4, .inr (5, [.ref K.1])), (K.1, .inr (0, [.int K.2.1, .ref K.2.2.1, .int (nI fs.length)])), (f, .inr (3, [.int dt, .ref f1, .int 0, .int 0])), (f1, .inr (0, [.int b2.1, .ref b2.2.1, .int (nI F.length)]))]) C (c_Ta_cut l g t2 b1 u 0) [4] [0, 1, 2, 3, 5, 6, 7, 8, 9, 10, 11] [0, 1, 2, 3, 11, 4, 5, 6, 7, 8, 9, 10] rfl (by decide) (by decide) rfl mo_Ta_cut mv_Ta_cut kw_455 (by decide) (rcX 4 rfl rfl) rfl (Nat.le_of_ble_eq_true rfl) ⟨Nat.le_of_ble_eq_true rfl, Nat.le_of_ble_eq_true rfl⟩ d_TL_flake_39 ?_
    refine g_pop C rfl d_TL_flake_42 ?_
    refine g_iload_n C 2 rfl d_TL_flake_43 ?_
    refine g_if_eq C d_TL_flake_44 (fun c_2 => ?_) (fun c_2 => ?_)
    · skip
      refine g_iconst (v := (-1)) C rfl d_TL_flake_58 ?_
      refine g_dr (X1 := [(t, .inr (12, [.ref t1, .ref t2, .ref t3, .ref t4, .ref t5, .ref t6, .ref t7, .ref t8, .int dt])), (t1, .inr (7, [.ref m1, .ref m2, .ref m3, .int (nI n)])), (m1, .inl (g.2.1 1, 12, .inr (.inl nf))), (m2, .inl (g.2.1 0, 12, .inl sf)), (t2, .inr (10, [.ref b1, .int (nI (cutT u 0))])), (b1, .inl (g.2.1 0, 300, .inl bf)), (t3, .inr (4, [.ref e1, .ref t1, .int (rdR nf sf n bf u ld nd).2.1, .int (rdR nf sf n bf u ld nd).2.2.1, .int ex1, .int ld1, .ref e31, .int nd1])), (e1, .inr (11, [.ref t2, .int nx1, .int kd1, .int pk1, .long va1])), (t4, .inr (5, [.ref K.1])), (K.1, .inr (0, [.int K.2.1, .ref K.2.2.1, .int (nI fs.length)]))]) (P1 := arc g K fs.length ++ (fcs g fs ++ P)) (D := [(f, .inr (3, [.int dt, .ref f1, .int 0, .int 0])), (f1, .inr (0, [.int b2.1, .ref b2.2.1, .int (nI F.length)]))] ++ (arc g (f1, b2) F.length ++ lcs g F)) (perm_no (X := [(t, .inr (12, [.ref t1, .ref t2, .ref t3, .ref t4, .ref t5, .ref t6, .ref t7, .ref t8, .int dt])), (t1, .inr (7, [.ref m1, .ref m2, .ref m3, .int (nI n)])), (m1, .inl (g.2.1 1, 12, .inr (.inl nf))), (m2, .inl (g.2.1 0, 12, .inl sf)), (t2, .inr (10, [.ref b1, .int (nI (cutT u 0))])), (b1, .inl (g.2.1 0, 300, .inl bf)), (t3, .inr (4, [.ref e1, .ref t1, .int (rdR nf sf n bf u ld nd).2.1, .int (rdR nf sf n bf u ld nd).2.2.1, .int ex1, .int ld1, .ref e31, .int nd1])), (e1, .inr (11, [.ref t2, .int nx1, .int kd1, .int pk1, .long va1])), (t4, .inr (5, [.ref K.1])), (K.1, .inr (0, [.int K.2.1, .ref K.2.2.1, .int (nI fs.length)]))])) ?_
      exact g_iret C rfl ⟨(-1), fs, K.2, nI (cutT u 0), _, _, ex1, ld1, nd1, nx1, kd1, pk1, e31, va1, hK, hfk, Or.inr ⟨Nat.not_le.mp c_1, cut0 hu, rfl, rfl, Or.inl ⟨c_2, rfl, rfl⟩⟩, rfl, rfl, rfl⟩ (by first | decide | (dsimp only; omega)) (by first | decide | (dsimp only; omega)) d_TL_flake_59
    · skip
      refine g_pm (X1 := [(t, .inr (12, [.ref t1, .ref t2, .ref t3, .ref t4, .ref t5, .ref t6, .ref t7, .ref t8, .int dt])), (t1, .inr (7, [.ref m1, .ref m2, .ref m3, .int (nI n)])), (m1, .inl (g.2.1 1, 12, .inr (.inl nf))), (m2, .inl (g.2.1 0, 12, .inl sf)), (t2, .inr (10, [.ref b1, .int (nI (cutT u 0))])), (b1, .inl (g.2.1 0, 300, .inl bf)), (t3, .inr (4, [.ref e1, .ref t1, .int (rdR nf sf n bf u ld nd).2.1, .int (rdR nf sf n bf u ld nd).2.2.1, .int ex1, .int ld1, .ref e31, .int nd1])), (e1, .inr (11, [.ref t2, .int nx1, .int kd1, .int pk1, .long va1])), (t4, .inr (5, [.ref K.1])), (K.1, .inr (0, [.int K.2.1, .ref K.2.2.1, .int (nI fs.length)])), (f, .inr (3, [.int dt, .ref f1, .int 0, .int 0])), (f1, .inr (0, [.int b2.1, .ref b2.2.1, .int (nI F.length)]))]) (P1 := arc g K fs.length ++ (arc g (f1, b2) F.length ++ (lcs g F ++ (fcs g fs ++ P)))) (perm_mv (X := [(t, .inr (12, [.ref t1, .ref t2, .ref t3, .ref t4, .ref t5, .ref t6, .ref t7, .ref t8, .int dt])), (t1, .inr (7, [.ref m1, .ref m2, .ref m3, .int (nI n)])), (m1, .inl (g.2.1 1, 12, .inr (.inl nf))), (m2, .inl (g.2.1 0, 12, .inl sf)), (t2, .inr (10, [.ref b1, .int (nI (cutT u 0))])), (b1, .inl (g.2.1 0, 300, .inl bf)), (t3, .inr (4, [.ref e1, .ref t1, .int (rdR nf sf n bf u ld nd).2.1, .int (rdR nf sf n bf u ld nd).2.2.1, .int ex1, .int ld1, .ref e31, .int nd1])), (e1, .inr (11, [.ref t2, .int nx1, .int kd1, .int pk1, .long va1])), (t4, .inr (5, [.ref K.1])), (K.1, .inr (0, [.int K.2.1, .ref K.2.2.1, .int (nI fs.length)])), (f, .inr (3, [.int dt, .ref f1, .int 0, .int 0])), (f1, .inr (0, [.int b2.1, .ref b2.2.1, .int (nI F.length)]))])) ?_
      refine g_aload_n C 0 rfl d_TL_flake_47 ?_
      refine g_get C 0 rfl rfl in_TL 3 (by decide) kw_375 rfl d_TL_flake_48 ?_
      refine g_aload_n C 1 rfl d_TL_flake_51 ?_
      refine g_callVNP (rest := []) C (c_Fs_keep l g t4 f f1 fs.length dt 0 0 K (fad fs) (arc g (f1, b2) F.length ++ (lcs g F ++ (fcs g fs ++ P))) hK (by simp [fad]) hl (elk_app (elk_app (elk_fcs hK)))) [8, 9, 10] [0, 1, 2, 3, 4, 5, 6, 7, 11] rfl (by decide) mo_Fs_keep mv_Fs_keep kw_659 (by decide) (rcX 8 rfl rfl) rfl (Nat.le_of_ble_eq_true rfl) ⟨Nat.le_of_ble_eq_true rfl, Nat.le_of_ble_eq_true rfl⟩ d_TL_flake_52 (fun v2 X2 P2 q => ?_)
      obtain ⟨kb, hkb, rfl, rfl, rfl⟩ := q
      refine g_ord (X1 := [(t, .inr (12, [.ref t1, .ref t2, .ref t3, .ref t4, .ref t5, .ref t6, .ref t7, .ref t8, .int dt])), (t1, .inr (7, [.ref m1, .ref m2, .ref m3, .int (nI n)])), (m1, .inl (g.2.1 1, 12, .inr (.inl nf))), (m2, .inl (g.2.1 0, 12, .inl sf)), (t2, .inr (10, [.ref b1, .int (nI (cutT u 0))])), (b1, .inl (g.2.1 0, 300, .inl bf)), (t3, .inr (4, [.ref e1, .ref t1, .int (rdR nf sf n bf u ld nd).2.1, .int (rdR nf sf n bf u ld nd).2.2.1, .int ex1, .int ld1, .ref e31, .int nd1])), (e1, .inr (11, [.ref t2, .int nx1, .int kd1, .int pk1, .long va1])), (t4, .inr (5, [.ref K.1])), (K.1, .inr (0, [.int kb.1, .ref kb.2.1, .int (nI (fs.length + 1))])), (f, .inr (3, [.int dt, .ref f1, .int 0, .int 0])), (f1, .inr (0, [.int b2.1, .ref b2.2.1, .int (nI F.length)]))]) [0, 1, 2, 3, 4, 5, 6, 7, 9, 10, 11, 8] (by decide) rfl ?_
      refine g_goto C d_TL_flake_55 ?_
      have hR : (rdR nf sf n bf u ld nd).1 = 1 := (rdC_01 301 0 _).resolve_left c_2
      have hl1 : (fs ++ [((f, (f1, b2), dt, 0, 0, F) : FR)]).length = fs.length + 1 := by simp
      refine g_pm (X1 := [(t, .inr (12, [.ref t1, .ref t2, .ref t3, .ref t4, .ref t5, .ref t6, .ref t7, .ref t8, .int dt])), (t1, .inr (7, [.ref m1, .ref m2, .ref m3, .int (nI n)])), (m1, .inl (g.2.1 1, 12, .inr (.inl nf))), (m2, .inl (g.2.1 0, 12, .inl sf)), (t2, .inr (10, [.ref b1, .int (nI (cutT u 0))])), (b1, .inl (g.2.1 0, 300, .inl bf)), (t3, .inr (4, [.ref e1, .ref t1, .int (rdR nf sf n bf u ld nd).2.1, .int (rdR nf sf n bf u ld nd).2.2.1, .int ex1, .int ld1, .ref e31, .int nd1])), (e1, .inr (11, [.ref t2, .int nx1, .int kd1, .int pk1, .long va1])), (t4, .inr (5, [.ref K.1])), (K.1, .inr (0, [.int kb.1, .ref kb.2.1, .int (nI (fs ++ [((f, (f1, b2), dt, 0, 0, F) : FR)]).length)]))]) (P1 := arc g (K.1, kb) (fs ++ [((f, (f1, b2), dt, 0, 0, F) : FR)]).length ++ (fcs g (fs ++ [((f, (f1, b2), dt, 0, 0, F) : FR)]) ++ P)) (by rw [hl1, fcs_snoc]; exact perm_keep (X := [(t, .inr (12, [.ref t1, .ref t2, .ref t3, .ref t4, .ref t5, .ref t6, .ref t7, .ref t8, .int dt])), (t1, .inr (7, [.ref m1, .ref m2, .ref m3, .int (nI n)])), (m1, .inl (g.2.1 1, 12, .inr (.inl nf))), (m2, .inl (g.2.1 0, 12, .inl sf)), (t2, .inr (10, [.ref b1, .int (nI (cutT u 0))])), (b1, .inl (g.2.1 0, 300, .inl bf)), (t3, .inr (4, [.ref e1, .ref t1, .int (rdR nf sf n bf u ld nd).2.1, .int (rdR nf sf n bf u ld nd).2.2.1, .int ex1, .int ld1, .ref e31, .int nd1])), (e1, .inr (11, [.ref t2, .int nx1, .int kd1, .int pk1, .long va1])), (t4, .inr (5, [.ref K.1])), (K.1, .inr (0, [.int kb.1, .ref kb.2.1, .int (nI (fs.length + 1))]))])) ?_
      exact g_iret C rfl ⟨_, (fs ++ [((f, (f1, b2), dt, 0, 0, F) : FR)]), kb, nI (cutT u 0), _, _, ex1, ld1, nd1, nx1, kd1, pk1, e31, va1, (by rw [fad_app]; exact hkb), (fok_app hfk hok), Or.inr ⟨Nat.not_le.mp c_1, cut0 hu, rfl, rfl, Or.inr ⟨hR, rfl, (f, (f1, b2), dt, 0, 0, F), rfl, rfl, rfl, rfl, hl20, hln hR⟩⟩, rfl, rfl, rfl⟩ (by first | decide | (dsimp only; omega)) (by first | decide | (dsimp only; omega)) d_TL_flake_59
  · have c_1 := zb_n0.mp c_1
    refine g_bipush (v := (-2)) C rfl d_TL_flake_10 ?_
    exact g_iret C rfl ⟨(-2), fs, K.2, nI u, fa, pl, ex, ld, nd, nx, kd, pk, e3, va, hK, hfk, Or.inl ⟨c_1, rfl, rfl, rfl, rfl, rfl⟩, rfl, rfl, rfl⟩ (by first | decide | (dsimp only; omega)) (by first | decide | (dsimp only; omega)) d_TL_flake_12

