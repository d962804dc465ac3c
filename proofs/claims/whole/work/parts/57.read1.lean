set_option maxHeartbeats 4000000 in
set_option maxRecDepth 100000 in
theorem c_Re_expect (l : Launch) (g : Gx) (q0 e1 e2 e3 : Nat) (fa pl ex ld nd : Int32) (p0 : Int32) : M0 l g y_Re_expect b_Re_expect 2 (some FieldType.int) ({ frames := 0, cells := 0, slots := 0, locals := 0 }) [.ref q0, .int p0] [(q0, .inr (4, [.ref e1, .ref e2, .int fa, .int pl, .int ex, .int ld, .ref e3, .int nd]))] (some (.int 0)) [(q0, .inr (4, [.ref e1, .ref e2, .int fa, .int pl, .int p0, .int ld, .ref e3, .int nd]))] := by
  refine MP.of (by decide) (Nat.le_of_ble_eq_true rfl) (fun κ C => ?_)
  have C : zC κ l g ({ frames := 0, cells := 0, slots := 0, locals := 0 }) b_Re_expect 2 "TombLane$FlakeReader" "expect" (some FieldType.int) _ := C
  refine g_lv (lv1 := [(0, .ref q0), (1, .int p0)]) [0, 1] rfl ?_
  refine g_aload_n C 0 rfl d_Re_expect_0 ?_
  refine g_iload_n C 1 rfl d_Re_expect_1 ?_
  refine g_put (X1 := [(q0, .inr (4, [.ref e1, .ref e2, .int fa, .int pl, .int p0, .int ld, .ref e3, .int nd]))]) C 0 rfl rfl in_Re 4 (by decide) ok_Re nm_Re kw_215 rfl rfl rfl (Nat.le_of_ble_eq_true rfl) rfl d_Re_expect_2 ?_
  refine g_iconst (v := 0) C rfl d_Re_expect_5 ?_
  exact g_iret C rfl ⟨rfl, rfl, rfl⟩ (by decide) (by decide) d_Re_expect_6

set_option maxHeartbeats 4000000 in
set_option maxRecDepth 100000 in
theorem c_Re_takeSign (l : Launch) (g : Gx) (q0 e1 e2 e3 tp : Nat) (fa pl ex ld nd nx kd pk : Int32) (va : Int64) (p0 p1 : Int32) : M0 l g y_Re_takeSign b_Re_takeSign 3 (some FieldType.int) ({ frames := 1, cells := 0, slots := 0, locals := 21 }) [.ref q0, .int p0, .int p1] [(q0, .inr (4, [.ref e1, .ref e2, .int fa, .int pl, .int ex, .int ld, .ref e3, .int nd])), (e1, .inr (11, [.ref tp, .int nx, .int kd, .int pk, .long va]))] (some (.int (if kd = 4 ∧ va = Int32.toInt64 p0 then 0 else 2))) [(q0, .inr (4, [.ref e1, .ref e2, .int fa, .int pl, .int (if kd = 4 ∧ va = Int32.toInt64 p0 then p1 else ex), .int ld, .ref e3, .int nd])), (e1, .inr (11, [.ref tp, .int nx, .int kd, .int pk, .long va]))] := by
  refine MP.of (by decide) (Nat.le_of_ble_eq_true rfl) (fun κ C => ?_)
  have C : zC κ l g ({ frames := 1, cells := 0, slots := 0, locals := 21 }) b_Re_takeSign 3 "TombLane$FlakeReader" "takeSign" (some FieldType.int) _ := C
  refine g_lv (lv1 := [(0, .ref q0), (1, .int p0), (2, .int p1)]) [0, 1, 2] rfl ?_
  refine g_aload_n C 0 rfl d_Re_takeSign_0 ?_
  refine g_get C 0 rfl rfl in_Re 0 (by decide) kw_209 rfl d_Re_takeSign_1 ?_
  refine g_iload_n C 1 rfl d_Re_takeSign_4 ?_
  refine g_callVN0 (rest := []) (Xn := [(q0, .inr (4, [.ref e1, .ref e2, .int fa, .int pl, .int ex, .int ld, .ref e3, .int nd])), (e1, .inr (11, [.ref tp, .int nx, .int kd, .int pk, .long va]))]) C (c_To_isSign l g e1 tp nx kd pk p0 va) [1] [0] [0, 1] rfl (by decide) (by decide) rfl mo_To_isSign mv_To_isSign kw_628 (by decide) (rcX 1 rfl rfl) rfl (Nat.le_of_ble_eq_true rfl) ⟨Nat.le_of_ble_eq_true rfl, Nat.le_of_ble_eq_true rfl⟩ d_Re_takeSign_5 ?_
  refine g_if_eq C d_Re_takeSign_8 (fun c_1 => ?_) (fun c_1 => ?_)
  · have c_1 := zb_0.mp c_1
    refine g_iconst (v := 2) C rfl d_Re_takeSign_19 ?_
    exact g_iret C rfl ⟨congrArg (fun z => some (Value.int z)) (by first | (simp [c_1]; done) | (clear C; simp_all []; done) | (clear C; grind)), (by first | (simp [c_1]; done) | (clear C; simp_all []; done) | (clear C; grind)), rfl⟩ (by decide) (by decide) d_Re_takeSign_20
  · have c_1 := zb_n0.mp c_1
    refine g_aload_n C 0 rfl d_Re_takeSign_11 ?_
    refine g_iload_n C 2 rfl d_Re_takeSign_12 ?_
    refine g_callV0 (rest := []) (Xn := [(q0, .inr (4, [.ref e1, .ref e2, .int fa, .int pl, .int p1, .int ld, .ref e3, .int nd])), (e1, .inr (11, [.ref tp, .int nx, .int kd, .int pk, .long va]))]) C (c_Re_expect l g q0 e1 e2 e3 fa pl ex ld nd p1) [0] [1] [1, 0] rfl (by decide) (by decide) rfl mo_Re_expect mv_Re_expect kw_549 (by decide) (rcX 0 rfl rfl) rfl (Nat.le_of_ble_eq_true rfl) ⟨Nat.le_of_ble_eq_true rfl, Nat.le_of_ble_eq_true rfl⟩ d_Re_takeSign_13 ?_
    refine g_goto C d_Re_takeSign_16 ?_
    exact g_iret C rfl ⟨congrArg (fun z => some (Value.int z)) (by first | (simp [c_1]; done) | (clear C; simp_all []; done) | (clear C; grind)), (by first | (simp [c_1]; done) | (clear C; simp_all []; done) | (clear C; grind)), rfl⟩ (by decide) (by decide) d_Re_takeSign_20

set_option maxHeartbeats 4000000 in
set_option maxRecDepth 100000 in
theorem c_Re_takeLine (l : Launch) (g : Gx) (q0 e1 e2 e3 tp f f1 ea c : Nat) (fa pl ex ld nd fd gu on mc nx kd pk : Int32) (va : Int64) (hc : c ≤ 1000) : M0 l g y_Re_takeLine b_Re_takeLine 2 (some FieldType.int) ({ frames := 1, cells := 0, slots := 0, locals := 22 }) [.ref q0, .ref f] [(q0, .inr (4, [.ref e1, .ref e2, .int fa, .int pl, .int ex, .int ld, .ref e3, .int nd])), (e1, .inr (11, [.ref tp, .int nx, .int kd, .int pk, .long va])), (f, .inr (3, [.int fd, .ref f1, .int gu, .int on])), (f1, .inr (0, [.int mc, .ref ea, .int (nI c)]))] (some (.int (if (kd = 2 ∧ va = 6578553) ∧ c < 20 then 0 else 2))) [(q0, .inr (4, [.ref e1, .ref e2, .int fa, .int pl, .int (if (kd = 2 ∧ va = 6578553) ∧ c < 20 then 1 else ex), .int ld, .ref e3, .int nd])), (e1, .inr (11, [.ref tp, .int nx, .int kd, .int pk, .long va])), (f, .inr (3, [.int fd, .ref f1, .int gu, .int on])), (f1, .inr (0, [.int mc, .ref ea, .int (nI c)]))] := by
  refine MP.of (by decide) (Nat.le_of_ble_eq_true rfl) (fun κ C => ?_)
  have C : zC κ l g ({ frames := 1, cells := 0, slots := 0, locals := 22 }) b_Re_takeLine 2 "TombLane$FlakeReader" "takeLine" (some FieldType.int) _ := C
  refine g_lv (lv1 := [(0, .ref q0), (1, .ref f)]) [0, 1] rfl ?_
  refine g_aload_n C 0 rfl d_Re_takeLine_0 ?_
  refine g_get C 0 rfl rfl in_Re 0 (by decide) kw_209 rfl d_Re_takeLine_1 ?_
  refine g_ldc2 C kw_543 d_Re_takeLine_4 ?_
  refine g_callVN0 (rest := []) (Xn := [(q0, .inr (4, [.ref e1, .ref e2, .int fa, .int pl, .int ex, .int ld, .ref e3, .int nd])), (e1, .inr (11, [.ref tp, .int nx, .int kd, .int pk, .long va])), (f, .inr (3, [.int fd, .ref f1, .int gu, .int on])), (f1, .inr (0, [.int mc, .ref ea, .int (nI c)]))]) C (c_To_isWord l g e1 tp nx kd pk va 6578553) [1] [0, 2, 3] [0, 3, 1, 2] rfl (by decide) (by decide) rfl mo_To_isWord mv_To_isWord kw_544 (by decide) (rcX 1 rfl rfl) rfl (Nat.le_of_ble_eq_true rfl) ⟨Nat.le_of_ble_eq_true rfl, Nat.le_of_ble_eq_true rfl⟩ d_Re_takeLine_7 ?_
  refine g_if_eq C d_Re_takeLine_10 (fun c_1 => ?_) (fun c_1 => ?_)
  · have c_1 := zb_0.mp c_1
    refine g_iconst (v := 2) C rfl d_Re_takeLine_25 ?_
    exact g_iret C rfl ⟨congrArg (fun z => some (Value.int z)) (by first | (simp [c_1]; done) | (clear C; simp_all []; done) | (clear C; grind)), (by first | (simp [c_1]; done) | (clear C; simp_all []; done) | (clear C; grind)), rfl⟩ (by decide) (by decide) d_Re_takeLine_26
  · have c_1 := zb_n0.mp c_1
    refine g_aload_n C 1 rfl d_Re_takeLine_13 ?_
    refine g_getN C 2 rfl rfl in_Fk 1 (by decide) kw_481 rfl d_Re_takeLine_14 ?_
    refine g_callV0 (rest := []) (Xn := [(q0, .inr (4, [.ref e1, .ref e2, .int fa, .int pl, .int ex, .int ld, .ref e3, .int nd])), (e1, .inr (11, [.ref tp, .int nx, .int kd, .int pk, .long va])), (f, .inr (3, [.int fd, .ref f1, .int gu, .int on])), (f1, .inr (0, [.int mc, .ref ea, .int (nI c)]))]) C (c_AL_size l g f1 ea mc (nI c)) [3] [0, 1, 2] [0, 1, 2, 3] rfl (by decide) (by decide) rfl mo_AL_size mv_AL_size kw_548 (by decide) (rcX 3 rfl rfl) rfl (Nat.le_of_ble_eq_true rfl) ⟨Nat.le_of_ble_eq_true rfl, Nat.le_of_ble_eq_true rfl⟩ d_Re_takeLine_17 ?_
    refine g_bipush (v := 20) C rfl d_Re_takeLine_20 ?_
    refine g_icmp_lt C d_Re_takeLine_22 (fun c_2 => ?_) (fun c_2 => ?_)
    · skip
      have n_2 : c < 20 := (nI_ltI (a := c) (b := 20) (by omega) (by omega)).mp c_2
      refine g_aload_n C 0 rfl d_Re_takeLine_27 ?_
      refine g_iconst (v := 1) C rfl d_Re_takeLine_28 ?_
      refine g_callV0 (rest := []) (Xn := [(q0, .inr (4, [.ref e1, .ref e2, .int fa, .int pl, .int 1, .int ld, .ref e3, .int nd])), (e1, .inr (11, [.ref tp, .int nx, .int kd, .int pk, .long va])), (f, .inr (3, [.int fd, .ref f1, .int gu, .int on])), (f1, .inr (0, [.int mc, .ref ea, .int (nI c)]))]) C (c_Re_expect l g q0 e1 e2 e3 fa pl ex ld nd 1) [0] [1, 2, 3] [3, 0, 1, 2] rfl (by decide) (by decide) rfl mo_Re_expect mv_Re_expect kw_549 (by decide) (rcX 0 rfl rfl) rfl (Nat.le_of_ble_eq_true rfl) ⟨Nat.le_of_ble_eq_true rfl, Nat.le_of_ble_eq_true rfl⟩ d_Re_takeLine_29 ?_
      exact g_iret C rfl ⟨congrArg (fun z => some (Value.int z)) (by first | (simp [c_1, c_2, Int32.not_le.mpr c_2, n_2, Nat.not_le.mpr n_2]; done) | (clear C; simp_all []; done) | (clear C; grind)), (by first | (simp [c_1, c_2, Int32.not_le.mpr c_2, n_2, Nat.not_le.mpr n_2]; done) | (clear C; simp_all []; done) | (clear C; grind)), rfl⟩ (by decide) (by decide) d_Re_takeLine_32
    · skip
      have n_2 : 20 ≤ c := Nat.not_lt.mp (fun z => c_2 ((nI_ltI (a := c) (b := 20) (by omega) (by omega)).mpr z))
      refine g_iconst (v := 2) C rfl d_Re_takeLine_25 ?_
      exact g_iret C rfl ⟨congrArg (fun z => some (Value.int z)) (by first | (simp [c_1, c_2, Int32.not_lt.mp c_2, n_2, Nat.not_lt.mpr n_2]; done) | (clear C; simp_all []; done) | (clear C; grind)), (by first | (simp [c_1, c_2, Int32.not_lt.mp c_2, n_2, Nat.not_lt.mpr n_2]; done) | (clear C; simp_all []; done) | (clear C; grind)), rfl⟩ (by decide) (by decide) d_Re_takeLine_26

set_option maxHeartbeats 4000000 in
set_option maxRecDepth 100000 in
theorem c_Re_takeDayNumber (l : Launch) (g : Gx) (q0 e1 e2 e3 tp : Nat) (fa pl ex ld nd nx kd pk : Int32) (va : Int64) : M0 l g y_Re_takeDayNumber b_Re_takeDayNumber 1 (some FieldType.int) ({ frames := 1, cells := 0, slots := 0, locals := 21 }) [.ref q0] [(q0, .inr (4, [.ref e1, .ref e2, .int fa, .int pl, .int ex, .int ld, .ref e3, .int nd])), (e1, .inr (11, [.ref tp, .int nx, .int kd, .int pk, .long va]))] (some (.int (if ¬ kd = 3 then 2 else if va < 3600 then 0 else 3))) [(q0, .inr (4, [.ref e1, .ref e2, .int fa, .int pl, .int (if kd = 3 ∧ va < 3600 then 2 else ex), .int (if kd = 3 ∧ va < 3600 then Int64.toInt32 va else ld), .ref e3, .int nd])), (e1, .inr (11, [.ref tp, .int nx, .int kd, .int pk, .long va]))] := by
  refine MP.of (by decide) (Nat.le_of_ble_eq_true rfl) (fun κ C => ?_)
  have C : zC κ l g ({ frames := 1, cells := 0, slots := 0, locals := 21 }) b_Re_takeDayNumber 1 "TombLane$FlakeReader" "takeDayNumber" (some FieldType.int) _ := C
  refine g_lv (lv1 := [(0, .ref q0)]) [0] rfl ?_
  refine g_aload_n C 0 rfl d_Re_takeDayNumber_0 ?_
  refine g_get C 0 rfl rfl in_Re 0 (by decide) kw_209 rfl d_Re_takeDayNumber_1 ?_
  refine g_getN C 1 rfl rfl in_To 2 (by decide) kw_193 rfl d_Re_takeDayNumber_4 ?_
  refine g_iconst (v := 3) C rfl d_Re_takeDayNumber_7 ?_
  refine g_icmp_eq C d_Re_takeDayNumber_8 (fun c_1 => ?_) (fun c_1 => ?_)
  · skip
    refine g_aload_n C 0 rfl d_Re_takeDayNumber_13 ?_
    refine g_get C 0 rfl rfl in_Re 0 (by decide) kw_209 rfl d_Re_takeDayNumber_14 ?_
    refine g_getN C 1 rfl rfl in_To 4 (by decide) kw_197 rfl d_Re_takeDayNumber_17 ?_
    refine g_ldc2 C kw_557 d_Re_takeDayNumber_20 ?_
    refine g_lcmp C d_Re_takeDayNumber_23 ?_
    refine g_if_lt C d_Re_takeDayNumber_24 (fun c_2 => ?_) (fun c_2 => ?_)
    · have c_2 := (lg_cmp_lt _ _).mp c_2
      refine g_aload_n C 0 rfl d_Re_takeDayNumber_29 ?_
      refine g_aload_n C 0 rfl d_Re_takeDayNumber_30 ?_
      refine g_get C 0 rfl rfl in_Re 0 (by decide) kw_209 rfl d_Re_takeDayNumber_31 ?_
      refine g_getN C 1 rfl rfl in_To 4 (by decide) kw_197 rfl d_Re_takeDayNumber_34 ?_
      refine g_l2i C d_Re_takeDayNumber_37 ?_
      refine g_put (X1 := [(q0, .inr (4, [.ref e1, .ref e2, .int fa, .int pl, .int ex, .int (Int64.toInt32 va), .ref e3, .int nd])), (e1, .inr (11, [.ref tp, .int nx, .int kd, .int pk, .long va]))]) C 0 rfl rfl in_Re 5 (by decide) ok_Re nm_Re kw_216 rfl rfl rfl (Nat.le_of_ble_eq_true rfl) rfl d_Re_takeDayNumber_38 ?_
      refine g_aload_n C 0 rfl d_Re_takeDayNumber_41 ?_
      refine g_iconst (v := 2) C rfl d_Re_takeDayNumber_42 ?_
      refine g_callV0 (rest := []) (Xn := [(q0, .inr (4, [.ref e1, .ref e2, .int fa, .int pl, .int 2, .int (Int64.toInt32 va), .ref e3, .int nd])), (e1, .inr (11, [.ref tp, .int nx, .int kd, .int pk, .long va]))]) C (c_Re_expect l g q0 e1 e2 e3 fa pl ex (Int64.toInt32 va) nd 2) [0] [1] [1, 0] rfl (by decide) (by decide) rfl mo_Re_expect mv_Re_expect kw_549 (by decide) (rcX 0 rfl rfl) rfl (Nat.le_of_ble_eq_true rfl) ⟨Nat.le_of_ble_eq_true rfl, Nat.le_of_ble_eq_true rfl⟩ d_Re_takeDayNumber_43 ?_
      exact g_iret C rfl ⟨congrArg (fun z => some (Value.int z)) (by first | (simp [eq_true c_1, c_2]; done) | (clear C; simp_all []; done) | (clear C; grind)), (by first | (simp [eq_true c_1, c_2]; done) | (clear C; simp_all []; done) | (clear C; grind)), rfl⟩ (by decide) (by decide) d_Re_takeDayNumber_46
    · have c_2 : ¬ ((va : Int64) < 3600) := fun z => c_2 ((lg_cmp_lt _ _).mpr z)
      refine g_iconst (v := 3) C rfl d_Re_takeDayNumber_27 ?_
      exact g_iret C rfl ⟨congrArg (fun z => some (Value.int z)) (by first | (simp [eq_true c_1, c_2]; done) | (clear C; simp_all []; done) | (clear C; grind)), (by first | (simp [eq_true c_1, c_2]; done) | (clear C; simp_all []; done) | (clear C; grind)), rfl⟩ (by decide) (by decide) d_Re_takeDayNumber_28
  · skip
    refine g_iconst (v := 2) C rfl d_Re_takeDayNumber_11 ?_
    exact g_iret C rfl ⟨congrArg (fun z => some (Value.int z)) (by first | (simp [c_1]; done) | (clear C; simp_all []; done) | (clear C; grind)), (by first | (simp [c_1]; done) | (clear C; simp_all []; done) | (clear C; grind)), rfl⟩ (by decide) (by decide) d_Re_takeDayNumber_12

theorem fndG_vp {f : Nat → Int64} {sd : Nat → Int32} {n : Nat} {w : Int64} {gang : Int32} (hn : n ≤ 12) (h : ¬ fndG f sd n w gang = (-1)) : vp_in (fndG f sd n w gang) 12 := by
  unfold fndG at h ⊢
  split at h
  · rename_i h1; rw [if_pos h1]; exact fnd_vp hn h1.1
  · exact absurd rfl h
set_option maxHeartbeats 4000000 in
set_option maxRecDepth 100000 in
theorem c_Re_takeName (l : Launch) (g : Gx) (q0 e1 e2 e3 tp v1 : Nat) (fa pl ex ld nd d1 s1 gp lw nx kd pk : Int32) (va : Int64) (ef : Nat → Int32) (m1 m2 m3 n : Nat) (nf : Nat → Int64) (sf : Nat → Int32) (hn : n ≤ 12) : M0 l g y_Re_takeName b_Re_takeName 1 (some FieldType.int) ({ frames := 2, cells := 0, slots := 0, locals := 47 }) [.ref q0] [(q0, .inr (4, [.ref e1, .ref e2, .int fa, .int pl, .int ex, .int ld, .ref e3, .int nd])), (e1, .inr (11, [.ref tp, .int nx, .int kd, .int pk, .long va])), (e2, .inr (7, [.ref m1, .ref m2, .ref m3, .int (nI n)])), (m1, .inl (g.2.1 1, 12, .inr (.inl nf))), (m2, .inl (g.2.1 0, 12, .inl sf)), (e3, .inr (6, [.int d1, .int s1, .ref v1, .int gp, .int lw])), (v1, .inl (g.2.1 0, 12, .inl ef))] (some (.int (if fndG nf sf n va s1 = (-1) then 4 else if ef (fndG nf sf n va s1).toNatClampNeg = 0 then 0 else 5))) [(q0, .inr (4, [.ref e1, .ref e2, .int fa, .int pl, .int (if ¬ fndG nf sf n va s1 = (-1) ∧ ef (fndG nf sf n va s1).toNatClampNeg = 0 then 5 else ex), .int ld, .ref e3, .int (fndG nf sf n va s1)])), (e1, .inr (11, [.ref tp, .int nx, .int kd, .int pk, .long va])), (e2, .inr (7, [.ref m1, .ref m2, .ref m3, .int (nI n)])), (m1, .inl (g.2.1 1, 12, .inr (.inl nf))), (m2, .inl (g.2.1 0, 12, .inl sf)), (e3, .inr (6, [.int d1, .int s1, .ref v1, .int gp, .int lw])), (v1, .inl (g.2.1 0, 12, .inl ef))] := by
  refine MP.of (by decide) (Nat.le_of_ble_eq_true rfl) (fun κ C => ?_)
  have C : zC κ l g ({ frames := 2, cells := 0, slots := 0, locals := 47 }) b_Re_takeName 1 "TombLane$FlakeReader" "takeName" (some FieldType.int) _ := C
  refine g_lv (lv1 := [(0, .ref q0)]) [0] rfl ?_
  refine g_aload_n C 0 rfl d_Re_takeName_0 ?_
  refine g_aload_n C 0 rfl d_Re_takeName_1 ?_
  refine g_get C 0 rfl rfl in_Re 1 (by decide) kw_210 rfl d_Re_takeName_2 ?_
  refine g_aload_n C 0 rfl d_Re_takeName_5 ?_
  refine g_get C 0 rfl rfl in_Re 0 (by decide) kw_209 rfl d_Re_takeName_6 ?_
  refine g_getN C 1 rfl rfl in_To 4 (by decide) kw_197 rfl d_Re_takeName_9 ?_
  refine g_aload_n C 0 rfl d_Re_takeName_12 ?_
  refine g_get C 0 rfl rfl in_Re 6 (by decide) kw_217 rfl d_Re_takeName_13 ?_
  refine g_getN C 5 rfl rfl in_Li 1 (by decide) kw_165 rfl d_Re_takeName_16 ?_
  refine g_callVN0 (rest := [.ref q0]) (Xn := [(q0, .inr (4, [.ref e1, .ref e2, .int fa, .int pl, .int ex, .int ld, .ref e3, .int nd])), (e1, .inr (11, [.ref tp, .int nx, .int kd, .int pk, .long va])), (e2, .inr (7, [.ref m1, .ref m2, .ref m3, .int (nI n)])), (m1, .inl (g.2.1 1, 12, .inr (.inl nf))), (m2, .inl (g.2.1 0, 12, .inl sf)), (e3, .inr (6, [.int d1, .int s1, .ref v1, .int gp, .int lw])), (v1, .inl (g.2.1 0, 12, .inl ef))]) C (c_Me_findInGang l g e2 m1 m2 m3 n nf sf va s1 (by first | assumption | omega | exact nI_pos (by omega))) [2, 3, 4] [0, 1, 5, 6] [0, 1, 4, 5, 6, 2, 3] rfl (by decide) (by decide) rfl mo_Me_findInGang mv_Me_findInGang kw_642 (by decide) (rcX 2 rfl rfl) rfl (Nat.le_of_ble_eq_true rfl) ⟨Nat.le_of_ble_eq_true rfl, Nat.le_of_ble_eq_true rfl⟩ d_Re_takeName_19 ?_
  refine g_put (X1 := [(q0, .inr (4, [.ref e1, .ref e2, .int fa, .int pl, .int ex, .int ld, .ref e3, .int (fndG nf sf n va s1)])), (e1, .inr (11, [.ref tp, .int nx, .int kd, .int pk, .long va])), (e2, .inr (7, [.ref m1, .ref m2, .ref m3, .int (nI n)])), (m1, .inl (g.2.1 1, 12, .inr (.inl nf))), (m2, .inl (g.2.1 0, 12, .inl sf)), (e3, .inr (6, [.int d1, .int s1, .ref v1, .int gp, .int lw])), (v1, .inl (g.2.1 0, 12, .inl ef))]) C 0 rfl rfl in_Re 7 (by decide) ok_Re nm_Re kw_218 rfl rfl rfl (Nat.le_of_ble_eq_true rfl) rfl d_Re_takeName_22 ?_
  refine g_aload_n C 0 rfl d_Re_takeName_25 ?_
  refine g_get C 0 rfl rfl in_Re 7 (by decide) kw_218 rfl d_Re_takeName_26 ?_
  refine g_iconst (v := (-1)) C rfl d_Re_takeName_29 ?_
  refine g_icmp_ne C d_Re_takeName_30 (fun c_1 => ?_) (fun c_1 => ?_)
  · skip
    refine g_aload_n C 0 rfl d_Re_takeName_35 ?_
    refine g_get C 0 rfl rfl in_Re 6 (by decide) kw_217 rfl d_Re_takeName_36 ?_
    refine g_aload_n C 0 rfl d_Re_takeName_39 ?_
    refine g_get C 0 rfl rfl in_Re 7 (by decide) kw_218 rfl d_Re_takeName_40 ?_
    refine g_callVN0 (rest := []) (Xn := [(q0, .inr (4, [.ref e1, .ref e2, .int fa, .int pl, .int ex, .int ld, .ref e3, .int (fndG nf sf n va s1)])), (e1, .inr (11, [.ref tp, .int nx, .int kd, .int pk, .long va])), (e2, .inr (7, [.ref m1, .ref m2, .ref m3, .int (nI n)])), (m1, .inl (g.2.1 1, 12, .inr (.inl nf))), (m2, .inl (g.2.1 0, 12, .inl sf)), (e3, .inr (6, [.int d1, .int s1, .ref v1, .int gp, .int lw])), (v1, .inl (g.2.1 0, 12, .inl ef))]) C (c_Li_names l g e3 v1 d1 s1 gp lw ef (fndG nf sf n va s1) (fndG_vp hn c_1)) [5, 6] [0, 1, 2, 3, 4] [0, 1, 2, 3, 4, 5, 6] rfl (by decide) (by decide) rfl mo_Li_names mv_Li_names kw_646 (by decide) (rcX 5 rfl rfl) rfl (Nat.le_of_ble_eq_true rfl) ⟨Nat.le_of_ble_eq_true rfl, Nat.le_of_ble_eq_true rfl⟩ d_Re_takeName_43 ?_
    refine g_if_eq C d_Re_takeName_46 (fun c_2 => ?_) (fun c_2 => ?_)
    · have c_2 := zb_0.mp c_2
      refine g_aload_n C 0 rfl d_Re_takeName_53 ?_
      refine g_iconst (v := 5) C rfl d_Re_takeName_54 ?_
      refine g_callV0 (rest := []) (Xn := [(q0, .inr (4, [.ref e1, .ref e2, .int fa, .int pl, .int 5, .int ld, .ref e3, .int (fndG nf sf n va s1)])), (e1, .inr (11, [.ref tp, .int nx, .int kd, .int pk, .long va])), (e2, .inr (7, [.ref m1, .ref m2, .ref m3, .int (nI n)])), (m1, .inl (g.2.1 1, 12, .inr (.inl nf))), (m2, .inl (g.2.1 0, 12, .inl sf)), (e3, .inr (6, [.int d1, .int s1, .ref v1, .int gp, .int lw])), (v1, .inl (g.2.1 0, 12, .inl ef))]) C (c_Re_expect l g q0 e1 e2 e3 fa pl ex ld (fndG nf sf n va s1) 5) [0] [1, 2, 3, 4, 5, 6] [6, 0, 1, 2, 3, 4, 5] rfl (by decide) (by decide) rfl mo_Re_expect mv_Re_expect kw_549 (by decide) (rcX 0 rfl rfl) rfl (Nat.le_of_ble_eq_true rfl) ⟨Nat.le_of_ble_eq_true rfl, Nat.le_of_ble_eq_true rfl⟩ d_Re_takeName_55 ?_
      exact g_iret C rfl ⟨congrArg (fun z => some (Value.int z)) (by first | (simp [c_1, c_2]; done) | (clear C; simp_all []; done) | (clear C; grind)), (by first | (simp [c_1, c_2]; done) | (clear C; simp_all []; done) | (clear C; grind)), rfl⟩ (by decide) (by decide) d_Re_takeName_58
    · have c_2 := zb_n0.mp c_2
      refine g_iconst (v := 5) C rfl d_Re_takeName_49 ?_
      refine g_goto C d_Re_takeName_50 ?_
      exact g_iret C rfl ⟨congrArg (fun z => some (Value.int z)) (by first | (simp [c_1, c_2]; done) | (clear C; simp_all []; done) | (clear C; grind)), (by first | (simp [c_1, c_2]; done) | (clear C; simp_all []; done) | (clear C; grind)), rfl⟩ (by decide) (by decide) d_Re_takeName_58
  · skip
    refine g_iconst (v := 4) C rfl d_Re_takeName_33 ?_
    exact g_iret C rfl ⟨congrArg (fun z => some (Value.int z)) (by first | (simp [eq_true c_1]; done) | (clear C; simp_all []; done) | (clear C; grind)), (by first | (simp [eq_true c_1]; done) | (clear C; simp_all []; done) | (clear C; grind)), rfl⟩ (by decide) (by decide) d_Re_takeName_34

/-- what an entry's token does: (fault, what comes, named, gap) -/
def teC (nf : Nat → Int64) (sf : Nat → Int32) (n : Nat) (kd : Int32) (va : Int64) (sd : Int32) (ef : Nat → Int32) (ex nd gp : Int32) : Int32 × Int32 × Int32 × Int32 :=
  if kd = 4 ∧ va = 63 then (0, 4, nd, 1)
  else if kd = 2 ∧ va = 512869231475 then (0, 6, nd, gp)
  else if kd = 2 ∧ freC va = true then
    (if fndG nf sf n va sd = (-1) then 4 else if ef (fndG nf sf n va sd).toNatClampNeg = 0 then 0 else 5,
     if ¬ fndG nf sf n va sd = (-1) ∧ ef (fndG nf sf n va sd).toNatClampNeg = 0 then 5 else ex, fndG nf sf n va sd, gp)
  else if kd = 4 ∧ va = 59 then (0, 0, nd, gp) else (2, ex, nd, gp)
theorem l63 : Int32.toInt64 63 = 63 := rfl
theorem l59 : Int32.toInt64 59 = 59 := rfl
theorem l58 : Int32.toInt64 58 = 58 := rfl
set_option maxHeartbeats 4000000 in
set_option maxRecDepth 100000 in
theorem c_Re_takeEntry (l : Launch) (g : Gx) (q0 e1 e2 e3 tp v1 : Nat) (fa pl ex ld nd d1 s1 gp lw nx kd pk : Int32) (va : Int64) (ef : Nat → Int32) (m1 m2 m3 n : Nat) (nf : Nat → Int64) (sf : Nat → Int32) (hn : n ≤ 12) : M0 l g y_Re_takeEntry b_Re_takeEntry 1 (some FieldType.int) ({ frames := 3, cells := 0, slots := 0, locals := 67 }) [.ref q0] [(q0, .inr (4, [.ref e1, .ref e2, .int fa, .int pl, .int ex, .int ld, .ref e3, .int nd])), (e1, .inr (11, [.ref tp, .int nx, .int kd, .int pk, .long va])), (e2, .inr (7, [.ref m1, .ref m2, .ref m3, .int (nI n)])), (m1, .inl (g.2.1 1, 12, .inr (.inl nf))), (m2, .inl (g.2.1 0, 12, .inl sf)), (e3, .inr (6, [.int d1, .int s1, .ref v1, .int gp, .int lw])), (v1, .inl (g.2.1 0, 12, .inl ef))] (some (.int (teC nf sf n kd va s1 ef ex nd gp).1)) [(q0, .inr (4, [.ref e1, .ref e2, .int fa, .int pl, .int (teC nf sf n kd va s1 ef ex nd gp).2.1, .int ld, .ref e3, .int (teC nf sf n kd va s1 ef ex nd gp).2.2.1])), (e1, .inr (11, [.ref tp, .int nx, .int kd, .int pk, .long va])), (e2, .inr (7, [.ref m1, .ref m2, .ref m3, .int (nI n)])), (m1, .inl (g.2.1 1, 12, .inr (.inl nf))), (m2, .inl (g.2.1 0, 12, .inl sf)), (e3, .inr (6, [.int d1, .int s1, .ref v1, .int (teC nf sf n kd va s1 ef ex nd gp).2.2.2, .int lw])), (v1, .inl (g.2.1 0, 12, .inl ef))] := by
  refine MP.of (by decide) (Nat.le_of_ble_eq_true rfl) (fun κ C => ?_)
  have C : zC κ l g ({ frames := 3, cells := 0, slots := 0, locals := 67 }) b_Re_takeEntry 1 "TombLane$FlakeReader" "takeEntry" (some FieldType.int) _ := C
  refine g_lv (lv1 := [(0, .ref q0)]) [0] rfl ?_
  refine g_aload_n C 0 rfl d_Re_takeEntry_0 ?_
  refine g_get C 0 rfl rfl in_Re 0 (by decide) kw_209 rfl d_Re_takeEntry_1 ?_
  refine g_bipush (v := 63) C rfl d_Re_takeEntry_4 ?_
  refine g_callVN0 (rest := []) (Xn := [(q0, .inr (4, [.ref e1, .ref e2, .int fa, .int pl, .int ex, .int ld, .ref e3, .int nd])), (e1, .inr (11, [.ref tp, .int nx, .int kd, .int pk, .long va])), (e2, .inr (7, [.ref m1, .ref m2, .ref m3, .int (nI n)])), (m1, .inl (g.2.1 1, 12, .inr (.inl nf))), (m2, .inl (g.2.1 0, 12, .inl sf)), (e3, .inr (6, [.int d1, .int s1, .ref v1, .int gp, .int lw])), (v1, .inl (g.2.1 0, 12, .inl ef))]) C (c_To_isSign l g e1 tp nx kd pk 63 va) [1] [0, 2, 3, 4, 5, 6] [0, 6, 1, 2, 3, 4, 5] rfl (by decide) (by decide) rfl mo_To_isSign mv_To_isSign kw_628 (by decide) (rcX 1 rfl rfl) rfl (Nat.le_of_ble_eq_true rfl) ⟨Nat.le_of_ble_eq_true rfl, Nat.le_of_ble_eq_true rfl⟩ d_Re_takeEntry_6 ?_
  refine g_if_eq C d_Re_takeEntry_9 (fun c_1 => ?_) (fun c_1 => ?_)
  · have c_1 := zb_0.mp c_1
    refine g_aload_n C 0 rfl d_Re_takeEntry_26 ?_
    refine g_get C 0 rfl rfl in_Re 0 (by decide) kw_209 rfl d_Re_takeEntry_27 ?_
    refine g_ldc2 C kw_636 d_Re_takeEntry_30 ?_
    refine g_callVN0 (rest := []) (Xn := [(q0, .inr (4, [.ref e1, .ref e2, .int fa, .int pl, .int ex, .int ld, .ref e3, .int nd])), (e1, .inr (11, [.ref tp, .int nx, .int kd, .int pk, .long va])), (e2, .inr (7, [.ref m1, .ref m2, .ref m3, .int (nI n)])), (m1, .inl (g.2.1 1, 12, .inr (.inl nf))), (m2, .inl (g.2.1 0, 12, .inl sf)), (e3, .inr (6, [.int d1, .int s1, .ref v1, .int gp, .int lw])), (v1, .inl (g.2.1 0, 12, .inl ef))]) C (c_To_isWord l g e1 tp nx kd pk va 512869231475) [1] [0, 2, 3, 4, 5, 6] [0, 6, 1, 2, 3, 4, 5] rfl (by decide) (by decide) rfl mo_To_isWord mv_To_isWord kw_544 (by decide) (rcX 1 rfl rfl) rfl (Nat.le_of_ble_eq_true rfl) ⟨Nat.le_of_ble_eq_true rfl, Nat.le_of_ble_eq_true rfl⟩ d_Re_takeEntry_33 ?_
    refine g_if_eq C d_Re_takeEntry_36 (fun c_2 => ?_) (fun c_2 => ?_)
    · have c_2 := zb_0.mp c_2
      refine g_aload_n C 0 rfl d_Re_takeEntry_46 ?_
      refine g_get C 0 rfl rfl in_Re 0 (by decide) kw_209 rfl d_Re_takeEntry_47 ?_
      refine g_getN C 1 rfl rfl in_To 2 (by decide) kw_193 rfl d_Re_takeEntry_50 ?_
      refine g_iconst (v := 2) C rfl d_Re_takeEntry_53 ?_
      refine g_icmp_ne C d_Re_takeEntry_54 (fun c_3 => ?_) (fun c_3 => ?_)
      · skip
        refine g_aload_n C 0 rfl d_Re_takeEntry_75 ?_
        refine g_bipush (v := 59) C rfl d_Re_takeEntry_76 ?_
        refine g_iconst (v := 0) C rfl d_Re_takeEntry_78 ?_
        refine g_callV0 (rest := []) (Xn := [(q0, .inr (4, [.ref e1, .ref e2, .int fa, .int pl, .int (if kd = 4 ∧ va = Int32.toInt64 59 then 0 else ex), .int ld, .ref e3, .int nd])), (e1, .inr (11, [.ref tp, .int nx, .int kd, .int pk, .long va])), (e2, .inr (7, [.ref m1, .ref m2, .ref m3, .int (nI n)])), (m1, .inl (g.2.1 1, 12, .inr (.inl nf))), (m2, .inl (g.2.1 0, 12, .inl sf)), (e3, .inr (6, [.int d1, .int s1, .ref v1, .int gp, .int lw])), (v1, .inl (g.2.1 0, 12, .inl ef))]) C (c_Re_takeSign l g q0 e1 e2 e3 tp fa pl ex ld nd nx kd pk va 59 0) [0, 1] [2, 3, 4, 5, 6] [5, 6, 0, 1, 2, 3, 4] rfl (by decide) (by decide) rfl mo_Re_takeSign mv_Re_takeSign kw_624 (by decide) (rcX 0 rfl rfl) rfl (Nat.le_of_ble_eq_true rfl) ⟨Nat.le_of_ble_eq_true rfl, Nat.le_of_ble_eq_true rfl⟩ d_Re_takeEntry_79 ?_
        exact g_iret C rfl ⟨congrArg (fun z => some (Value.int z)) (by first | (simp [teC, l63, l59, c_1, c_2, c_3]; done) | (clear C; simp_all [teC, l63, l59]; done) | (clear C; grind [teC, l63, l59])), (by first | (simp [teC, l63, l59, c_1, c_2, c_3]; done) | (clear C; simp_all [teC, l63, l59]; done) | (clear C; grind [teC, l63, l59])), rfl⟩ (by decide) (by decide) d_Re_takeEntry_82
      · skip
        refine g_aload_n C 0 rfl d_Re_takeEntry_57 ?_
        refine g_get C 0 rfl rfl in_Re 0 (by decide) kw_209 rfl d_Re_takeEntry_58 ?_
        refine g_getN C 1 rfl rfl in_To 4 (by decide) kw_197 rfl d_Re_takeEntry_61 ?_
        refine g_callSN0 (rest := []) (Xn := [(q0, .inr (4, [.ref e1, .ref e2, .int fa, .int pl, .int ex, .int ld, .ref e3, .int nd])), (e1, .inr (11, [.ref tp, .int nx, .int kd, .int pk, .long va])), (e2, .inr (7, [.ref m1, .ref m2, .ref m3, .int (nI n)])), (m1, .inl (g.2.1 1, 12, .inr (.inl nf))), (m2, .inl (g.2.1 0, 12, .inl sf)), (e3, .inr (6, [.int d1, .int s1, .ref v1, .int gp, .int lw])), (v1, .inl (g.2.1 0, 12, .inl ef))]) C (c_TL_isFree l g va) [] [0, 1, 2, 3, 4, 5, 6] [0, 1, 2, 3, 4, 5, 6] rfl (by decide) (by decide) rfl mo_TL_isFree ms_TL_isFree kw_637 (by decide) rfl (Nat.le_of_ble_eq_true rfl) ⟨Nat.le_of_ble_eq_true rfl, Nat.le_of_ble_eq_true rfl⟩ d_Re_takeEntry_64 ?_
        refine g_if_eq C d_Re_takeEntry_67 (fun c_4 => ?_) (fun c_4 => ?_)
        · have c_4 := zb_0.mp c_4
          refine g_aload_n C 0 rfl d_Re_takeEntry_75 ?_
          refine g_bipush (v := 59) C rfl d_Re_takeEntry_76 ?_
          refine g_iconst (v := 0) C rfl d_Re_takeEntry_78 ?_
          refine g_callV0 (rest := []) (Xn := [(q0, .inr (4, [.ref e1, .ref e2, .int fa, .int pl, .int (if kd = 4 ∧ va = Int32.toInt64 59 then 0 else ex), .int ld, .ref e3, .int nd])), (e1, .inr (11, [.ref tp, .int nx, .int kd, .int pk, .long va])), (e2, .inr (7, [.ref m1, .ref m2, .ref m3, .int (nI n)])), (m1, .inl (g.2.1 1, 12, .inr (.inl nf))), (m2, .inl (g.2.1 0, 12, .inl sf)), (e3, .inr (6, [.int d1, .int s1, .ref v1, .int gp, .int lw])), (v1, .inl (g.2.1 0, 12, .inl ef))]) C (c_Re_takeSign l g q0 e1 e2 e3 tp fa pl ex ld nd nx kd pk va 59 0) [0, 1] [2, 3, 4, 5, 6] [5, 6, 0, 1, 2, 3, 4] rfl (by decide) (by decide) rfl mo_Re_takeSign mv_Re_takeSign kw_624 (by decide) (rcX 0 rfl rfl) rfl (Nat.le_of_ble_eq_true rfl) ⟨Nat.le_of_ble_eq_true rfl, Nat.le_of_ble_eq_true rfl⟩ d_Re_takeEntry_79 ?_
          exact g_iret C rfl ⟨congrArg (fun z => some (Value.int z)) (by first | (simp [teC, l63, l59, c_1, c_2, eq_true c_3, c_4]; done) | (clear C; simp_all [teC, l63, l59]; done) | (clear C; grind [teC, l63, l59])), (by first | (simp [teC, l63, l59, c_1, c_2, eq_true c_3, c_4]; done) | (clear C; simp_all [teC, l63, l59]; done) | (clear C; grind [teC, l63, l59])), rfl⟩ (by decide) (by decide) d_Re_takeEntry_82
        · have c_4 := zb_n0.mp c_4
          refine g_aload_n C 0 rfl d_Re_takeEntry_70 ?_
          refine g_callV0 (rest := []) (Xn := [(q0, .inr (4, [.ref e1, .ref e2, .int fa, .int pl, .int (if ¬ fndG nf sf n va s1 = (-1) ∧ ef (fndG nf sf n va s1).toNatClampNeg = 0 then 5 else ex), .int ld, .ref e3, .int (fndG nf sf n va s1)])), (e1, .inr (11, [.ref tp, .int nx, .int kd, .int pk, .long va])), (e2, .inr (7, [.ref m1, .ref m2, .ref m3, .int (nI n)])), (m1, .inl (g.2.1 1, 12, .inr (.inl nf))), (m2, .inl (g.2.1 0, 12, .inl sf)), (e3, .inr (6, [.int d1, .int s1, .ref v1, .int gp, .int lw])), (v1, .inl (g.2.1 0, 12, .inl ef))]) C (c_Re_takeName l g q0 e1 e2 e3 tp v1 fa pl ex ld nd d1 s1 gp lw nx kd pk va ef m1 m2 m3 n nf sf (by first | assumption | omega | exact nI_pos (by omega))) [0, 1, 2, 3, 4, 5, 6] [] [0, 1, 2, 3, 4, 5, 6] rfl (by decide) (by decide) rfl mo_Re_takeName mv_Re_takeName kw_638 (by decide) (rcX 0 rfl rfl) rfl (Nat.le_of_ble_eq_true rfl) ⟨Nat.le_of_ble_eq_true rfl, Nat.le_of_ble_eq_true rfl⟩ d_Re_takeEntry_71 ?_
          exact g_iret C rfl ⟨congrArg (fun z => some (Value.int z)) (by first | (simp [teC, l63, l59, c_1, c_2, eq_true c_3, c_4]; done) | (clear C; simp_all [teC, l63, l59]; done) | (clear C; grind [teC, l63, l59])), (by first | (simp [teC, l63, l59, c_1, c_2, eq_true c_3, c_4]; done) | (clear C; simp_all [teC, l63, l59]; done) | (clear C; grind [teC, l63, l59])), rfl⟩ (by decide) (by decide) d_Re_takeEntry_74
    · have c_2 := zb_n0.mp c_2
      refine g_aload_n C 0 rfl d_Re_takeEntry_39 ?_
      refine g_bipush (v := 6) C rfl d_Re_takeEntry_40 ?_
      refine g_callV0 (rest := []) (Xn := [(q0, .inr (4, [.ref e1, .ref e2, .int fa, .int pl, .int 6, .int ld, .ref e3, .int nd])), (e1, .inr (11, [.ref tp, .int nx, .int kd, .int pk, .long va])), (e2, .inr (7, [.ref m1, .ref m2, .ref m3, .int (nI n)])), (m1, .inl (g.2.1 1, 12, .inr (.inl nf))), (m2, .inl (g.2.1 0, 12, .inl sf)), (e3, .inr (6, [.int d1, .int s1, .ref v1, .int gp, .int lw])), (v1, .inl (g.2.1 0, 12, .inl ef))]) C (c_Re_expect l g q0 e1 e2 e3 fa pl ex ld nd 6) [0] [1, 2, 3, 4, 5, 6] [6, 0, 1, 2, 3, 4, 5] rfl (by decide) (by decide) rfl mo_Re_expect mv_Re_expect kw_549 (by decide) (rcX 0 rfl rfl) rfl (Nat.le_of_ble_eq_true rfl) ⟨Nat.le_of_ble_eq_true rfl, Nat.le_of_ble_eq_true rfl⟩ d_Re_takeEntry_42 ?_
      exact g_iret C rfl ⟨congrArg (fun z => some (Value.int z)) (by first | (simp [teC, l63, l59, c_1, c_2]; done) | (clear C; simp_all [teC, l63, l59]; done) | (clear C; grind [teC, l63, l59])), (by first | (simp [teC, l63, l59, c_1, c_2]; done) | (clear C; simp_all [teC, l63, l59]; done) | (clear C; grind [teC, l63, l59])), rfl⟩ (by decide) (by decide) d_Re_takeEntry_45
  · have c_1 := zb_n0.mp c_1
    refine g_aload_n C 0 rfl d_Re_takeEntry_12 ?_
    refine g_get C 0 rfl rfl in_Re 6 (by decide) kw_217 rfl d_Re_takeEntry_13 ?_
    refine g_iconst (v := 1) C rfl d_Re_takeEntry_16 ?_
    refine g_putN (X1 := [(q0, .inr (4, [.ref e1, .ref e2, .int fa, .int pl, .int ex, .int ld, .ref e3, .int nd])), (e1, .inr (11, [.ref tp, .int nx, .int kd, .int pk, .long va])), (e2, .inr (7, [.ref m1, .ref m2, .ref m3, .int (nI n)])), (m1, .inl (g.2.1 1, 12, .inr (.inl nf))), (m2, .inl (g.2.1 0, 12, .inl sf)), (e3, .inr (6, [.int d1, .int s1, .ref v1, .int 1, .int lw])), (v1, .inl (g.2.1 0, 12, .inl ef))]) C 5 rfl rfl in_Li 3 (by decide) ok_Li nm_Li kw_169 rfl rfl rfl (Nat.le_of_ble_eq_true rfl) rfl d_Re_takeEntry_17 ?_
    refine g_aload_n C 0 rfl d_Re_takeEntry_20 ?_
    refine g_iconst (v := 4) C rfl d_Re_takeEntry_21 ?_
    refine g_callV0 (rest := []) (Xn := [(q0, .inr (4, [.ref e1, .ref e2, .int fa, .int pl, .int 4, .int ld, .ref e3, .int nd])), (e1, .inr (11, [.ref tp, .int nx, .int kd, .int pk, .long va])), (e2, .inr (7, [.ref m1, .ref m2, .ref m3, .int (nI n)])), (m1, .inl (g.2.1 1, 12, .inr (.inl nf))), (m2, .inl (g.2.1 0, 12, .inl sf)), (e3, .inr (6, [.int d1, .int s1, .ref v1, .int 1, .int lw])), (v1, .inl (g.2.1 0, 12, .inl ef))]) C (c_Re_expect l g q0 e1 e2 e3 fa pl ex ld nd 4) [0] [1, 2, 3, 4, 5, 6] [6, 0, 1, 2, 3, 4, 5] rfl (by decide) (by decide) rfl mo_Re_expect mv_Re_expect kw_549 (by decide) (rcX 0 rfl rfl) rfl (Nat.le_of_ble_eq_true rfl) ⟨Nat.le_of_ble_eq_true rfl, Nat.le_of_ble_eq_true rfl⟩ d_Re_takeEntry_22 ?_
    exact g_iret C rfl ⟨congrArg (fun z => some (Value.int z)) (by first | (simp [teC, l63, l59, c_1]; done) | (clear C; simp_all [teC, l63, l59]; done) | (clear C; grind [teC, l63, l59])), (by first | (simp [teC, l63, l59, c_1]; done) | (clear C; simp_all [teC, l63, l59]; done) | (clear C; grind [teC, l63, l59])), rfl⟩ (by decide) (by decide) d_Re_takeEntry_25

def ttC (kd : Int32) (va : Int64) (ef : Nat → Int32) (ex nd : Int32) : Int32 × Int32 × (Nat → Int32) :=
  if kd = 4 ∧ va = 63 then (0, 4, upd ef nd.toNatClampNeg (-1))
  else if kd = 2 ∧ ¬ reaC va = (-1) then (0, 4, upd ef nd.toNatClampNeg (reaC va)) else (2, ex, ef)
def twC (kd : Int32) (va : Int64) (ex lw : Int32) : Int32 × Int32 × Int32 :=
  if kd = 4 ∧ va = 63 then (0, 7, lw) else if ¬ kd = 3 then (2, ex, lw) else if va &&& 1 = 1 then (6, ex, lw) else (0, 7, Int64.toInt32 va)
set_option maxHeartbeats 4000000 in
set_option maxRecDepth 100000 in
theorem c_Re_takeToldOfName (l : Launch) (g : Gx) (q0 e1 e2 e3 tp v1 : Nat) (fa pl ex ld nd d1 s1 gp lw nx kd pk : Int32) (va : Int64) (ef : Nat → Int32) (hp : vp_in nd 12) : M0 l g y_Re_takeToldOfName b_Re_takeToldOfName 2 (some FieldType.int) ({ frames := 1, cells := 0, slots := 0, locals := 21 }) [.ref q0] [(q0, .inr (4, [.ref e1, .ref e2, .int fa, .int pl, .int ex, .int ld, .ref e3, .int nd])), (e1, .inr (11, [.ref tp, .int nx, .int kd, .int pk, .long va])), (e3, .inr (6, [.int d1, .int s1, .ref v1, .int gp, .int lw])), (v1, .inl (g.2.1 0, 12, .inl ef))] (some (.int (ttC kd va ef ex nd).1)) [(q0, .inr (4, [.ref e1, .ref e2, .int fa, .int pl, .int (ttC kd va ef ex nd).2.1, .int ld, .ref e3, .int nd])), (e1, .inr (11, [.ref tp, .int nx, .int kd, .int pk, .long va])), (e3, .inr (6, [.int d1, .int s1, .ref v1, .int gp, .int lw])), (v1, .inl (g.2.1 0, 12, .inl (ttC kd va ef ex nd).2.2))] := by
  refine MP.of (by decide) (Nat.le_of_ble_eq_true rfl) (fun κ C => ?_)
  have C : zC κ l g ({ frames := 1, cells := 0, slots := 0, locals := 21 }) b_Re_takeToldOfName 2 "TombLane$FlakeReader" "takeToldOfName" (some FieldType.int) _ := C
  refine g_lv (lv1 := [(0, .ref q0)]) [0] rfl ?_
  refine g_aload_n C 0 rfl d_Re_takeToldOfName_0 ?_
  refine g_get C 0 rfl rfl in_Re 0 (by decide) kw_209 rfl d_Re_takeToldOfName_1 ?_
  refine g_bipush (v := 63) C rfl d_Re_takeToldOfName_4 ?_
  refine g_callVN0 (rest := []) (Xn := [(q0, .inr (4, [.ref e1, .ref e2, .int fa, .int pl, .int ex, .int ld, .ref e3, .int nd])), (e1, .inr (11, [.ref tp, .int nx, .int kd, .int pk, .long va])), (e3, .inr (6, [.int d1, .int s1, .ref v1, .int gp, .int lw])), (v1, .inl (g.2.1 0, 12, .inl ef))]) C (c_To_isSign l g e1 tp nx kd pk 63 va) [1] [0, 2, 3] [0, 3, 1, 2] rfl (by decide) (by decide) rfl mo_To_isSign mv_To_isSign kw_628 (by decide) (rcX 1 rfl rfl) rfl (Nat.le_of_ble_eq_true rfl) ⟨Nat.le_of_ble_eq_true rfl, Nat.le_of_ble_eq_true rfl⟩ d_Re_takeToldOfName_6 ?_
  refine g_if_eq C d_Re_takeToldOfName_9 (fun c_1 => ?_) (fun c_1 => ?_)
  · have c_1 := zb_0.mp c_1
    refine g_aload_n C 0 rfl d_Re_takeToldOfName_31 ?_
    refine g_get C 0 rfl rfl in_Re 0 (by decide) kw_209 rfl d_Re_takeToldOfName_32 ?_
    refine g_getN C 1 rfl rfl in_To 2 (by decide) kw_193 rfl d_Re_takeToldOfName_35 ?_
    refine g_iconst (v := 2) C rfl d_Re_takeToldOfName_38 ?_
    refine g_icmp_ne C d_Re_takeToldOfName_39 (fun c_2 => ?_) (fun c_2 => ?_)
    · skip
      refine g_iconst (v := (-1)) C rfl d_Re_takeToldOfName_55 ?_
      refine g_istore_n (lv1 := [(0, .ref q0), (1, .int (-1))]) C d_Re_takeToldOfName_56 [1, 0] (by decide) rfl ?_
      refine g_iload_n C 1 rfl d_Re_takeToldOfName_57 ?_
      refine g_iconst (v := (-1)) C rfl d_Re_takeToldOfName_58 ?_
      refine g_icmp_ne C d_Re_takeToldOfName_59 (fun c_3 => absurd c_3 (by decide)) (fun _ => ?_)
      refine g_iconst (v := 2) C rfl d_Re_takeToldOfName_62 ?_
      exact g_iret C rfl ⟨congrArg (fun z => some (Value.int z)) (by first | (simp [ttC, l63, c_1, c_2]; done) | (clear C; simp_all [ttC, l63]; done) | (clear C; grind [ttC, l63])), (by first | (simp [ttC, l63, c_1, c_2]; done) | (clear C; simp_all [ttC, l63]; done) | (clear C; grind [ttC, l63])), rfl⟩ (by decide) (by decide) d_Re_takeToldOfName_63
    · skip
      refine g_aload_n C 0 rfl d_Re_takeToldOfName_42 ?_
      refine g_get C 0 rfl rfl in_Re 0 (by decide) kw_209 rfl d_Re_takeToldOfName_43 ?_
      refine g_getN C 1 rfl rfl in_To 4 (by decide) kw_197 rfl d_Re_takeToldOfName_46 ?_
      refine g_callSN0 (rest := []) (Xn := [(q0, .inr (4, [.ref e1, .ref e2, .int fa, .int pl, .int ex, .int ld, .ref e3, .int nd])), (e1, .inr (11, [.ref tp, .int nx, .int kd, .int pk, .long va])), (e3, .inr (6, [.int d1, .int s1, .ref v1, .int gp, .int lw])), (v1, .inl (g.2.1 0, 12, .inl ef))]) C (c_TL_reasonOf l g va) [] [0, 1, 2, 3] [0, 1, 2, 3] rfl (by decide) (by decide) rfl mo_TL_reasonOf ms_TL_reasonOf kw_654 (by decide) rfl (Nat.le_of_ble_eq_true rfl) ⟨Nat.le_of_ble_eq_true rfl, Nat.le_of_ble_eq_true rfl⟩ d_Re_takeToldOfName_49 ?_
      refine g_goto C d_Re_takeToldOfName_52 ?_
      refine g_istore_n (lv1 := [(0, .ref q0), (1, .int (reaC va))]) C d_Re_takeToldOfName_56 [1, 0] (by decide) rfl ?_
      refine g_iload_n C 1 rfl d_Re_takeToldOfName_57 ?_
      refine g_iconst (v := (-1)) C rfl d_Re_takeToldOfName_58 ?_
      refine g_icmp_ne C d_Re_takeToldOfName_59 (fun c_4 => ?_) (fun c_4 => ?_)
      · skip
        refine g_aload_n C 0 rfl d_Re_takeToldOfName_64 ?_
        refine g_get C 0 rfl rfl in_Re 6 (by decide) kw_217 rfl d_Re_takeToldOfName_65 ?_
        refine g_getN C 2 rfl rfl in_Li 2 (by decide) kw_167 rfl d_Re_takeToldOfName_68 ?_
        refine g_aload_n C 0 rfl d_Re_takeToldOfName_71 ?_
        refine g_get C 0 rfl rfl in_Re 7 (by decide) kw_218 rfl d_Re_takeToldOfName_72 ?_
        refine g_iload_n C 1 rfl d_Re_takeToldOfName_75 ?_
        refine g_iast (X1 := [(q0, .inr (4, [.ref e1, .ref e2, .int fa, .int pl, .int ex, .int ld, .ref e3, .int nd])), (e1, .inr (11, [.ref tp, .int nx, .int kd, .int pk, .long va])), (e3, .inr (6, [.int d1, .int s1, .ref v1, .int gp, .int lw])), (v1, .inl (g.2.1 0, 12, .inl (upd ef (Int32.toNatClampNeg nd) (reaC va))))]) C 3 rfl hp rfl d_Re_takeToldOfName_76 ?_
        refine g_aload_n C 0 rfl d_Re_takeToldOfName_77 ?_
        refine g_iconst (v := 4) C rfl d_Re_takeToldOfName_78 ?_
        refine g_callV0 (rest := []) (Xn := [(q0, .inr (4, [.ref e1, .ref e2, .int fa, .int pl, .int 4, .int ld, .ref e3, .int nd])), (e1, .inr (11, [.ref tp, .int nx, .int kd, .int pk, .long va])), (e3, .inr (6, [.int d1, .int s1, .ref v1, .int gp, .int lw])), (v1, .inl (g.2.1 0, 12, .inl (upd ef (Int32.toNatClampNeg nd) (reaC va))))]) C (c_Re_expect l g q0 e1 e2 e3 fa pl ex ld nd 4) [0] [1, 2, 3] [3, 0, 1, 2] rfl (by decide) (by decide) rfl mo_Re_expect mv_Re_expect kw_549 (by decide) (rcX 0 rfl rfl) rfl (Nat.le_of_ble_eq_true rfl) ⟨Nat.le_of_ble_eq_true rfl, Nat.le_of_ble_eq_true rfl⟩ d_Re_takeToldOfName_79 ?_
        exact g_iret C rfl ⟨congrArg (fun z => some (Value.int z)) (by first | (simp [ttC, l63, c_1, eq_true c_2, c_4]; done) | (clear C; simp_all [ttC, l63]; done) | (clear C; grind [ttC, l63])), (by first | (simp [ttC, l63, c_1, eq_true c_2, c_4]; done) | (clear C; simp_all [ttC, l63]; done) | (clear C; grind [ttC, l63])), rfl⟩ (by decide) (by decide) d_Re_takeToldOfName_82
      · skip
        refine g_iconst (v := 2) C rfl d_Re_takeToldOfName_62 ?_
        exact g_iret C rfl ⟨congrArg (fun z => some (Value.int z)) (by first | (simp [ttC, l63, c_1, eq_true c_2, eq_true c_4]; done) | (clear C; simp_all [ttC, l63]; done) | (clear C; grind [ttC, l63])), (by first | (simp [ttC, l63, c_1, eq_true c_2, eq_true c_4]; done) | (clear C; simp_all [ttC, l63]; done) | (clear C; grind [ttC, l63])), rfl⟩ (by decide) (by decide) d_Re_takeToldOfName_63
  · have c_1 := zb_n0.mp c_1
    refine g_aload_n C 0 rfl d_Re_takeToldOfName_12 ?_
    refine g_get C 0 rfl rfl in_Re 6 (by decide) kw_217 rfl d_Re_takeToldOfName_13 ?_
    refine g_getN C 2 rfl rfl in_Li 2 (by decide) kw_167 rfl d_Re_takeToldOfName_16 ?_
    refine g_aload_n C 0 rfl d_Re_takeToldOfName_19 ?_
    refine g_get C 0 rfl rfl in_Re 7 (by decide) kw_218 rfl d_Re_takeToldOfName_20 ?_
    refine g_iconst (v := (-1)) C rfl d_Re_takeToldOfName_23 ?_
    refine g_iast (X1 := [(q0, .inr (4, [.ref e1, .ref e2, .int fa, .int pl, .int ex, .int ld, .ref e3, .int nd])), (e1, .inr (11, [.ref tp, .int nx, .int kd, .int pk, .long va])), (e3, .inr (6, [.int d1, .int s1, .ref v1, .int gp, .int lw])), (v1, .inl (g.2.1 0, 12, .inl (upd ef (Int32.toNatClampNeg nd) (-1))))]) C 3 rfl hp rfl d_Re_takeToldOfName_24 ?_
    refine g_aload_n C 0 rfl d_Re_takeToldOfName_25 ?_
    refine g_iconst (v := 4) C rfl d_Re_takeToldOfName_26 ?_
    refine g_callV0 (rest := []) (Xn := [(q0, .inr (4, [.ref e1, .ref e2, .int fa, .int pl, .int 4, .int ld, .ref e3, .int nd])), (e1, .inr (11, [.ref tp, .int nx, .int kd, .int pk, .long va])), (e3, .inr (6, [.int d1, .int s1, .ref v1, .int gp, .int lw])), (v1, .inl (g.2.1 0, 12, .inl (upd ef (Int32.toNatClampNeg nd) (-1))))]) C (c_Re_expect l g q0 e1 e2 e3 fa pl ex ld nd 4) [0] [1, 2, 3] [3, 0, 1, 2] rfl (by decide) (by decide) rfl mo_Re_expect mv_Re_expect kw_549 (by decide) (rcX 0 rfl rfl) rfl (Nat.le_of_ble_eq_true rfl) ⟨Nat.le_of_ble_eq_true rfl, Nat.le_of_ble_eq_true rfl⟩ d_Re_takeToldOfName_27 ?_
    exact g_iret C rfl ⟨congrArg (fun z => some (Value.int z)) (by first | (simp [ttC, l63, c_1]; done) | (clear C; simp_all [ttC, l63]; done) | (clear C; grind [ttC, l63])), (by first | (simp [ttC, l63, c_1]; done) | (clear C; simp_all [ttC, l63]; done) | (clear C; grind [ttC, l63])), rfl⟩ (by decide) (by decide) d_Re_takeToldOfName_30

set_option maxHeartbeats 4000000 in
set_option maxRecDepth 100000 in
theorem c_Re_takeWicksNumber (l : Launch) (g : Gx) (q0 e1 e2 e3 tp v1 : Nat) (fa pl ex ld nd d1 s1 gp lw nx kd pk : Int32) (va : Int64) (ef : Nat → Int32) : M0 l g y_Re_takeWicksNumber b_Re_takeWicksNumber 1 (some FieldType.int) ({ frames := 1, cells := 0, slots := 0, locals := 21 }) [.ref q0] [(q0, .inr (4, [.ref e1, .ref e2, .int fa, .int pl, .int ex, .int ld, .ref e3, .int nd])), (e1, .inr (11, [.ref tp, .int nx, .int kd, .int pk, .long va])), (e3, .inr (6, [.int d1, .int s1, .ref v1, .int gp, .int lw])), (v1, .inl (g.2.1 0, 12, .inl ef))] (some (.int (twC kd va ex lw).1)) [(q0, .inr (4, [.ref e1, .ref e2, .int fa, .int pl, .int (twC kd va ex lw).2.1, .int ld, .ref e3, .int nd])), (e1, .inr (11, [.ref tp, .int nx, .int kd, .int pk, .long va])), (e3, .inr (6, [.int d1, .int s1, .ref v1, .int gp, .int (twC kd va ex lw).2.2])), (v1, .inl (g.2.1 0, 12, .inl ef))] := by
  refine MP.of (by decide) (Nat.le_of_ble_eq_true rfl) (fun κ C => ?_)
  have C : zC κ l g ({ frames := 1, cells := 0, slots := 0, locals := 21 }) b_Re_takeWicksNumber 1 "TombLane$FlakeReader" "takeWicksNumber" (some FieldType.int) _ := C
  refine g_lv (lv1 := [(0, .ref q0)]) [0] rfl ?_
  refine g_aload_n C 0 rfl d_Re_takeWicksNumber_0 ?_
  refine g_get C 0 rfl rfl in_Re 0 (by decide) kw_209 rfl d_Re_takeWicksNumber_1 ?_
  refine g_bipush (v := 63) C rfl d_Re_takeWicksNumber_4 ?_
  refine g_callVN0 (rest := []) (Xn := [(q0, .inr (4, [.ref e1, .ref e2, .int fa, .int pl, .int ex, .int ld, .ref e3, .int nd])), (e1, .inr (11, [.ref tp, .int nx, .int kd, .int pk, .long va])), (e3, .inr (6, [.int d1, .int s1, .ref v1, .int gp, .int lw])), (v1, .inl (g.2.1 0, 12, .inl ef))]) C (c_To_isSign l g e1 tp nx kd pk 63 va) [1] [0, 2, 3] [0, 3, 1, 2] rfl (by decide) (by decide) rfl mo_To_isSign mv_To_isSign kw_628 (by decide) (rcX 1 rfl rfl) rfl (Nat.le_of_ble_eq_true rfl) ⟨Nat.le_of_ble_eq_true rfl, Nat.le_of_ble_eq_true rfl⟩ d_Re_takeWicksNumber_6 ?_
  refine g_if_eq C d_Re_takeWicksNumber_9 (fun c_1 => ?_) (fun c_1 => ?_)
  · have c_1 := zb_0.mp c_1
    refine g_aload_n C 0 rfl d_Re_takeWicksNumber_19 ?_
    refine g_get C 0 rfl rfl in_Re 0 (by decide) kw_209 rfl d_Re_takeWicksNumber_20 ?_
    refine g_getN C 1 rfl rfl in_To 2 (by decide) kw_193 rfl d_Re_takeWicksNumber_23 ?_
    refine g_iconst (v := 3) C rfl d_Re_takeWicksNumber_26 ?_
    refine g_icmp_eq C d_Re_takeWicksNumber_27 (fun c_2 => ?_) (fun c_2 => ?_)
    · skip
      refine g_aload_n C 0 rfl d_Re_takeWicksNumber_32 ?_
      refine g_get C 0 rfl rfl in_Re 0 (by decide) kw_209 rfl d_Re_takeWicksNumber_33 ?_
      refine g_getN C 1 rfl rfl in_To 4 (by decide) kw_197 rfl d_Re_takeWicksNumber_36 ?_
      refine g_lconst (v := 1) C rfl d_Re_takeWicksNumber_39 ?_
      refine g_land C d_Re_takeWicksNumber_40 ?_
      refine g_lconst (v := 1) C rfl d_Re_takeWicksNumber_41 ?_
      refine g_lcmp C d_Re_takeWicksNumber_42 ?_
      refine g_if_ne C d_Re_takeWicksNumber_43 (fun c_3 => ?_) (fun c_3 => ?_)
      · have c_3 : ¬ ((va &&& 1 : Int64) = 1) := fun z => c_3 ((lg_cmp_eq _ _).mpr z)
        refine g_aload_n C 0 rfl d_Re_takeWicksNumber_49 ?_
        refine g_get C 0 rfl rfl in_Re 6 (by decide) kw_217 rfl d_Re_takeWicksNumber_50 ?_
        refine g_aload_n C 0 rfl d_Re_takeWicksNumber_53 ?_
        refine g_get C 0 rfl rfl in_Re 0 (by decide) kw_209 rfl d_Re_takeWicksNumber_54 ?_
        refine g_getN C 1 rfl rfl in_To 4 (by decide) kw_197 rfl d_Re_takeWicksNumber_57 ?_
        refine g_l2i C d_Re_takeWicksNumber_60 ?_
        refine g_putN (X1 := [(q0, .inr (4, [.ref e1, .ref e2, .int fa, .int pl, .int ex, .int ld, .ref e3, .int nd])), (e1, .inr (11, [.ref tp, .int nx, .int kd, .int pk, .long va])), (e3, .inr (6, [.int d1, .int s1, .ref v1, .int gp, .int (Int64.toInt32 va)])), (v1, .inl (g.2.1 0, 12, .inl ef))]) C 2 rfl rfl in_Li 4 (by decide) ok_Li nm_Li kw_172 rfl rfl rfl (Nat.le_of_ble_eq_true rfl) rfl d_Re_takeWicksNumber_61 ?_
        refine g_aload_n C 0 rfl d_Re_takeWicksNumber_64 ?_
        refine g_bipush (v := 7) C rfl d_Re_takeWicksNumber_65 ?_
        refine g_callV0 (rest := []) (Xn := [(q0, .inr (4, [.ref e1, .ref e2, .int fa, .int pl, .int 7, .int ld, .ref e3, .int nd])), (e1, .inr (11, [.ref tp, .int nx, .int kd, .int pk, .long va])), (e3, .inr (6, [.int d1, .int s1, .ref v1, .int gp, .int (Int64.toInt32 va)])), (v1, .inl (g.2.1 0, 12, .inl ef))]) C (c_Re_expect l g q0 e1 e2 e3 fa pl ex ld nd 7) [0] [1, 2, 3] [3, 0, 1, 2] rfl (by decide) (by decide) rfl mo_Re_expect mv_Re_expect kw_549 (by decide) (rcX 0 rfl rfl) rfl (Nat.le_of_ble_eq_true rfl) ⟨Nat.le_of_ble_eq_true rfl, Nat.le_of_ble_eq_true rfl⟩ d_Re_takeWicksNumber_67 ?_
        exact g_iret C rfl ⟨congrArg (fun z => some (Value.int z)) (by first | (simp [twC, l63, c_1, eq_true c_2, c_3]; done) | (clear C; simp_all [twC, l63]; done) | (clear C; grind [twC, l63])), (by first | (simp [twC, l63, c_1, eq_true c_2, c_3]; done) | (clear C; simp_all [twC, l63]; done) | (clear C; grind [twC, l63])), rfl⟩ (by decide) (by decide) d_Re_takeWicksNumber_70
      · have c_3 := (lg_cmp_eq _ _).mp c_3
        refine g_bipush (v := 6) C rfl d_Re_takeWicksNumber_46 ?_
        exact g_iret C rfl ⟨congrArg (fun z => some (Value.int z)) (by first | (simp [twC, l63, c_1, eq_true c_2, eq_true c_3]; done) | (clear C; simp_all [twC, l63]; done) | (clear C; grind [twC, l63])), (by first | (simp [twC, l63, c_1, eq_true c_2, eq_true c_3]; done) | (clear C; simp_all [twC, l63]; done) | (clear C; grind [twC, l63])), rfl⟩ (by decide) (by decide) d_Re_takeWicksNumber_48
    · skip
      refine g_iconst (v := 2) C rfl d_Re_takeWicksNumber_30 ?_
      exact g_iret C rfl ⟨congrArg (fun z => some (Value.int z)) (by first | (simp [twC, l63, c_1, c_2]; done) | (clear C; simp_all [twC, l63]; done) | (clear C; grind [twC, l63])), (by first | (simp [twC, l63, c_1, c_2]; done) | (clear C; simp_all [twC, l63]; done) | (clear C; grind [twC, l63])), rfl⟩ (by decide) (by decide) d_Re_takeWicksNumber_31
  · have c_1 := zb_n0.mp c_1
    refine g_aload_n C 0 rfl d_Re_takeWicksNumber_12 ?_
    refine g_bipush (v := 7) C rfl d_Re_takeWicksNumber_13 ?_
    refine g_callV0 (rest := []) (Xn := [(q0, .inr (4, [.ref e1, .ref e2, .int fa, .int pl, .int 7, .int ld, .ref e3, .int nd])), (e1, .inr (11, [.ref tp, .int nx, .int kd, .int pk, .long va])), (e3, .inr (6, [.int d1, .int s1, .ref v1, .int gp, .int lw])), (v1, .inl (g.2.1 0, 12, .inl ef))]) C (c_Re_expect l g q0 e1 e2 e3 fa pl ex ld nd 7) [0] [1, 2, 3] [3, 0, 1, 2] rfl (by decide) (by decide) rfl mo_Re_expect mv_Re_expect kw_549 (by decide) (rcX 0 rfl rfl) rfl (Nat.le_of_ble_eq_true rfl) ⟨Nat.le_of_ble_eq_true rfl, Nat.le_of_ble_eq_true rfl⟩ d_Re_takeWicksNumber_15 ?_
    exact g_iret C rfl ⟨congrArg (fun z => some (Value.int z)) (by first | (simp [twC, l63, c_1]; done) | (clear C; simp_all [twC, l63]; done) | (clear C; grind [twC, l63])), (by first | (simp [twC, l63, c_1]; done) | (clear C; simp_all [twC, l63]; done) | (clear C; grind [twC, l63])), rfl⟩ (by decide) (by decide) d_Re_takeWicksNumber_18

set_option maxHeartbeats 4000000 in
set_option maxRecDepth 100000 in
theorem c_Re_takeGang_no (l : Launch) (g : Gx) (q0 e1 e2 e3 tp f f1 ea c : Nat) (fa pl ex ld nd fd gu on mc nx kd pk : Int32) (va : Int64) (hG : ¬ (kd = 2 ∧ ¬ sidC va = (-1))) : M0 l g y_Re_takeGang b_Re_takeGang 3 (some FieldType.int) ({ frames := 7, cells := 0, slots := 0, locals := 171 }) [.ref q0, .ref f] [(q0, .inr (4, [.ref e1, .ref e2, .int fa, .int pl, .int ex, .int ld, .ref e3, .int nd])), (e1, .inr (11, [.ref tp, .int nx, .int kd, .int pk, .long va])), (f, .inr (3, [.int fd, .ref f1, .int gu, .int on])), (f1, .inr (0, [.int mc, .ref ea, .int (nI c)]))] (some (.int 2)) [(q0, .inr (4, [.ref e1, .ref e2, .int fa, .int pl, .int ex, .int ld, .ref e3, .int nd])), (e1, .inr (11, [.ref tp, .int nx, .int kd, .int pk, .long va])), (f, .inr (3, [.int fd, .ref f1, .int gu, .int on])), (f1, .inr (0, [.int mc, .ref ea, .int (nI c)]))] := by
  refine MP.of (by decide) (Nat.le_of_ble_eq_true rfl) (fun κ C => ?_)
  have C : zC κ l g ({ frames := 7, cells := 0, slots := 0, locals := 171 }) b_Re_takeGang 3 "TombLane$FlakeReader" "takeGang" (some FieldType.int) _ := C
  refine g_lv (lv1 := [(0, .ref q0), (1, .ref f)]) [0, 1] rfl ?_
  refine g_aload_n C 0 rfl d_Re_takeGang_0 ?_
  refine g_get C 0 rfl rfl in_Re 0 (by decide) kw_209 rfl d_Re_takeGang_1 ?_
  refine g_getN C 1 rfl rfl in_To 2 (by decide) kw_193 rfl d_Re_takeGang_4 ?_
  refine g_iconst (v := 2) C rfl d_Re_takeGang_7 ?_
  refine g_icmp_ne C d_Re_takeGang_8 (fun c_1 => ?_) (fun c_1 => ?_)
  · skip
    refine g_iconst (v := (-1)) C rfl d_Re_takeGang_24 ?_
    refine g_istore_n (lv1 := [(0, .ref q0), (1, .ref f), (2, .int (-1))]) C d_Re_takeGang_25 [1, 2, 0] (by decide) rfl ?_
    refine g_iload_n C 2 rfl d_Re_takeGang_26 ?_
    refine g_iconst (v := (-1)) C rfl d_Re_takeGang_27 ?_
    refine g_icmp_ne C d_Re_takeGang_28 (fun c_2 => absurd c_2 (by decide)) (fun _ => ?_)
    refine g_iconst (v := 2) C rfl d_Re_takeGang_31 ?_
    exact g_iret C rfl ⟨rfl, rfl, rfl⟩ (by decide) (by decide) d_Re_takeGang_32
  · skip
    refine g_aload_n C 0 rfl d_Re_takeGang_11 ?_
    refine g_get C 0 rfl rfl in_Re 0 (by decide) kw_209 rfl d_Re_takeGang_12 ?_
    refine g_getN C 1 rfl rfl in_To 4 (by decide) kw_197 rfl d_Re_takeGang_15 ?_
    refine g_callSN0 (rest := []) (Xn := [(q0, .inr (4, [.ref e1, .ref e2, .int fa, .int pl, .int ex, .int ld, .ref e3, .int nd])), (e1, .inr (11, [.ref tp, .int nx, .int kd, .int pk, .long va])), (f, .inr (3, [.int fd, .ref f1, .int gu, .int on])), (f1, .inr (0, [.int mc, .ref ea, .int (nI c)]))]) C (c_TL_sideOf l g va) [] [0, 1, 2, 3] [0, 1, 2, 3] rfl (by decide) (by decide) rfl mo_TL_sideOf ms_TL_sideOf kw_562 (by decide) rfl (Nat.le_of_ble_eq_true rfl) ⟨Nat.le_of_ble_eq_true rfl, Nat.le_of_ble_eq_true rfl⟩ d_Re_takeGang_18 ?_
    refine g_goto C d_Re_takeGang_21 ?_
    refine g_istore_n (lv1 := [(0, .ref q0), (1, .ref f), (2, .int (sidC va))]) C d_Re_takeGang_25 [1, 2, 0] (by decide) rfl ?_
    refine g_iload_n C 2 rfl d_Re_takeGang_26 ?_
    refine g_iconst (v := (-1)) C rfl d_Re_takeGang_27 ?_
    refine g_icmp_ne C d_Re_takeGang_28 (fun c_3 => ?_) (fun c_3 => ?_)
    · skip
      exact absurd (by simp [eq_true c_1, c_3]) hG
    · skip
      refine g_iconst (v := 2) C rfl d_Re_takeGang_31 ?_
      exact g_iret C rfl ⟨rfl, rfl, rfl⟩ (by decide) (by decide) d_Re_takeGang_32

