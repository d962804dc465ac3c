/-- what a line says: day, gang, entries, gap, wicks -/
abbrev LN : Type := Int32 × Int32 × (Nat → Int32) × Int32 × Int32
def ftA (kd : Int32) (va : Int64) (c : Nat) (ex ld : Int32) : Int32 × Int32 × Int32 :=
  if kd = 1 then (1, ex, ld) else if kd = 0 then (2, ex, ld)
  else if ex = 0 then (if (kd = 2 ∧ va = 6578553) ∧ c < 20 then (0, 1, ld) else (2, ex, ld))
  else if ex = 1 then (if ¬ kd = 3 then (2, ex, ld) else if va < 3600 then (0, 2, Int64.toInt32 va) else (3, ex, ld))
  else if ex = 2 then (2, ex, ld)
  else if ex = 3 then (if kd = 4 ∧ va = 58 then (0, 4, ld) else (2, ex, ld))
  else (if kd = 4 ∧ va = 59 then (0, 0, ld) else (2, ex, ld))
def ftL (nf : Nat → Int64) (sf : Nat → Int32) (n : Nat) (kd : Int32) (va : Int64) (sd : Int32) (ef : Nat → Int32) (ex nd gp lw : Int32) : Int32 × Int32 × Int32 × (Nat → Int32) × Int32 × Int32 :=
  if kd = 1 then (1, ex, nd, ef, gp, lw) else if kd = 0 then (2, ex, nd, ef, gp, lw)
  else if ex = 4 then ((teC nf sf n kd va sd ef ex nd gp).1, (teC nf sf n kd va sd ef ex nd gp).2.1, (teC nf sf n kd va sd ef ex nd gp).2.2.1, ef, (teC nf sf n kd va sd ef ex nd gp).2.2.2, lw)
  else if ex = 5 then ((ttC kd va ef ex nd).1, (ttC kd va ef ex nd).2.1, nd, (ttC kd va ef ex nd).2.2, gp, lw)
  else ((twC kd va ex lw).1, (twC kd va ex lw).2.1, nd, ef, gp, (twC kd va ex lw).2.2)
set_option maxHeartbeats 4000000 in
set_option maxRecDepth 100000 in
theorem c_Re_takeGang_ok (l : Launch) (g : Gx) (q0 e1 e2 e3 tp f : Nat) (fa pl ld nd fd gu on nx kd pk : Int32) (va : Int64) (a : AR) (ls : List LR) (P : va_W) (hG : kd = 2 ∧ ¬ sidC va = (-1)) (ha : okA g a (lad ls)) (hc : ls.length ≤ 40) : MP l g y_Re_takeGang b_Re_takeGang 3 (some FieldType.int) ({ frames := 7, cells := 3, slots := 77, locals := 171 }) [.ref q0, .ref f] [(q0, .inr (4, [.ref e1, .ref e2, .int fa, .int pl, .int 2, .int ld, .ref e3, .int nd])), (e1, .inr (11, [.ref tp, .int nx, .int kd, .int pk, .long va])), (f, .inr (3, [.int fd, .ref a.1, .int gu, .int on])), (a.1, .inr (0, [.int a.2.1, .ref a.2.2.1, .int (nI ls.length)]))] (arc g a ls.length ++ (lcs g ls ++ P)) (fun v2 X2 P2 => ∃ (b2 : Int32 × Nat × Nat × (Nat → Option Nat)) (v : Nat) (v1 : Nat), (okA g (a.1, b2) (lad ls ++ [v])) ∧ v2 = some (.int 0) ∧ X2 = [(q0, .inr (4, [.ref e1, .ref e2, .int fa, .int pl, .int 3, .int ld, .ref v, .int nd])), (e1, .inr (11, [.ref tp, .int nx, .int kd, .int pk, .long va])), (f, .inr (3, [.int fd, .ref a.1, .int gu, .int on])), (a.1, .inr (0, [.int b2.1, .ref b2.2.1, .int (nI (ls.length + 1))]))] ∧ P2 = arc g (a.1, b2) (ls.length + 1) ++ (lcs g (ls ++ [(v, v1, ld, sidC va, (fun _ => 0), 0, (-1))]) ++ P)) := by
  refine MP.of (by decide) (Nat.le_of_ble_eq_true rfl) (fun κ C => ?_)
  have C : zC κ l g ({ frames := 7, cells := 3, slots := 77, locals := 171 }) b_Re_takeGang 3 "TombLane$FlakeReader" "takeGang" (some FieldType.int) _ := C
  refine g_lv (lv1 := [(0, .ref q0), (1, .ref f)]) [0, 1] rfl ?_
  refine g_aload_n C 0 rfl d_Re_takeGang_0 ?_
  refine g_get C 0 rfl rfl in_Re 0 (by decide) kw_209 rfl d_Re_takeGang_1 ?_
  refine g_getN C 1 rfl rfl in_To 2 (by decide) kw_193 rfl d_Re_takeGang_4 ?_
  refine g_iconst (v := 2) C rfl d_Re_takeGang_7 ?_
  refine g_icmp_ne C d_Re_takeGang_8 (fun c_1 => absurd hG.1 c_1) (fun _ => ?_)
  refine g_aload_n C 0 rfl d_Re_takeGang_11 ?_
  refine g_get C 0 rfl rfl in_Re 0 (by decide) kw_209 rfl d_Re_takeGang_12 ?_
  refine g_getN C 1 rfl rfl in_To 4 (by decide) kw_197 rfl d_Re_takeGang_15 ?_
  refine g_callSN0 (rest := []) (Xn := [(q0, .inr (4, [.ref e1, .ref e2, .int fa, .int pl, .int 2, .int ld, .ref e3, .int nd])), (e1, .inr (11, [.ref tp, .int nx, .int kd, .int pk, .long va])), (f, .inr (3, [.int fd, .ref a.1, .int gu, .int on])), (a.1, .inr (0, [.int a.2.1, .ref a.2.2.1, .int (nI ls.length)]))]) C (c_TL_sideOf l g va) [] [0, 1, 2, 3] [0, 1, 2, 3] rfl (by decide) (by decide) rfl mo_TL_sideOf ms_TL_sideOf kw_562 (by decide) rfl (Nat.le_of_ble_eq_true rfl) ⟨Nat.le_of_ble_eq_true rfl, Nat.le_of_ble_eq_true rfl⟩ d_Re_takeGang_18 ?_
  refine g_goto C d_Re_takeGang_21 ?_
  refine g_istore_n (lv1 := [(0, .ref q0), (1, .ref f), (2, .int (sidC va))]) C d_Re_takeGang_25 [1, 2, 0] (by decide) rfl ?_
  refine g_iload_n C 2 rfl d_Re_takeGang_26 ?_
  refine g_iconst (v := (-1)) C rfl d_Re_takeGang_27 ?_
  refine g_icmp_ne C d_Re_takeGang_28 (fun _ => ?_) (fun c_2 => absurd c_2 hG.2)
  refine g_aload_n C 0 rfl d_Re_takeGang_33 ?_
  refine g_new (ci := 6) (fs := [.int 0, .int 0, .null, .int 0, .int 0]) C rfl in_Li ok_Li kw_156 kw_157 kw_81 (fun j hj => by rcases (show j = 0 ∨ j = 1 ∨ j = 2 ∨ j = 3 ∨ j = 4 by omega) with rfl | rfl | rfl | rfl | rfl <;> rfl) (by decide) (by decide) d_Re_takeGang_34 (fun v hv => ?_)
  refine g_eq (X1 := [(q0, .inr (4, [.ref e1, .ref e2, .int fa, .int pl, .int 2, .int ld, .ref e3, .int nd])), (e1, .inr (11, [.ref tp, .int nx, .int kd, .int pk, .long va])), (f, .inr (3, [.int fd, .ref a.1, .int gu, .int on])), (a.1, .inr (0, [.int a.2.1, .ref a.2.2.1, .int (nI ls.length)])), (v, .inr (6, [.int 0, .int 0, .null, .int 0, .int 0]))]) rfl rfl ?_
  refine g_dup C rfl d_Re_takeGang_37 ?_
  refine g_aload_n C 0 rfl d_Re_takeGang_38 ?_
  refine g_get C 0 rfl rfl in_Re 5 (by decide) kw_216 rfl d_Re_takeGang_39 ?_
  refine g_iload_n C 2 rfl d_Re_takeGang_42 ?_
  refine g_callINE (rest := [.ref v, .ref q0]) C (c_Li_init l g v ld (sidC va)) [4] [0, 1, 2, 3] rfl (by decide) (fun _ _ _ q => by obtain ⟨_, -, -, q⟩ := q; exact q) mo_Li_init mi_Li_init rfl kw_158 (by decide) rfl (Nat.le_of_ble_eq_true rfl) ⟨Nat.le_of_ble_eq_true rfl, Nat.le_of_ble_eq_true rfl⟩ d_Re_takeGang_43 (fun v2 X2 q => ?_)
  obtain ⟨v1, rfl, rfl, -⟩ := q
  refine g_ord (X1 := [(q0, .inr (4, [.ref e1, .ref e2, .int fa, .int pl, .int 2, .int ld, .ref e3, .int nd])), (e1, .inr (11, [.ref tp, .int nx, .int kd, .int pk, .long va])), (f, .inr (3, [.int fd, .ref a.1, .int gu, .int on])), (a.1, .inr (0, [.int a.2.1, .ref a.2.2.1, .int (nI ls.length)])), (v, .inr (6, [.int ld, .int (sidC va), .ref v1, .int 0, .int (-1)])), (v1, .inl (g.2.1 0, 12, .inl (fun _ => 0)))]) [0, 1, 2, 3, 4, 5] (by decide) rfl ?_
  refine g_put (X1 := [(q0, .inr (4, [.ref e1, .ref e2, .int fa, .int pl, .int 2, .int ld, .ref v, .int nd])), (e1, .inr (11, [.ref tp, .int nx, .int kd, .int pk, .long va])), (f, .inr (3, [.int fd, .ref a.1, .int gu, .int on])), (a.1, .inr (0, [.int a.2.1, .ref a.2.2.1, .int (nI ls.length)])), (v, .inr (6, [.int ld, .int (sidC va), .ref v1, .int 0, .int (-1)])), (v1, .inl (g.2.1 0, 12, .inl (fun _ => 0)))]) C 0 rfl rfl in_Re 6 (by decide) ok_Re nm_Re kw_217 rfl rfl rfl (Nat.le_of_ble_eq_true rfl) rfl d_Re_takeGang_46 ?_
  refine g_aload_n C 1 rfl d_Re_takeGang_49 ?_
  refine g_getN C 2 rfl rfl in_Fk 1 (by decide) kw_481 rfl d_Re_takeGang_50 ?_
  refine g_aload_n C 0 rfl d_Re_takeGang_53 ?_
  refine g_get C 0 rfl rfl in_Re 6 (by decide) kw_217 rfl d_Re_takeGang_54 ?_
  refine g_callVP (rest := []) C (c_AL_add_uLi l g a ls.length (lad ls) v v1 ld (sidC va) 0 (-1) (lcs g ls ++ P) ha (by simp [lad]) hc (elk_lcs ha)) [3, 4] [0, 1, 2, 5] rfl (by decide) mo_AL_add mv_AL_add kw_563 (by decide) (rcX 3 rfl rfl) rfl (Nat.le_of_ble_eq_true rfl) ⟨Nat.le_of_ble_eq_true rfl, Nat.le_of_ble_eq_true rfl⟩ d_Re_takeGang_57 (fun v2 X2 P2 q => ?_)
  obtain ⟨b2, hok, rfl, rfl, rfl⟩ := q
  refine g_ord (X1 := [(q0, .inr (4, [.ref e1, .ref e2, .int fa, .int pl, .int 2, .int ld, .ref v, .int nd])), (e1, .inr (11, [.ref tp, .int nx, .int kd, .int pk, .long va])), (f, .inr (3, [.int fd, .ref a.1, .int gu, .int on])), (a.1, .inr (0, [.int b2.1, .ref b2.2.1, .int (nI (ls.length + 1))])), (v, .inr (6, [.int ld, .int (sidC va), .ref v1, .int 0, .int (-1)])), (v1, .inl (g.2.1 0, 12, .inl (fun _ => 0)))]) [0, 1, 2, 4, 5, 3] (by decide) rfl ?_
  refine g_pop C rfl d_Re_takeGang_60 ?_
  refine g_aload_n C 0 rfl d_Re_takeGang_61 ?_
  refine g_iconst (v := 3) C rfl d_Re_takeGang_62 ?_
  refine g_callV0 (rest := []) (Xn := [(q0, .inr (4, [.ref e1, .ref e2, .int fa, .int pl, .int 3, .int ld, .ref v, .int nd])), (e1, .inr (11, [.ref tp, .int nx, .int kd, .int pk, .long va])), (f, .inr (3, [.int fd, .ref a.1, .int gu, .int on])), (a.1, .inr (0, [.int b2.1, .ref b2.2.1, .int (nI (ls.length + 1))])), (v, .inr (6, [.int ld, .int (sidC va), .ref v1, .int 0, .int (-1)])), (v1, .inl (g.2.1 0, 12, .inl (fun _ => 0)))]) C (c_Re_expect l g q0 e1 e2 v fa pl 2 ld nd 3) [0] [1, 2, 3, 4, 5] [5, 0, 1, 2, 3, 4] rfl (by decide) (by decide) rfl mo_Re_expect mv_Re_expect kw_549 (by decide) (rcX 0 rfl rfl) rfl (Nat.le_of_ble_eq_true rfl) ⟨Nat.le_of_ble_eq_true rfl, Nat.le_of_ble_eq_true rfl⟩ d_Re_takeGang_63 ?_
  refine g_ord (X1 := [(q0, .inr (4, [.ref e1, .ref e2, .int fa, .int pl, .int 3, .int ld, .ref v, .int nd])), (e1, .inr (11, [.ref tp, .int nx, .int kd, .int pk, .long va])), (f, .inr (3, [.int fd, .ref a.1, .int gu, .int on])), (a.1, .inr (0, [.int b2.1, .ref b2.2.1, .int (nI (ls.length + 1))])), (v, .inr (6, [.int ld, .int (sidC va), .ref v1, .int 0, .int (-1)])), (v1, .inl (g.2.1 0, 12, .inl (fun _ => 0)))]) [0, 1, 2, 3, 4, 5] (by decide) rfl ?_
  refine g_pm (X1 := [(q0, .inr (4, [.ref e1, .ref e2, .int fa, .int pl, .int 3, .int ld, .ref v, .int nd])), (e1, .inr (11, [.ref tp, .int nx, .int kd, .int pk, .long va])), (f, .inr (3, [.int fd, .ref a.1, .int gu, .int on])), (a.1, .inr (0, [.int b2.1, .ref b2.2.1, .int (nI (ls.length + 1))]))]) (P1 := arc g (a.1, b2) (ls.length + 1) ++ (lcs g (ls ++ [(v, v1, ld, sidC va, (fun _ => 0), 0, (-1))]) ++ P)) (by rw [lcs_snoc]; exact perm_last (X := [(q0, .inr (4, [.ref e1, .ref e2, .int fa, .int pl, .int 3, .int ld, .ref v, .int nd])), (e1, .inr (11, [.ref tp, .int nx, .int kd, .int pk, .long va])), (f, .inr (3, [.int fd, .ref a.1, .int gu, .int on])), (a.1, .inr (0, [.int b2.1, .ref b2.2.1, .int (nI (ls.length + 1))]))])) ?_
  exact g_iret C rfl ⟨b2, v, v1, hok, rfl, rfl, rfl⟩ (by decide) (by decide) d_Re_takeGang_66

set_option maxHeartbeats 4000000 in
set_option maxRecDepth 100000 in
theorem c_Re_fot_A (l : Launch) (g : Gx) (q0 e1 e2 e3 tp f f1 ea c : Nat) (fa pl ex ld nd fd gu on mc nx kd pk : Int32) (va : Int64) (hA : ¬ ex = 4 ∧ ¬ ex = 5 ∧ ¬ ex = 6 ∧ (ex = 2 → ¬ (kd = 2 ∧ ¬ sidC va = (-1)))) (hc : c ≤ 1000) : M0 l g y_Re_faultOfToken b_Re_faultOfToken 2 (some FieldType.int) ({ frames := 8, cells := 0, slots := 0, locals := 193 }) [.ref q0, .ref f] [(q0, .inr (4, [.ref e1, .ref e2, .int fa, .int pl, .int ex, .int ld, .ref e3, .int nd])), (e1, .inr (11, [.ref tp, .int nx, .int kd, .int pk, .long va])), (f, .inr (3, [.int fd, .ref f1, .int gu, .int on])), (f1, .inr (0, [.int mc, .ref ea, .int (nI c)]))] (some (.int (ftA kd va c ex ld).1)) [(q0, .inr (4, [.ref e1, .ref e2, .int fa, .int pl, .int (ftA kd va c ex ld).2.1, .int (ftA kd va c ex ld).2.2, .ref e3, .int nd])), (e1, .inr (11, [.ref tp, .int nx, .int kd, .int pk, .long va])), (f, .inr (3, [.int fd, .ref f1, .int gu, .int on])), (f1, .inr (0, [.int mc, .ref ea, .int (nI c)]))] := by
  refine MP.of (by decide) (Nat.le_of_ble_eq_true rfl) (fun κ C => ?_)
  have C : zC κ l g ({ frames := 8, cells := 0, slots := 0, locals := 193 }) b_Re_faultOfToken 2 "TombLane$FlakeReader" "faultOfToken" (some FieldType.int) _ := C
  refine g_lv (lv1 := [(0, .ref q0), (1, .ref f)]) [0, 1] rfl ?_
  refine g_aload_n C 0 rfl d_Re_faultOfToken_0 ?_
  refine g_get C 0 rfl rfl in_Re 0 (by decide) kw_209 rfl d_Re_faultOfToken_1 ?_
  refine g_getN C 1 rfl rfl in_To 2 (by decide) kw_193 rfl d_Re_faultOfToken_4 ?_
  refine g_iconst (v := 1) C rfl d_Re_faultOfToken_7 ?_
  refine g_icmp_ne C d_Re_faultOfToken_8 (fun c_1 => ?_) (fun c_1 => ?_)
  · skip
    refine g_aload_n C 0 rfl d_Re_faultOfToken_13 ?_
    refine g_get C 0 rfl rfl in_Re 0 (by decide) kw_209 rfl d_Re_faultOfToken_14 ?_
    refine g_getN C 1 rfl rfl in_To 2 (by decide) kw_193 rfl d_Re_faultOfToken_17 ?_
    refine g_if_ne C d_Re_faultOfToken_20 (fun c_2 => ?_) (fun c_2 => ?_)
    · skip
      refine g_aload_n C 0 rfl d_Re_faultOfToken_25 ?_
      refine g_get C 0 rfl rfl in_Re 4 (by decide) kw_215 rfl d_Re_faultOfToken_26 ?_
      by_cases t_3 : ex = 0
      · refine g_tabIn (tgt := 72) C 0 t_3 d_Re_faultOfToken_29 (by decide) (by decide) rfl (by decide) ?_
        refine g_aload_n C 0 rfl d_Re_faultOfToken_72 ?_
        refine g_aload_n C 1 rfl d_Re_faultOfToken_73 ?_
        refine g_callV0 (rest := []) (Xn := [(q0, .inr (4, [.ref e1, .ref e2, .int fa, .int pl, .int (if (kd = 2 ∧ va = 6578553) ∧ c < 20 then 1 else ex), .int ld, .ref e3, .int nd])), (e1, .inr (11, [.ref tp, .int nx, .int kd, .int pk, .long va])), (f, .inr (3, [.int fd, .ref f1, .int gu, .int on])), (f1, .inr (0, [.int mc, .ref ea, .int (nI c)]))]) C (c_Re_takeLine l g q0 e1 e2 e3 tp f f1 ea c fa pl ex ld nd fd gu on mc nx kd pk va (by first | assumption | omega | exact nI_pos (by omega))) [0, 1, 2, 3] [] [0, 1, 2, 3] rfl (by decide) (by decide) rfl mo_Re_takeLine mv_Re_takeLine kw_539 (by decide) (rcX 0 rfl rfl) rfl (Nat.le_of_ble_eq_true rfl) ⟨Nat.le_of_ble_eq_true rfl, Nat.le_of_ble_eq_true rfl⟩ d_Re_faultOfToken_74 ?_
        exact g_iret C rfl ⟨congrArg (fun z => some (Value.int z)) (by first | (simp [ftA, l58, l59, c_1, c_2, eq_true t_3]; done) | (clear C; simp_all [ftA, l58, l59]; done) | (clear C; simp_all [ftA, l58, l59]; grind)), (by first | (simp [ftA, l58, l59, c_1, c_2, eq_true t_3]; done) | (clear C; simp_all [ftA, l58, l59]; done) | (clear C; simp_all [ftA, l58, l59]; grind)), rfl⟩ (by decide) (by decide) d_Re_faultOfToken_77
      by_cases t_4 : ex = 1
      · refine g_tabIn (tgt := 78) C 1 t_4 d_Re_faultOfToken_29 (by decide) (by decide) rfl (by decide) ?_
        refine g_aload_n C 0 rfl d_Re_faultOfToken_78 ?_
        refine g_callV0 (rest := []) (Xn := [(q0, .inr (4, [.ref e1, .ref e2, .int fa, .int pl, .int (if kd = 3 ∧ va < 3600 then 2 else ex), .int (if kd = 3 ∧ va < 3600 then Int64.toInt32 va else ld), .ref e3, .int nd])), (e1, .inr (11, [.ref tp, .int nx, .int kd, .int pk, .long va])), (f, .inr (3, [.int fd, .ref f1, .int gu, .int on])), (f1, .inr (0, [.int mc, .ref ea, .int (nI c)]))]) C (c_Re_takeDayNumber l g q0 e1 e2 e3 tp fa pl ex ld nd nx kd pk va) [0, 1] [2, 3] [2, 3, 0, 1] rfl (by decide) (by decide) rfl mo_Re_takeDayNumber mv_Re_takeDayNumber kw_553 (by decide) (rcX 0 rfl rfl) rfl (Nat.le_of_ble_eq_true rfl) ⟨Nat.le_of_ble_eq_true rfl, Nat.le_of_ble_eq_true rfl⟩ d_Re_faultOfToken_79 ?_
        exact g_iret C rfl ⟨congrArg (fun z => some (Value.int z)) (by first | (simp [ftA, l58, l59, c_1, c_2, t_3, eq_true t_4]; done) | (clear C; simp_all [ftA, l58, l59]; done) | (clear C; simp_all [ftA, l58, l59]; grind)), (by first | (simp [ftA, l58, l59, c_1, c_2, t_3, eq_true t_4]; done) | (clear C; simp_all [ftA, l58, l59]; done) | (clear C; simp_all [ftA, l58, l59]; grind)), rfl⟩ (by decide) (by decide) d_Re_faultOfToken_82
      by_cases t_5 : ex = 2
      · refine g_tabIn (tgt := 83) C 2 t_5 d_Re_faultOfToken_29 (by decide) (by decide) rfl (by decide) ?_
        refine g_aload_n C 0 rfl d_Re_faultOfToken_83 ?_
        refine g_aload_n C 1 rfl d_Re_faultOfToken_84 ?_
        refine g_callV0 (rest := []) (Xn := [(q0, .inr (4, [.ref e1, .ref e2, .int fa, .int pl, .int ex, .int ld, .ref e3, .int nd])), (e1, .inr (11, [.ref tp, .int nx, .int kd, .int pk, .long va])), (f, .inr (3, [.int fd, .ref f1, .int gu, .int on])), (f1, .inr (0, [.int mc, .ref ea, .int (nI c)]))]) C (c_Re_takeGang_no l g q0 e1 e2 e3 tp f f1 ea c fa pl ex ld nd fd gu on mc nx kd pk va (hA.2.2.2 t_5)) [0, 1, 2, 3] [] [0, 1, 2, 3] rfl (by decide) (by decide) rfl mo_Re_takeGang mv_Re_takeGang kw_558 (by decide) (rcX 0 rfl rfl) rfl (Nat.le_of_ble_eq_true rfl) ⟨Nat.le_of_ble_eq_true rfl, Nat.le_of_ble_eq_true rfl⟩ d_Re_faultOfToken_85 ?_
        exact g_iret C rfl ⟨congrArg (fun z => some (Value.int z)) (by first | (simp [ftA, l58, l59, c_1, c_2, t_3, t_4, eq_true t_5]; done) | (clear C; simp_all [ftA, l58, l59]; done) | (clear C; simp_all [ftA, l58, l59]; grind)), (by first | (simp [ftA, l58, l59, c_1, c_2, t_3, t_4, eq_true t_5]; done) | (clear C; simp_all [ftA, l58, l59]; done) | (clear C; simp_all [ftA, l58, l59]; grind)), rfl⟩ (by decide) (by decide) d_Re_faultOfToken_88
      by_cases t_6 : ex = 3
      · refine g_tabIn (tgt := 89) C 3 t_6 d_Re_faultOfToken_29 (by decide) (by decide) rfl (by decide) ?_
        refine g_aload_n C 0 rfl d_Re_faultOfToken_89 ?_
        refine g_bipush (v := 58) C rfl d_Re_faultOfToken_90 ?_
        refine g_iconst (v := 4) C rfl d_Re_faultOfToken_92 ?_
        refine g_callV0 (rest := []) (Xn := [(q0, .inr (4, [.ref e1, .ref e2, .int fa, .int pl, .int (if kd = 4 ∧ va = Int32.toInt64 58 then 4 else ex), .int ld, .ref e3, .int nd])), (e1, .inr (11, [.ref tp, .int nx, .int kd, .int pk, .long va])), (f, .inr (3, [.int fd, .ref f1, .int gu, .int on])), (f1, .inr (0, [.int mc, .ref ea, .int (nI c)]))]) C (c_Re_takeSign l g q0 e1 e2 e3 tp fa pl ex ld nd nx kd pk va 58 4) [0, 1] [2, 3] [2, 3, 0, 1] rfl (by decide) (by decide) rfl mo_Re_takeSign mv_Re_takeSign kw_624 (by decide) (rcX 0 rfl rfl) rfl (Nat.le_of_ble_eq_true rfl) ⟨Nat.le_of_ble_eq_true rfl, Nat.le_of_ble_eq_true rfl⟩ d_Re_faultOfToken_93 ?_
        exact g_iret C rfl ⟨congrArg (fun z => some (Value.int z)) (by first | (simp [ftA, l58, l59, c_1, c_2, t_3, t_4, t_5, eq_true t_6]; done) | (clear C; simp_all [ftA, l58, l59]; done) | (clear C; simp_all [ftA, l58, l59]; grind)), (by first | (simp [ftA, l58, l59, c_1, c_2, t_3, t_4, t_5, eq_true t_6]; done) | (clear C; simp_all [ftA, l58, l59]; done) | (clear C; simp_all [ftA, l58, l59]; grind)), rfl⟩ (by decide) (by decide) d_Re_faultOfToken_96
      by_cases t_7 : ex = 4
      · refine g_tabIn (tgt := 97) C 4 t_7 d_Re_faultOfToken_29 (by decide) (by decide) rfl (by decide) ?_
        exfalso; clear C; simp_all
      by_cases t_8 : ex = 5
      · refine g_tabIn (tgt := 102) C 5 t_8 d_Re_faultOfToken_29 (by decide) (by decide) rfl (by decide) ?_
        exfalso; clear C; simp_all
      by_cases t_9 : ex = 6
      · refine g_tabIn (tgt := 107) C 6 t_9 d_Re_faultOfToken_29 (by decide) (by decide) rfl (by decide) ?_
        exfalso; clear C; simp_all
      refine g_tabOut (tgt := 112) C 6 (by decide) rfl (fun c hc => by rcases (show c = 0 ∨ c = 1 ∨ c = 2 ∨ c = 3 ∨ c = 4 ∨ c = 5 ∨ c = 6 by omega) with rfl | rfl | rfl | rfl | rfl | rfl | rfl <;> assumption) d_Re_faultOfToken_29 (by decide) ?_
      refine g_aload_n C 0 rfl d_Re_faultOfToken_112 ?_
      refine g_bipush (v := 59) C rfl d_Re_faultOfToken_113 ?_
      refine g_iconst (v := 0) C rfl d_Re_faultOfToken_115 ?_
      refine g_callV0 (rest := []) (Xn := [(q0, .inr (4, [.ref e1, .ref e2, .int fa, .int pl, .int (if kd = 4 ∧ va = Int32.toInt64 59 then 0 else ex), .int ld, .ref e3, .int nd])), (e1, .inr (11, [.ref tp, .int nx, .int kd, .int pk, .long va])), (f, .inr (3, [.int fd, .ref f1, .int gu, .int on])), (f1, .inr (0, [.int mc, .ref ea, .int (nI c)]))]) C (c_Re_takeSign l g q0 e1 e2 e3 tp fa pl ex ld nd nx kd pk va 59 0) [0, 1] [2, 3] [2, 3, 0, 1] rfl (by decide) (by decide) rfl mo_Re_takeSign mv_Re_takeSign kw_624 (by decide) (rcX 0 rfl rfl) rfl (Nat.le_of_ble_eq_true rfl) ⟨Nat.le_of_ble_eq_true rfl, Nat.le_of_ble_eq_true rfl⟩ d_Re_faultOfToken_116 ?_
      exact g_iret C rfl ⟨congrArg (fun z => some (Value.int z)) (by first | (simp [ftA, l58, l59, c_1, c_2, t_3, t_4, t_5, t_6, t_7, t_8, t_9]; done) | (clear C; simp_all [ftA, l58, l59]; done) | (clear C; simp_all [ftA, l58, l59]; grind)), (by first | (simp [ftA, l58, l59, c_1, c_2, t_3, t_4, t_5, t_6, t_7, t_8, t_9]; done) | (clear C; simp_all [ftA, l58, l59]; done) | (clear C; simp_all [ftA, l58, l59]; grind)), rfl⟩ (by decide) (by decide) d_Re_faultOfToken_119
    · skip
      refine g_iconst (v := 2) C rfl d_Re_faultOfToken_23 ?_
      exact g_iret C rfl ⟨congrArg (fun z => some (Value.int z)) (by first | (simp [ftA, l58, l59, c_1, eq_true c_2]; done) | (clear C; simp_all [ftA, l58, l59]; done) | (clear C; simp_all [ftA, l58, l59]; grind)), (by first | (simp [ftA, l58, l59, c_1, eq_true c_2]; done) | (clear C; simp_all [ftA, l58, l59]; done) | (clear C; simp_all [ftA, l58, l59]; grind)), rfl⟩ (by decide) (by decide) d_Re_faultOfToken_24
  · skip
    refine g_iconst (v := 1) C rfl d_Re_faultOfToken_11 ?_
    exact g_iret C rfl ⟨congrArg (fun z => some (Value.int z)) (by first | (simp [ftA, l58, l59, eq_true c_1]; done) | (clear C; simp_all [ftA, l58, l59]; done) | (clear C; simp_all [ftA, l58, l59]; grind)), (by first | (simp [ftA, l58, l59, eq_true c_1]; done) | (clear C; simp_all [ftA, l58, l59]; done) | (clear C; simp_all [ftA, l58, l59]; grind)), rfl⟩ (by decide) (by decide) d_Re_faultOfToken_12

set_option maxHeartbeats 4000000 in
set_option maxRecDepth 100000 in
theorem c_Re_fot_L (l : Launch) (g : Gx) (q0 e1 e2 e3 tp v1 : Nat) (fa pl ex ld nd d1 s1 gp lw nx kd pk : Int32) (va : Int64) (ef : Nat → Int32) (m1 m2 m3 n : Nat) (nf : Nat → Int64) (sf : Nat → Int32) (f : Nat) (hL : ex = 4 ∨ ex = 5 ∨ ex = 6) (hn : n ≤ 12) (hp : ex = 5 → vp_in nd 12) : M0 l g y_Re_faultOfToken b_Re_faultOfToken 2 (some FieldType.int) ({ frames := 8, cells := 0, slots := 0, locals := 193 }) [.ref q0, .ref f] [(q0, .inr (4, [.ref e1, .ref e2, .int fa, .int pl, .int ex, .int ld, .ref e3, .int nd])), (e1, .inr (11, [.ref tp, .int nx, .int kd, .int pk, .long va])), (e2, .inr (7, [.ref m1, .ref m2, .ref m3, .int (nI n)])), (m1, .inl (g.2.1 1, 12, .inr (.inl nf))), (m2, .inl (g.2.1 0, 12, .inl sf)), (e3, .inr (6, [.int d1, .int s1, .ref v1, .int gp, .int lw])), (v1, .inl (g.2.1 0, 12, .inl ef))] (some (.int (ftL nf sf n kd va s1 ef ex nd gp lw).1)) [(q0, .inr (4, [.ref e1, .ref e2, .int fa, .int pl, .int (ftL nf sf n kd va s1 ef ex nd gp lw).2.1, .int ld, .ref e3, .int (ftL nf sf n kd va s1 ef ex nd gp lw).2.2.1])), (e1, .inr (11, [.ref tp, .int nx, .int kd, .int pk, .long va])), (e2, .inr (7, [.ref m1, .ref m2, .ref m3, .int (nI n)])), (m1, .inl (g.2.1 1, 12, .inr (.inl nf))), (m2, .inl (g.2.1 0, 12, .inl sf)), (e3, .inr (6, [.int d1, .int s1, .ref v1, .int (ftL nf sf n kd va s1 ef ex nd gp lw).2.2.2.2.1, .int (ftL nf sf n kd va s1 ef ex nd gp lw).2.2.2.2.2])), (v1, .inl (g.2.1 0, 12, .inl (ftL nf sf n kd va s1 ef ex nd gp lw).2.2.2.1))] := by
  refine MP.of (by decide) (Nat.le_of_ble_eq_true rfl) (fun κ C => ?_)
  have C : zC κ l g ({ frames := 8, cells := 0, slots := 0, locals := 193 }) b_Re_faultOfToken 2 "TombLane$FlakeReader" "faultOfToken" (some FieldType.int) _ := C
  refine g_lv (lv1 := [(0, .ref q0), (1, .ref f)]) [0, 1] rfl ?_
  refine g_aload_n C 0 rfl d_Re_faultOfToken_0 ?_
  refine g_get C 0 rfl rfl in_Re 0 (by decide) kw_209 rfl d_Re_faultOfToken_1 ?_
  refine g_getN C 1 rfl rfl in_To 2 (by decide) kw_193 rfl d_Re_faultOfToken_4 ?_
  refine g_iconst (v := 1) C rfl d_Re_faultOfToken_7 ?_
  refine g_icmp_ne C d_Re_faultOfToken_8 (fun c_1 => ?_) (fun c_1 => ?_)
  · skip
    refine g_aload_n C 0 rfl d_Re_faultOfToken_13 ?_
    refine g_get C 0 rfl rfl in_Re 0 (by decide) kw_209 rfl d_Re_faultOfToken_14 ?_
    refine g_getN C 1 rfl rfl in_To 2 (by decide) kw_193 rfl d_Re_faultOfToken_17 ?_
    refine g_if_ne C d_Re_faultOfToken_20 (fun c_2 => ?_) (fun c_2 => ?_)
    · skip
      refine g_aload_n C 0 rfl d_Re_faultOfToken_25 ?_
      refine g_get C 0 rfl rfl in_Re 4 (by decide) kw_215 rfl d_Re_faultOfToken_26 ?_
      by_cases t_3 : ex = 0
      · refine g_tabIn (tgt := 72) C 0 t_3 d_Re_faultOfToken_29 (by decide) (by decide) rfl (by decide) ?_
        exfalso; clear C; rcases hL with h | h | h <;> simp_all
      by_cases t_4 : ex = 1
      · refine g_tabIn (tgt := 78) C 1 t_4 d_Re_faultOfToken_29 (by decide) (by decide) rfl (by decide) ?_
        exfalso; clear C; rcases hL with h | h | h <;> simp_all
      by_cases t_5 : ex = 2
      · refine g_tabIn (tgt := 83) C 2 t_5 d_Re_faultOfToken_29 (by decide) (by decide) rfl (by decide) ?_
        exfalso; clear C; rcases hL with h | h | h <;> simp_all
      by_cases t_6 : ex = 3
      · refine g_tabIn (tgt := 89) C 3 t_6 d_Re_faultOfToken_29 (by decide) (by decide) rfl (by decide) ?_
        exfalso; clear C; rcases hL with h | h | h <;> simp_all
      by_cases t_7 : ex = 4
      · refine g_tabIn (tgt := 97) C 4 t_7 d_Re_faultOfToken_29 (by decide) (by decide) rfl (by decide) ?_
        refine g_aload_n C 0 rfl d_Re_faultOfToken_97 ?_
        refine g_callV0 (rest := []) (Xn := [(q0, .inr (4, [.ref e1, .ref e2, .int fa, .int pl, .int (teC nf sf n kd va s1 ef ex nd gp).2.1, .int ld, .ref e3, .int (teC nf sf n kd va s1 ef ex nd gp).2.2.1])), (e1, .inr (11, [.ref tp, .int nx, .int kd, .int pk, .long va])), (e2, .inr (7, [.ref m1, .ref m2, .ref m3, .int (nI n)])), (m1, .inl (g.2.1 1, 12, .inr (.inl nf))), (m2, .inl (g.2.1 0, 12, .inl sf)), (e3, .inr (6, [.int d1, .int s1, .ref v1, .int (teC nf sf n kd va s1 ef ex nd gp).2.2.2, .int lw])), (v1, .inl (g.2.1 0, 12, .inl ef))]) C (c_Re_takeEntry l g q0 e1 e2 e3 tp v1 fa pl ex ld nd d1 s1 gp lw nx kd pk va ef m1 m2 m3 n nf sf (by first | assumption | omega | exact nI_pos (by omega))) [0, 1, 2, 3, 4, 5, 6] [] [0, 1, 2, 3, 4, 5, 6] rfl (by decide) (by decide) rfl mo_Re_takeEntry mv_Re_takeEntry kw_632 (by decide) (rcX 0 rfl rfl) rfl (Nat.le_of_ble_eq_true rfl) ⟨Nat.le_of_ble_eq_true rfl, Nat.le_of_ble_eq_true rfl⟩ d_Re_faultOfToken_98 ?_
        exact g_iret C rfl ⟨congrArg (fun z => some (Value.int z)) (by first | (simp [ftL, c_1, c_2, t_3, t_4, t_5, t_6, eq_true t_7]; done) | (clear C; simp_all [ftL]; done)), (by first | (simp [ftL, c_1, c_2, t_3, t_4, t_5, t_6, eq_true t_7]; done) | (clear C; simp_all [ftL]; done)), rfl⟩ (by decide) (by decide) d_Re_faultOfToken_101
      by_cases t_8 : ex = 5
      · refine g_tabIn (tgt := 102) C 5 t_8 d_Re_faultOfToken_29 (by decide) (by decide) rfl (by decide) ?_
        refine g_aload_n C 0 rfl d_Re_faultOfToken_102 ?_
        refine g_callV0 (rest := []) (Xn := [(q0, .inr (4, [.ref e1, .ref e2, .int fa, .int pl, .int (ttC kd va ef ex nd).2.1, .int ld, .ref e3, .int nd])), (e1, .inr (11, [.ref tp, .int nx, .int kd, .int pk, .long va])), (e2, .inr (7, [.ref m1, .ref m2, .ref m3, .int (nI n)])), (m1, .inl (g.2.1 1, 12, .inr (.inl nf))), (m2, .inl (g.2.1 0, 12, .inl sf)), (e3, .inr (6, [.int d1, .int s1, .ref v1, .int gp, .int lw])), (v1, .inl (g.2.1 0, 12, .inl (ttC kd va ef ex nd).2.2))]) C (c_Re_takeToldOfName l g q0 e1 e2 e3 tp v1 fa pl ex ld nd d1 s1 gp lw nx kd pk va ef (hp t_8)) [0, 1, 5, 6] [2, 3, 4] [3, 4, 0, 1, 2, 5, 6] rfl (by decide) (by decide) rfl mo_Re_takeToldOfName mv_Re_takeToldOfName kw_650 (by decide) (rcX 0 rfl rfl) rfl (Nat.le_of_ble_eq_true rfl) ⟨Nat.le_of_ble_eq_true rfl, Nat.le_of_ble_eq_true rfl⟩ d_Re_faultOfToken_103 ?_
        exact g_iret C rfl ⟨congrArg (fun z => some (Value.int z)) (by first | (simp [ftL, c_1, c_2, t_3, t_4, t_5, t_6, t_7, eq_true t_8]; done) | (clear C; simp_all [ftL]; done)), (by first | (simp [ftL, c_1, c_2, t_3, t_4, t_5, t_6, t_7, eq_true t_8]; done) | (clear C; simp_all [ftL]; done)), rfl⟩ (by decide) (by decide) d_Re_faultOfToken_106
      by_cases t_9 : ex = 6
      · refine g_tabIn (tgt := 107) C 6 t_9 d_Re_faultOfToken_29 (by decide) (by decide) rfl (by decide) ?_
        refine g_aload_n C 0 rfl d_Re_faultOfToken_107 ?_
        refine g_callV0 (rest := []) (Xn := [(q0, .inr (4, [.ref e1, .ref e2, .int fa, .int pl, .int (twC kd va ex lw).2.1, .int ld, .ref e3, .int nd])), (e1, .inr (11, [.ref tp, .int nx, .int kd, .int pk, .long va])), (e2, .inr (7, [.ref m1, .ref m2, .ref m3, .int (nI n)])), (m1, .inl (g.2.1 1, 12, .inr (.inl nf))), (m2, .inl (g.2.1 0, 12, .inl sf)), (e3, .inr (6, [.int d1, .int s1, .ref v1, .int gp, .int (twC kd va ex lw).2.2])), (v1, .inl (g.2.1 0, 12, .inl ef))]) C (c_Re_takeWicksNumber l g q0 e1 e2 e3 tp v1 fa pl ex ld nd d1 s1 gp lw nx kd pk va ef) [0, 1, 5, 6] [2, 3, 4] [3, 4, 0, 1, 2, 5, 6] rfl (by decide) (by decide) rfl mo_Re_takeWicksNumber mv_Re_takeWicksNumber kw_655 (by decide) (rcX 0 rfl rfl) rfl (Nat.le_of_ble_eq_true rfl) ⟨Nat.le_of_ble_eq_true rfl, Nat.le_of_ble_eq_true rfl⟩ d_Re_faultOfToken_108 ?_
        exact g_iret C rfl ⟨congrArg (fun z => some (Value.int z)) (by first | (simp [ftL, c_1, c_2, t_3, t_4, t_5, t_6, t_7, t_8, eq_true t_9]; done) | (clear C; simp_all [ftL]; done)), (by first | (simp [ftL, c_1, c_2, t_3, t_4, t_5, t_6, t_7, t_8, eq_true t_9]; done) | (clear C; simp_all [ftL]; done)), rfl⟩ (by decide) (by decide) d_Re_faultOfToken_111
      refine g_tabOut (tgt := 112) C 6 (by decide) rfl (fun c hc => by rcases (show c = 0 ∨ c = 1 ∨ c = 2 ∨ c = 3 ∨ c = 4 ∨ c = 5 ∨ c = 6 by omega) with rfl | rfl | rfl | rfl | rfl | rfl | rfl <;> assumption) d_Re_faultOfToken_29 (by decide) ?_
      refine g_aload_n C 0 rfl d_Re_faultOfToken_112 ?_
      refine g_bipush (v := 59) C rfl d_Re_faultOfToken_113 ?_
      refine g_iconst (v := 0) C rfl d_Re_faultOfToken_115 ?_
      refine g_callV0 (rest := []) (Xn := [(q0, .inr (4, [.ref e1, .ref e2, .int fa, .int pl, .int (if kd = 4 ∧ va = Int32.toInt64 59 then 0 else ex), .int ld, .ref e3, .int nd])), (e1, .inr (11, [.ref tp, .int nx, .int kd, .int pk, .long va])), (e2, .inr (7, [.ref m1, .ref m2, .ref m3, .int (nI n)])), (m1, .inl (g.2.1 1, 12, .inr (.inl nf))), (m2, .inl (g.2.1 0, 12, .inl sf)), (e3, .inr (6, [.int d1, .int s1, .ref v1, .int gp, .int lw])), (v1, .inl (g.2.1 0, 12, .inl ef))]) C (c_Re_takeSign l g q0 e1 e2 e3 tp fa pl ex ld nd nx kd pk va 59 0) [0, 1] [2, 3, 4, 5, 6] [5, 6, 0, 1, 2, 3, 4] rfl (by decide) (by decide) rfl mo_Re_takeSign mv_Re_takeSign kw_624 (by decide) (rcX 0 rfl rfl) rfl (Nat.le_of_ble_eq_true rfl) ⟨Nat.le_of_ble_eq_true rfl, Nat.le_of_ble_eq_true rfl⟩ d_Re_faultOfToken_116 ?_
      exact g_iret C rfl ⟨congrArg (fun z => some (Value.int z)) (by first | (simp [ftL, c_1, c_2, t_3, t_4, t_5, t_6, t_7, t_8, t_9]; done) | (clear C; simp_all [ftL]; done)), (by first | (simp [ftL, c_1, c_2, t_3, t_4, t_5, t_6, t_7, t_8, t_9]; done) | (clear C; simp_all [ftL]; done)), rfl⟩ (by decide) (by decide) d_Re_faultOfToken_119
    · skip
      refine g_iconst (v := 2) C rfl d_Re_faultOfToken_23 ?_
      exact g_iret C rfl ⟨congrArg (fun z => some (Value.int z)) (by first | (simp [ftL, c_1, eq_true c_2]; done) | (clear C; simp_all [ftL]; done)), (by first | (simp [ftL, c_1, eq_true c_2]; done) | (clear C; simp_all [ftL]; done)), rfl⟩ (by decide) (by decide) d_Re_faultOfToken_24
  · skip
    refine g_iconst (v := 1) C rfl d_Re_faultOfToken_11 ?_
    exact g_iret C rfl ⟨congrArg (fun z => some (Value.int z)) (by first | (simp [ftL, eq_true c_1]; done) | (clear C; simp_all [ftL]; done)), (by first | (simp [ftL, eq_true c_1]; done) | (clear C; simp_all [ftL]; done)), rfl⟩ (by decide) (by decide) d_Re_faultOfToken_12

set_option maxHeartbeats 4000000 in
set_option maxRecDepth 100000 in
theorem c_Re_fot_G (l : Launch) (g : Gx) (q0 e1 e2 e3 tp f : Nat) (fa pl ld nd fd gu on nx kd pk : Int32) (va : Int64) (a : AR) (ls : List LR) (P : va_W) (hG : kd = 2 ∧ ¬ sidC va = (-1)) (ha : okA g a (lad ls)) (hc : ls.length ≤ 40) : MP l g y_Re_faultOfToken b_Re_faultOfToken 2 (some FieldType.int) ({ frames := 8, cells := 3, slots := 77, locals := 193 }) [.ref q0, .ref f] [(q0, .inr (4, [.ref e1, .ref e2, .int fa, .int pl, .int 2, .int ld, .ref e3, .int nd])), (e1, .inr (11, [.ref tp, .int nx, .int kd, .int pk, .long va])), (f, .inr (3, [.int fd, .ref a.1, .int gu, .int on])), (a.1, .inr (0, [.int a.2.1, .ref a.2.2.1, .int (nI ls.length)]))] (arc g a ls.length ++ (lcs g ls ++ P)) (fun v2 X2 P2 => ∃ (b2 : Int32 × Nat × Nat × (Nat → Option Nat)) (v : Nat) (v1 : Nat), (okA g (a.1, b2) (lad ls ++ [v])) ∧ v2 = some (.int 0) ∧ X2 = [(q0, .inr (4, [.ref e1, .ref e2, .int fa, .int pl, .int 3, .int ld, .ref v, .int nd])), (e1, .inr (11, [.ref tp, .int nx, .int kd, .int pk, .long va])), (f, .inr (3, [.int fd, .ref a.1, .int gu, .int on])), (a.1, .inr (0, [.int b2.1, .ref b2.2.1, .int (nI (ls.length + 1))]))] ∧ P2 = arc g (a.1, b2) (ls.length + 1) ++ (lcs g (ls ++ [(v, v1, ld, sidC va, (fun _ => 0), 0, (-1))]) ++ P)) := by
  refine MP.of (by decide) (Nat.le_of_ble_eq_true rfl) (fun κ C => ?_)
  have C : zC κ l g ({ frames := 8, cells := 3, slots := 77, locals := 193 }) b_Re_faultOfToken 2 "TombLane$FlakeReader" "faultOfToken" (some FieldType.int) _ := C
  refine g_lv (lv1 := [(0, .ref q0), (1, .ref f)]) [0, 1] rfl ?_
  refine g_aload_n C 0 rfl d_Re_faultOfToken_0 ?_
  refine g_get C 0 rfl rfl in_Re 0 (by decide) kw_209 rfl d_Re_faultOfToken_1 ?_
  refine g_getN C 1 rfl rfl in_To 2 (by decide) kw_193 rfl d_Re_faultOfToken_4 ?_
  refine g_iconst (v := 1) C rfl d_Re_faultOfToken_7 ?_
  refine g_icmp_ne C d_Re_faultOfToken_8 (fun _ => ?_) (fun c_1 => absurd c_1 (fun z => absurd (hG.1.symm.trans z) (by decide)))
  refine g_aload_n C 0 rfl d_Re_faultOfToken_13 ?_
  refine g_get C 0 rfl rfl in_Re 0 (by decide) kw_209 rfl d_Re_faultOfToken_14 ?_
  refine g_getN C 1 rfl rfl in_To 2 (by decide) kw_193 rfl d_Re_faultOfToken_17 ?_
  refine g_if_ne C d_Re_faultOfToken_20 (fun _ => ?_) (fun c_2 => absurd c_2 (fun z => absurd (hG.1.symm.trans z) (by decide)))
  refine g_aload_n C 0 rfl d_Re_faultOfToken_25 ?_
  refine g_get C 0 rfl rfl in_Re 4 (by decide) kw_215 rfl d_Re_faultOfToken_26 ?_
  refine g_tabIn (tgt := 83) C 2 rfl d_Re_faultOfToken_29 (by decide) (by decide) rfl (by decide) ?_
  refine g_aload_n C 0 rfl d_Re_faultOfToken_83 ?_
  refine g_aload_n C 1 rfl d_Re_faultOfToken_84 ?_
  refine g_callVP (rest := []) C (c_Re_takeGang_ok l g q0 e1 e2 e3 tp f fa pl ld nd fd gu on nx kd pk va a ls P hG ha hc) [0, 1, 2, 3] [] rfl (by decide) mo_Re_takeGang mv_Re_takeGang kw_558 (by decide) (rcX 0 rfl rfl) rfl (Nat.le_of_ble_eq_true rfl) ⟨Nat.le_of_ble_eq_true rfl, Nat.le_of_ble_eq_true rfl⟩ d_Re_faultOfToken_85 (fun v2 X2 P2 q => ?_)
  obtain ⟨b2, v, v1, hok, rfl, rfl, rfl⟩ := q
  refine g_ord (X1 := [(q0, .inr (4, [.ref e1, .ref e2, .int fa, .int pl, .int 3, .int ld, .ref v, .int nd])), (e1, .inr (11, [.ref tp, .int nx, .int kd, .int pk, .long va])), (f, .inr (3, [.int fd, .ref a.1, .int gu, .int on])), (a.1, .inr (0, [.int b2.1, .ref b2.2.1, .int (nI (ls.length + 1))]))]) [0, 1, 2, 3] (by decide) rfl ?_
  exact g_iret C rfl ⟨b2, v, v1, hok, rfl, rfl, rfl⟩ (by first | decide | (dsimp only; omega)) (by first | decide | (dsimp only; omega)) d_Re_faultOfToken_88

