/-- a set of men without one -/
def clr (s i : Nat) : Nat := s &&& (4095 ^^^ 2 ^ i)
theorem clr_le (s i : Nat) : clr s i ≤ s := Nat.and_le_left
theorem clr_tab : ∀ s : Fin 2048, ∀ i : Fin 11, nI s.val &&& ((1 <<< (nI i.val &&& 31)) ^^^ (-1)) = nI (clr s.val i.val) := by decide +kernel
theorem clr_nI {s i : Nat} (hs : s < 2048) (hi : i < 11) : nI s &&& ((1 <<< (nI i &&& 31)) ^^^ (-1)) = nI (clr s i) := clr_tab ⟨s, hs⟩ ⟨i, hi⟩
theorem shl_tab : ∀ i : Fin 13, (1 : Int32) <<< (nI i.val &&& 31) = nI (2 ^ i.val) := by decide +kernel
theorem shl_nI {i : Nat} (hi : i < 13) : (1 : Int32) <<< (nI i &&& 31) = nI (2 ^ i) := shl_tab ⟨i, hi⟩
def msw (sm ms : Nat → Int32) (s : Nat) : Nat → Nat → Int32 → Int32 → Int32
  | 0, _, sum, most => if sum = 0 then most + 1 else most
  | k + 1, i, sum, most => if clr s i = s then msw sm ms s k (i + 1) sum most else msw sm ms s k (i + 1) (sum + sm i) (if most < ms (clr s i) then ms (clr s i) else most)
def msa (sm : Nat → Int32) (m : Nat) : Nat → Nat → (Nat → Int32) → (Nat → Int32)
  | 0, _, f => f
  | k + 1, s, f => msa sm m k (s + 1) (upd f s (msw sm f s m 0 0 0))
set_option maxHeartbeats 4000000 in
set_option maxRecDepth 100000 in
theorem lp_Se_mostSetsWithin (l : Launch) (g : Gx) {κ : Kx} {E : Ex} {P : va_W} (q0 q1 q2 s m : Nat) (sm ms : Nat → Int32) (hm : m ≤ 11) (hs : s < 2048) (C : zC κ l g ({ frames := 1, cells := 0, slots := 0, locals := 21 }) b_Se_mostSetsWithin 7 "TombLane$Settling" "mostSetsWithin" (some FieldType.int) E) : ∀ (k : Nat) (i : Nat) (sum : Int32) (most : Int32), (i + k = m) → (E (some (.int (msw sm ms s k i sum most))) [(q0, .inr (9, [.ref q1, .ref q2])), (q1, .inl (g.2.1 0, 12, .inl sm)), (q2, .inl (g.2.1 0, 2048, .inl ms))] P) → G κ 7 0 0 8 [(0, .ref q0), (1, .int (nI s)), (2, .int (nI m)), (3, .int sum), (4, .int most), (5, .int (nI i))] [] [(q0, .inr (9, [.ref q1, .ref q2])), (q1, .inl (g.2.1 0, 12, .inl sm)), (q2, .inl (g.2.1 0, 2048, .inl ms))] P := by
  intro k
  induction k with
  | zero =>
    intro i sum most hi hE
    refine g_iload C 5 rfl d_Se_mostSetsWithin_8 ?_
    refine g_iload_n C 2 rfl d_Se_mostSetsWithin_10 ?_
    refine g_icmp_ge C d_Se_mostSetsWithin_11 (fun _ => ?_) (fun c_1 => absurd (nI_le (by omega) (by omega)) c_1)
    refine g_iload_n C 3 rfl d_Se_mostSetsWithin_60 ?_
    refine g_if_ne C d_Se_mostSetsWithin_61 (fun c_2 => ?_) (fun c_2 => ?_)
    · skip
      refine g_iload C 4 rfl d_Se_mostSetsWithin_71 ?_
      exact g_iret C rfl (by simpa [msw, c_2] using hE) (by decide) (by decide) d_Se_mostSetsWithin_73
    · skip
      refine g_iload C 4 rfl d_Se_mostSetsWithin_64 ?_
      refine g_iconst (v := 1) C rfl d_Se_mostSetsWithin_66 ?_
      refine g_iadd C d_Se_mostSetsWithin_67 ?_
      refine g_goto C d_Se_mostSetsWithin_68 ?_
      exact g_iret C rfl (by simpa [msw, eq_true c_2] using hE) (by decide) (by decide) d_Se_mostSetsWithin_73
  | succ k ih =>
    intro i sum most hi hE
    have hcl := clr_le s i
    refine g_iload C 5 rfl d_Se_mostSetsWithin_8 ?_
    refine g_iload_n C 2 rfl d_Se_mostSetsWithin_10 ?_
    refine g_icmp_ge C d_Se_mostSetsWithin_11 (fun c_1 => absurd c_1 (nI_ge (by omega) (by omega))) (fun _ => ?_)
    refine g_iload_n C 1 rfl d_Se_mostSetsWithin_14 ?_
    refine g_iconst (v := 1) C rfl d_Se_mostSetsWithin_15 ?_
    refine g_iload C 5 rfl d_Se_mostSetsWithin_16 ?_
    refine g_ishl C d_Se_mostSetsWithin_18 ?_
    refine g_iconst (v := (-1)) C rfl d_Se_mostSetsWithin_19 ?_
    refine g_ixor C d_Se_mostSetsWithin_20 ?_
    refine g_iand C d_Se_mostSetsWithin_21 ?_
    refine g_eq (st1 := [.int (nI (clr s i))]) (congrArg (fun z => Value.int z :: []) (clr_nI hs (by omega))) rfl ?_
    refine g_istore (lv1 := [(0, .ref q0), (1, .int (nI s)), (2, .int (nI m)), (3, .int sum), (4, .int most), (5, .int (nI i)), (6, .int (nI (clr s i)))]) C d_Se_mostSetsWithin_22 [1, 2, 3, 4, 5, 6, 0] (by decide) rfl ?_
    refine g_iload C 6 rfl d_Se_mostSetsWithin_24 ?_
    refine g_iload_n C 1 rfl d_Se_mostSetsWithin_26 ?_
    refine g_icmp_eq C d_Se_mostSetsWithin_27 (fun c_2 => ?_) (fun c_2 => ?_)
    · skip
      have n_2 : clr s i = s := (nI_eq (a := (clr s i)) (b := s) (by omega) (by omega)).mp c_2
      refine g_iinc (v := nI (i + 1)) (lv1 := [(0, .ref q0), (1, .int (nI s)), (2, .int (nI m)), (3, .int sum), (4, .int most), (5, .int (nI (i + 1))), (6, .int (nI (clr s i)))]) C d_Se_mostSetsWithin_54 5 rfl (nI_1 _) [1, 2, 3, 4, 5, 0, 6] (by decide) rfl ?_
      refine g_goto C d_Se_mostSetsWithin_57 ?_
      refine g_lv (lv1 := [(0, .ref q0), (1, .int (nI s)), (2, .int (nI m)), (3, .int sum), (4, .int most), (5, .int (nI (i + 1)))]) [0, 1, 2, 3, 4, 5] rfl ?_
      exact ih (i + 1) _ _ (by omega) (by simpa [msw, eq_true c_2, eq_true n_2] using hE)
    · skip
      have n_2 : ¬ (clr s i = s) := fun z => c_2 ((nI_eq (a := (clr s i)) (b := s) (by omega) (by omega)).mpr z)
      refine g_iload_n C 3 rfl d_Se_mostSetsWithin_30 ?_
      refine g_aload_n C 0 rfl d_Se_mostSetsWithin_31 ?_
      refine g_get C 0 rfl rfl in_Se 0 (by decide) kw_365 rfl d_Se_mostSetsWithin_32 ?_
      refine g_iload C 5 rfl d_Se_mostSetsWithin_35 ?_
      refine g_iald C 1 rfl (vp_in_nI (by omega) (by decide)) d_Se_mostSetsWithin_37 ?_
      refine g_eq (st1 := [.int (sm i), .int sum]) (congrArg (fun z => Value.int z :: [.int sum]) (congrArg sm (nI_clamp (by omega)))) rfl ?_
      refine g_iadd C d_Se_mostSetsWithin_38 ?_
      refine g_istore_n (lv1 := [(0, .ref q0), (1, .int (nI s)), (2, .int (nI m)), (3, .int (sum + (sm i))), (4, .int most), (5, .int (nI i)), (6, .int (nI (clr s i)))]) C d_Se_mostSetsWithin_39 [1, 2, 3, 0, 4, 5, 6] (by decide) rfl ?_
      refine g_iload C 4 rfl d_Se_mostSetsWithin_40 ?_
      refine g_aload_n C 0 rfl d_Se_mostSetsWithin_42 ?_
      refine g_get C 0 rfl rfl in_Se 1 (by decide) kw_366 rfl d_Se_mostSetsWithin_43 ?_
      refine g_iload C 6 rfl d_Se_mostSetsWithin_46 ?_
      refine g_iald C 2 rfl (vp_in_nI (by omega) (by decide)) d_Se_mostSetsWithin_48 ?_
      refine g_eq (st1 := [.int (ms (clr s i)), .int most]) (congrArg (fun z => Value.int z :: [.int most]) (congrArg ms (nI_clamp (by omega)))) rfl ?_
      refine g_mmax C kw_846 kw_583 kw_94 kw_584 (by decide) (Nat.le_of_ble_eq_true rfl) (by decide) (by decide) d_Se_mostSetsWithin_49 ?_
      refine g_istore (lv1 := [(0, .ref q0), (1, .int (nI s)), (2, .int (nI m)), (3, .int (sum + (sm i))), (4, .int (if most < ms (clr s i) then ms (clr s i) else most)), (5, .int (nI i)), (6, .int (nI (clr s i)))]) C d_Se_mostSetsWithin_52 [1, 2, 3, 4, 0, 5, 6] (by decide) rfl ?_
      refine g_iinc (v := nI (i + 1)) (lv1 := [(0, .ref q0), (1, .int (nI s)), (2, .int (nI m)), (3, .int (sum + (sm i))), (4, .int (if most < ms (clr s i) then ms (clr s i) else most)), (5, .int (nI (i + 1))), (6, .int (nI (clr s i)))]) C d_Se_mostSetsWithin_54 5 rfl (nI_1 _) [1, 2, 3, 4, 5, 0, 6] (by decide) rfl ?_
      refine g_goto C d_Se_mostSetsWithin_57 ?_
      refine g_lv (lv1 := [(0, .ref q0), (1, .int (nI s)), (2, .int (nI m)), (3, .int (sum + (sm i))), (4, .int (if most < ms (clr s i) then ms (clr s i) else most)), (5, .int (nI (i + 1)))]) [0, 1, 2, 3, 4, 5] rfl ?_
      exact ih (i + 1) _ _ (by omega) (by simpa [msw, c_2, n_2] using hE)

set_option maxHeartbeats 4000000 in
set_option maxRecDepth 100000 in
theorem c_Se_mostSetsWithin (l : Launch) (g : Gx) (q0 q1 q2 s m : Nat) (sm ms : Nat → Int32) (hm : m ≤ 11) (hs : s < 2048) : M0 l g y_Se_mostSetsWithin b_Se_mostSetsWithin 7 (some FieldType.int) ({ frames := 1, cells := 0, slots := 0, locals := 21 }) [.ref q0, .int (nI s), .int (nI m)] [(q0, .inr (9, [.ref q1, .ref q2])), (q1, .inl (g.2.1 0, 12, .inl sm)), (q2, .inl (g.2.1 0, 2048, .inl ms))] (some (.int (msw sm ms s m 0 0 0))) [(q0, .inr (9, [.ref q1, .ref q2])), (q1, .inl (g.2.1 0, 12, .inl sm)), (q2, .inl (g.2.1 0, 2048, .inl ms))] := by
  refine MP.of (by decide) (Nat.le_of_ble_eq_true rfl) (fun κ C => ?_)
  have C : zC κ l g ({ frames := 1, cells := 0, slots := 0, locals := 21 }) b_Se_mostSetsWithin 7 "TombLane$Settling" "mostSetsWithin" (some FieldType.int) _ := C
  refine g_lv (lv1 := [(0, .ref q0), (1, .int (nI s)), (2, .int (nI m))]) [0, 1, 2] rfl ?_
  refine g_iconst (v := 0) C rfl d_Se_mostSetsWithin_0 ?_
  refine g_istore_n (lv1 := [(0, .ref q0), (1, .int (nI s)), (2, .int (nI m)), (3, .int 0)]) C d_Se_mostSetsWithin_1 [1, 2, 3, 0] (by decide) rfl ?_
  refine g_iconst (v := 0) C rfl d_Se_mostSetsWithin_2 ?_
  refine g_istore (lv1 := [(0, .ref q0), (1, .int (nI s)), (2, .int (nI m)), (3, .int 0), (4, .int 0)]) C d_Se_mostSetsWithin_3 [1, 2, 3, 4, 0] (by decide) rfl ?_
  refine g_iconst (v := 0) C rfl d_Se_mostSetsWithin_5 ?_
  refine g_istore (lv1 := [(0, .ref q0), (1, .int (nI s)), (2, .int (nI m)), (3, .int 0), (4, .int 0), (5, .int 0)]) C d_Se_mostSetsWithin_6 [1, 2, 3, 4, 5, 0] (by decide) rfl ?_
  exact lp_Se_mostSetsWithin l g q0 q1 q2 s m sm ms hm hs C m 0 0 0 (by omega) ⟨rfl, rfl, rfl⟩

set_option maxHeartbeats 4000000 in
set_option maxRecDepth 100000 in
theorem lp_Se_mostSetsAmong (l : Launch) (g : Gx) {κ : Kx} {E : Ex} {P : va_W} (q0 q1 q2 m : Nat) (sm : Nat → Int32) (hm : m ≤ 11) (hp : 2 ^ m ≤ 2048) (C : zC κ l g ({ frames := 2, cells := 0, slots := 0, locals := 47 }) b_Se_mostSetsAmong 4 "TombLane$Settling" "mostSetsAmong" (some FieldType.int) E) : ∀ (k : Nat) (s : Nat) (ms : Nat → Int32), (s + k = 2 ^ m) → (E (some (.int (msa sm m k s ms (2 ^ m - 1)))) [(q0, .inr (9, [.ref q1, .ref q2])), (q1, .inl (g.2.1 0, 12, .inl sm)), (q2, .inl (g.2.1 0, 2048, .inl (msa sm m k s ms)))] P) → G κ 4 0 0 6 [(0, .ref q0), (1, .int (nI m)), (2, .int (nI (2 ^ m))), (3, .int (nI s))] [] [(q0, .inr (9, [.ref q1, .ref q2])), (q1, .inl (g.2.1 0, 12, .inl sm)), (q2, .inl (g.2.1 0, 2048, .inl ms))] P := by
  intro k
  induction k with
  | zero =>
    intro s ms hi hE
    have hpp : 1 ≤ 2 ^ m := Nat.one_le_two_pow
    refine g_iload_n C 3 rfl d_Se_mostSetsAmong_6 ?_
    refine g_iload_n C 2 rfl d_Se_mostSetsAmong_7 ?_
    refine g_icmp_ge C d_Se_mostSetsAmong_8 (fun _ => ?_) (fun c_1 => absurd (nI_le (by omega) (by omega)) c_1)
    refine g_aload_n C 0 rfl d_Se_mostSetsAmong_29 ?_
    refine g_get C 0 rfl rfl in_Se 1 (by decide) kw_366 rfl d_Se_mostSetsAmong_30 ?_
    refine g_iload_n C 2 rfl d_Se_mostSetsAmong_33 ?_
    refine g_iconst (v := 1) C rfl d_Se_mostSetsAmong_34 ?_
    refine g_isub C d_Se_mostSetsAmong_35 ?_
    refine g_eq (st1 := [.int (nI (2 ^ m - 1)), .ref q2]) (congrArg (fun z => Value.int z :: [.ref q2]) (pk_sub (b := 1) (Nat.one_le_two_pow))) rfl ?_
    refine g_iald C 2 rfl (vp_in_nI (by omega) (by decide)) d_Se_mostSetsAmong_36 ?_
    refine g_eq (st1 := [.int (ms (2 ^ m - 1))]) (congrArg (fun z => Value.int z :: []) (congrArg ms (nI_clamp (by omega)))) rfl ?_
    exact g_iret C rfl hE (by decide) (by decide) d_Se_mostSetsAmong_37
  | succ k ih =>
    intro s ms hi hE
    have hpp : 1 ≤ 2 ^ m := Nat.one_le_two_pow
    refine g_iload_n C 3 rfl d_Se_mostSetsAmong_6 ?_
    refine g_iload_n C 2 rfl d_Se_mostSetsAmong_7 ?_
    refine g_icmp_ge C d_Se_mostSetsAmong_8 (fun c_1 => absurd c_1 (nI_ge (by omega) (by omega))) (fun _ => ?_)
    refine g_aload_n C 0 rfl d_Se_mostSetsAmong_11 ?_
    refine g_get C 0 rfl rfl in_Se 1 (by decide) kw_366 rfl d_Se_mostSetsAmong_12 ?_
    refine g_iload_n C 3 rfl d_Se_mostSetsAmong_15 ?_
    refine g_aload_n C 0 rfl d_Se_mostSetsAmong_16 ?_
    refine g_iload_n C 3 rfl d_Se_mostSetsAmong_17 ?_
    refine g_iload_n C 1 rfl d_Se_mostSetsAmong_18 ?_
    refine g_callV0 (rest := [.int (nI s), .ref q2]) (Xn := [(q0, .inr (9, [.ref q1, .ref q2])), (q1, .inl (g.2.1 0, 12, .inl sm)), (q2, .inl (g.2.1 0, 2048, .inl ms))]) C (c_Se_mostSetsWithin l g q0 q1 q2 s m sm ms hm (by omega)) [0, 1, 2] [] [0, 1, 2] rfl (by decide) (by decide) rfl mo_Se_mostSetsWithin mv_Se_mostSetsWithin kw_842 (by decide) (rcX 0 rfl rfl) rfl (Nat.le_of_ble_eq_true rfl) ⟨Nat.le_of_ble_eq_true rfl, Nat.le_of_ble_eq_true rfl⟩ d_Se_mostSetsAmong_19 ?_
    refine g_iast (X1 := [(q0, .inr (9, [.ref q1, .ref q2])), (q1, .inl (g.2.1 0, 12, .inl sm)), (q2, .inl (g.2.1 0, 2048, .inl (upd ms (Int32.toNatClampNeg (nI s)) (msw sm ms s m 0 0 0))))]) C 2 rfl (vp_in_nI (by omega) (by decide)) rfl d_Se_mostSetsAmong_22 ?_
    refine g_eq (X1 := [(q0, .inr (9, [.ref q1, .ref q2])), (q1, .inl (g.2.1 0, 12, .inl sm)), (q2, .inl (g.2.1 0, 2048, .inl (upd ms s (msw sm ms s m 0 0 0))))]) rfl (by rw [nI_clamp (by omega)]) ?_
    refine g_iinc (v := nI (s + 1)) (lv1 := [(0, .ref q0), (1, .int (nI m)), (2, .int (nI (2 ^ m))), (3, .int (nI (s + 1)))]) C d_Se_mostSetsAmong_23 3 rfl (nI_1 _) [1, 2, 3, 0] (by decide) rfl ?_
    refine g_goto C d_Se_mostSetsAmong_26 ?_
    exact ih (s + 1) _ (by omega) hE

set_option maxHeartbeats 4000000 in
set_option maxRecDepth 100000 in
theorem c_Se_mostSetsAmong (l : Launch) (g : Gx) (q0 q1 q2 m : Nat) (sm ms : Nat → Int32) (hm : m ≤ 11) (hp : 2 ^ m ≤ 2048) : M0 l g y_Se_mostSetsAmong b_Se_mostSetsAmong 4 (some FieldType.int) ({ frames := 2, cells := 0, slots := 0, locals := 47 }) [.ref q0, .int (nI m)] [(q0, .inr (9, [.ref q1, .ref q2])), (q1, .inl (g.2.1 0, 12, .inl sm)), (q2, .inl (g.2.1 0, 2048, .inl ms))] (some (.int (msa sm m (2 ^ m - 1) 1 ms (2 ^ m - 1)))) [(q0, .inr (9, [.ref q1, .ref q2])), (q1, .inl (g.2.1 0, 12, .inl sm)), (q2, .inl (g.2.1 0, 2048, .inl (msa sm m (2 ^ m - 1) 1 ms)))] := by
  refine MP.of (by decide) (Nat.le_of_ble_eq_true rfl) (fun κ C => ?_)
  have C : zC κ l g ({ frames := 2, cells := 0, slots := 0, locals := 47 }) b_Se_mostSetsAmong 4 "TombLane$Settling" "mostSetsAmong" (some FieldType.int) _ := C
  refine g_lv (lv1 := [(0, .ref q0), (1, .int (nI m))]) [0, 1] rfl ?_
  refine g_iconst (v := 1) C rfl d_Se_mostSetsAmong_0 ?_
  refine g_iload_n C 1 rfl d_Se_mostSetsAmong_1 ?_
  refine g_ishl C d_Se_mostSetsAmong_2 ?_
  refine g_eq (st1 := [.int (nI (2 ^ m))]) (congrArg (fun z => Value.int z :: []) (shl_nI (by omega))) rfl ?_
  refine g_istore_n (lv1 := [(0, .ref q0), (1, .int (nI m)), (2, .int (nI (2 ^ m)))]) C d_Se_mostSetsAmong_3 [1, 2, 0] (by decide) rfl ?_
  refine g_iconst (v := 1) C rfl d_Se_mostSetsAmong_4 ?_
  refine g_istore_n (lv1 := [(0, .ref q0), (1, .int (nI m)), (2, .int (nI (2 ^ m))), (3, .int 1)]) C d_Se_mostSetsAmong_5 [1, 2, 3, 0] (by decide) rfl ?_
  exact lp_Se_mostSetsAmong l g q0 q1 q2 m sm hm hp C (2 ^ m - 1) 1 ms (by have := @Nat.one_le_two_pow m; omega) ⟨rfl, rfl, rfl⟩

/-- the balances that are not 0, in their order -/
def pyl (b : Nat → Int32) : Nat → Nat → Nat → (Nat → Int32) → Nat × (Nat → Int32)
  | 0, _, m, f => (m, f)
  | k + 1, i, m, f => if b i = 0 then pyl b k (i + 1) m f else pyl b k (i + 1) (m + 1) (upd f m (b i))
theorem pyl_le (b : Nat → Int32) : ∀ (k i m : Nat) (f : Nat → Int32), (pyl b k i m f).1 ≤ m + k
  | 0, _, m, _ => Nat.le_refl m
  | k + 1, i, m, f => by
    unfold pyl
    split
    · have := pyl_le b k (i + 1) m f; omega
    · have := pyl_le b k (i + 1) (m + 1) (upd f m (b i)); omega
def payV (m : Nat) (sm ms : Nat → Int32) : Int32 := if m = 0 then 0 else nI (m - 1) - msa sm (m - 1) (2 ^ (m - 1) - 1) 1 ms (2 ^ (m - 1) - 1)
def payM (m : Nat) (sm ms : Nat → Int32) : Nat → Int32 := if m = 0 then ms else msa sm (m - 1) (2 ^ (m - 1) - 1) 1 ms
theorem pow11 {m : Nat} (h : m ≤ 11) : 2 ^ m ≤ 2048 := Nat.pow_le_pow_right (n := 2) (by decide) h
set_option maxHeartbeats 4000000 in
set_option maxRecDepth 100000 in
theorem lp_Se_payments (l : Launch) (g : Gx) {κ : Kx} {E : Ex} {P : va_W} (q0 q1 q2 q3 : Nat) (b ms : Nat → Int32) (C : zC κ l g ({ frames := 3, cells := 0, slots := 0, locals := 70 }) b_Se_payments 4 "TombLane$Settling" "payments" (some FieldType.int) E) : ∀ (k : Nat) (i : Nat) (m : Nat) (sm : Nat → Int32), (i + k = 12) → (m ≤ i) → (G κ 4 0 0 40 [(0, .ref q0), (1, .ref q3), (2, .int (nI (pyl b k i m sm).1)), (3, .int (nI 12))] [] [(q0, .inr (9, [.ref q1, .ref q2])), (q1, .inl (g.2.1 0, 12, .inl ((pyl b k i m sm).2))), (q2, .inl (g.2.1 0, 2048, .inl ms)), (q3, .inl (g.2.1 0, 12, .inl b))] P) → G κ 4 0 0 4 [(0, .ref q0), (1, .ref q3), (2, .int (nI m)), (3, .int (nI i))] [] [(q0, .inr (9, [.ref q1, .ref q2])), (q1, .inl (g.2.1 0, 12, .inl sm)), (q2, .inl (g.2.1 0, 2048, .inl ms)), (q3, .inl (g.2.1 0, 12, .inl b))] P := by
  intro k
  induction k with
  | zero =>
    intro i m sm hi hm hE
    have e12 : i = 12 := by omega
    subst e12
    refine g_lv (lv1 := [(0, .ref q0), (1, .ref q3), (2, .int (nI m)), (3, .int (nI 12))]) [0, 1, 2, 3] rfl ?_
    refine g_iload_n C 3 rfl d_Se_payments_4 ?_
    refine g_aload_n C 1 rfl d_Se_payments_5 ?_
    refine g_ialen C 3 rfl d_Se_payments_6 ?_
    refine g_icmp_ge C d_Se_payments_7 (fun _ => ?_) (fun c_1 => absurd (nI_le (Nat.le_refl 12) (by decide)) c_1)
    exact hE
  | succ k ih =>
    intro i m sm hi hm hE
    refine g_iload_n C 3 rfl d_Se_payments_4 ?_
    refine g_aload_n C 1 rfl d_Se_payments_5 ?_
    refine g_ialen C 3 rfl d_Se_payments_6 ?_
    refine g_icmp_ge C d_Se_payments_7 (fun c_1 => absurd c_1 (nI_ge (b := 12) (by omega) (by decide))) (fun _ => ?_)
    refine g_iload_n C 2 rfl d_Se_payments_10 ?_
    refine g_bipush (v := 12) C rfl d_Se_payments_11 ?_
    refine g_icmp_ge C d_Se_payments_13 (fun c_2 => absurd c_2 (nI_ge (b := 12) (by omega) (by decide))) (fun _ => ?_)
    refine g_aload_n C 1 rfl d_Se_payments_16 ?_
    refine g_iload_n C 3 rfl d_Se_payments_17 ?_
    refine g_iald C 3 rfl (vp_in_nI (by omega) (by decide)) d_Se_payments_18 ?_
    refine g_eq (st1 := [.int (b i)]) (congrArg (fun z => Value.int z :: []) (congrArg b (nI_clamp (by omega)))) rfl ?_
    refine g_if_eq C d_Se_payments_19 (fun c_3 => ?_) (fun c_3 => ?_)
    · skip
      refine g_iinc (v := nI (i + 1)) (lv1 := [(0, .ref q0), (1, .ref q3), (2, .int (nI m)), (3, .int (nI (i + 1)))]) C d_Se_payments_34 3 rfl (nI_1 _) [1, 2, 3, 0] (by decide) rfl ?_
      refine g_goto C d_Se_payments_37 ?_
      exact ih (i + 1) _ _ (by omega) (by omega) (by simpa [pyl, eq_true c_3] using hE)
    · skip
      refine g_aload_n C 0 rfl d_Se_payments_22 ?_
      refine g_get C 0 rfl rfl in_Se 0 (by decide) kw_365 rfl d_Se_payments_23 ?_
      refine g_iload_n C 2 rfl d_Se_payments_26 ?_
      refine g_aload_n C 1 rfl d_Se_payments_27 ?_
      refine g_iload_n C 3 rfl d_Se_payments_28 ?_
      refine g_iald C 3 rfl (vp_in_nI (by omega) (by decide)) d_Se_payments_29 ?_
      refine g_eq (st1 := [.int (b i), .int (nI m), .ref q1]) (congrArg (fun z => Value.int z :: [.int (nI m), .ref q1]) (congrArg b (nI_clamp (by omega)))) rfl ?_
      refine g_iast (X1 := [(q0, .inr (9, [.ref q1, .ref q2])), (q1, .inl (g.2.1 0, 12, .inl (upd sm (Int32.toNatClampNeg (nI m)) (b i)))), (q2, .inl (g.2.1 0, 2048, .inl ms)), (q3, .inl (g.2.1 0, 12, .inl b))]) C 1 rfl (vp_in_nI (by omega) (by decide)) rfl d_Se_payments_30 ?_
      refine g_eq (X1 := [(q0, .inr (9, [.ref q1, .ref q2])), (q1, .inl (g.2.1 0, 12, .inl (upd sm m (b i)))), (q2, .inl (g.2.1 0, 2048, .inl ms)), (q3, .inl (g.2.1 0, 12, .inl b))]) rfl (by rw [nI_clamp (by omega)]) ?_
      refine g_iinc (v := nI (m + 1)) (lv1 := [(0, .ref q0), (1, .ref q3), (2, .int (nI (m + 1))), (3, .int (nI i))]) C d_Se_payments_31 2 rfl (nI_1 _) [1, 2, 0, 3] (by decide) rfl ?_
      refine g_iinc (v := nI (i + 1)) (lv1 := [(0, .ref q0), (1, .ref q3), (2, .int (nI (m + 1))), (3, .int (nI (i + 1)))]) C d_Se_payments_34 3 rfl (nI_1 _) [1, 2, 3, 0] (by decide) rfl ?_
      refine g_goto C d_Se_payments_37 ?_
      exact ih (i + 1) _ _ (by omega) (by omega) (by simpa [pyl, c_3] using hE)

set_option maxHeartbeats 4000000 in
set_option maxRecDepth 100000 in
theorem c_Se_payments (l : Launch) (g : Gx) (q0 q1 q2 q3 : Nat) (sm ms b : Nat → Int32) : M0 l g y_Se_payments b_Se_payments 4 (some FieldType.int) ({ frames := 3, cells := 0, slots := 0, locals := 70 }) [.ref q0, .ref q3] [(q0, .inr (9, [.ref q1, .ref q2])), (q1, .inl (g.2.1 0, 12, .inl sm)), (q2, .inl (g.2.1 0, 2048, .inl ms)), (q3, .inl (g.2.1 0, 12, .inl b))] (some (.int (payV (pyl b 12 0 0 sm).1 (pyl b 12 0 0 sm).2 ms))) [(q0, .inr (9, [.ref q1, .ref q2])), (q1, .inl (g.2.1 0, 12, .inl ((pyl b 12 0 0 sm).2))), (q2, .inl (g.2.1 0, 2048, .inl (payM (pyl b 12 0 0 sm).1 (pyl b 12 0 0 sm).2 ms))), (q3, .inl (g.2.1 0, 12, .inl b))] := by
  refine MP.of (by decide) (Nat.le_of_ble_eq_true rfl) (fun κ C => ?_)
  have C : zC κ l g ({ frames := 3, cells := 0, slots := 0, locals := 70 }) b_Se_payments 4 "TombLane$Settling" "payments" (some FieldType.int) _ := C
  refine g_lv (lv1 := [(0, .ref q0), (1, .ref q3)]) [0, 1] rfl ?_
  refine g_iconst (v := 0) C rfl d_Se_payments_0 ?_
  refine g_istore_n (lv1 := [(0, .ref q0), (1, .ref q3), (2, .int 0)]) C d_Se_payments_1 [1, 2, 0] (by decide) rfl ?_
  refine g_iconst (v := 0) C rfl d_Se_payments_2 ?_
  refine g_istore_n (lv1 := [(0, .ref q0), (1, .ref q3), (2, .int 0), (3, .int 0)]) C d_Se_payments_3 [1, 2, 3, 0] (by decide) rfl ?_
  refine lp_Se_payments l g q0 q1 q2 q3 b ms C 12 0 0 sm (by omega) (by omega) ?_
  have hle := pyl_le b 12 0 0 sm
  generalize pyl b 12 0 0 sm = pz at hle C ⊢
  obtain ⟨m, f⟩ := pz
  dsimp only at hle C ⊢
  rcases Nat.eq_zero_or_pos m with hz | hz
  · subst hz
    refine g_iload_n C 2 rfl d_Se_payments_40 ?_
    refine g_if_ne C d_Se_payments_41 (fun c_1 => absurd rfl c_1) (fun _ => ?_)
    refine g_iconst (v := 0) C rfl d_Se_payments_44 ?_
    exact g_iret C rfl ⟨congrArg (fun z => some (Value.int z)) (by simp [payV]), (by simp [payM]), rfl⟩ (by decide) (by decide) d_Se_payments_45
  · obtain ⟨j, rfl⟩ : ∃ j, m = j + 1 := ⟨m - 1, by omega⟩
    refine g_iload_n C 2 rfl d_Se_payments_40 ?_
    refine g_if_ne C d_Se_payments_41 (fun _ => ?_) (fun c_2 => absurd c_2 (nI_ne0 (by omega) (by omega)))
    refine g_iload_n C 2 rfl d_Se_payments_46 ?_
    refine g_iconst (v := 1) C rfl d_Se_payments_47 ?_
    refine g_isub C d_Se_payments_48 ?_
    refine g_eq (st1 := [.int (nI j)]) (congrArg (fun z => Value.int z :: []) (nI_pred j)) rfl ?_
    refine g_aload_n C 0 rfl d_Se_payments_49 ?_
    refine g_iload_n C 2 rfl d_Se_payments_50 ?_
    refine g_iconst (v := 1) C rfl d_Se_payments_51 ?_
    refine g_isub C d_Se_payments_52 ?_
    refine g_eq (st1 := [.int (nI j), .ref q0, .int (nI j)]) (congrArg (fun z => Value.int z :: [.ref q0, .int (nI j)]) (nI_pred j)) rfl ?_
    refine g_callV0 (rest := [.int (nI j)]) (Xn := [(q0, .inr (9, [.ref q1, .ref q2])), (q1, .inl (g.2.1 0, 12, .inl f)), (q2, .inl (g.2.1 0, 2048, .inl (msa f j (2 ^ j - 1) 1 ms))), (q3, .inl (g.2.1 0, 12, .inl b))]) C (c_Se_mostSetsAmong l g q0 q1 q2 j f ms (by omega) (pow11 (by omega))) [0, 1, 2] [3] [1, 2, 3, 0] rfl (by decide) (by decide) rfl mo_Se_mostSetsAmong mv_Se_mostSetsAmong kw_838 (by decide) (rcX 0 rfl rfl) rfl (Nat.le_of_ble_eq_true rfl) ⟨Nat.le_of_ble_eq_true rfl, Nat.le_of_ble_eq_true rfl⟩ d_Se_payments_53 ?_
    refine g_isub C d_Se_payments_56 ?_
    exact g_iret C rfl ⟨congrArg (fun z => some (Value.int z)) (by simp [payV]), (by simp [payM]), rfl⟩ (by decide) (by decide) d_Se_payments_57

