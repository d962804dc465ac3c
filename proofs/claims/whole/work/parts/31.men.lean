/-- the byte of a name at a shift -/
def byt (v : Int64) (s : Int32) : Int32 := Int64.toInt32 ((v.toUInt64 >>> ((Int32.toInt64 s).toUInt64 &&& Int64.toUInt64 63)).toInt64) &&& 255
def sh8 : Nat → Int32
  | 0 => (-8)
  | k + 1 => nI (8 * k)
theorem sh8_step (k : Nat) : nI (8 * k) + (-8) = sh8 k := by
  cases k with
  | zero => rfl
  | succ k =>
    show nI (8 * (k + 1)) + (-8) = nI (8 * k)
    have h : nI (8 * (k + 1)) = nI (8 * k) + nI 8 := (nI_add (8 * k) 8).symm
    rw [h, Int32.add_assoc]
    show nI (8 * k) + (nI 8 + (-8)) = _
    rw [show nI 8 + (-8) = 0 by decide, Int32.add_zero]
/-- letters of a name, highest byte first; 0 if it has another byte -/
def lto (v : Int64) : Nat → Int32 → Int32
  | 0, n => n
  | k + 1, n => if byt v (nI (8 * k)) = 0 ∧ n = 0 then lto v k n else if isL (byt v (nI (8 * k))) then lto v k (n + 1) else 0
set_option maxHeartbeats 4000000 in
set_option maxRecDepth 100000 in
theorem lp_TL_lettersOf (l : Launch) (g : Gx) {κ : Kx} {E : Ex} {P : va_W} (v : Int64) (C : zC κ l g ({ frames := 1, cells := 0, slots := 0, locals := 20 }) b_TL_lettersOf 5 "TombLane" "lettersOf" (some FieldType.int) E) : ∀ (k : Nat) (n : Int32), (k ≤ 8) → (E (some (.int (lto v k n))) [] P) → G κ 5 0 0 5 [(0, .long v), (2, .int n), (3, .int (sh8 k))] [] [] P := by
  intro k
  induction k with
  | zero =>
    intro n hk hE
    refine g_iload_n C 2 rfl d_TL_lettersOf_5 ?_
    refine g_if_lt C d_TL_lettersOf_6 (fun _ => ?_) (fun c_1 => absurd (show sh8 0 < 0 by decide) c_1)
    refine g_iload_n C 1 rfl d_TL_lettersOf_50 ?_
    exact g_iret C rfl hE (by decide) (by decide) d_TL_lettersOf_51
  | succ k ih =>
    intro n hk hE
    refine g_lv (lv1 := [(0, .long v), (2, .int n), (3, .int (nI (8 * k)))]) [0, 1, 2] rfl ?_
    refine g_iload_n C 2 rfl d_TL_lettersOf_5 ?_
    refine g_if_lt C d_TL_lettersOf_6 (fun c_1 => absurd c_1 (nI_pos (by omega))) (fun _ => ?_)
    refine g_lload_n C 0 rfl d_TL_lettersOf_9 ?_
    refine g_iload_n C 2 rfl d_TL_lettersOf_10 ?_
    refine g_lushr (v := (Int64.toUInt64 v >>> ((Int32.toInt64 (nI (8 * k))).toUInt64 &&& Int64.toUInt64 63)).toInt64) C rfl d_TL_lettersOf_11 ?_
    refine g_l2i C d_TL_lettersOf_12 ?_
    refine g_sipush (v := 255) C rfl d_TL_lettersOf_13 ?_
    refine g_iand C d_TL_lettersOf_16 ?_
    refine g_eq (st1 := [.int (byt v (nI (8 * k)))]) (congrArg (fun z => Value.int z :: []) rfl) rfl ?_
    refine g_istore (lv1 := [(0, .long v), (2, .int n), (3, .int (nI (8 * k))), (4, .int (byt v (nI (8 * k))))]) C d_TL_lettersOf_17 [1, 2, 3, 0] (by decide) rfl ?_
    refine g_iload C 3 rfl d_TL_lettersOf_19 ?_
    refine g_if_ne C d_TL_lettersOf_21 (fun c_2 => ?_) (fun c_2 => ?_)
    · skip
      refine g_iload C 3 rfl d_TL_lettersOf_31 ?_
      refine g_callS0 (rest := []) (Xn := []) C (c_TL_isLetter l g (byt v (nI (8 * k)))) [] [] [] rfl (by decide) (by decide) rfl mo_TL_isLetter ms_TL_isLetter kw_414 (by decide) rfl (Nat.le_of_ble_eq_true rfl) ⟨Nat.le_of_ble_eq_true rfl, Nat.le_of_ble_eq_true rfl⟩ d_TL_lettersOf_33 ?_
      refine g_if_ne C d_TL_lettersOf_36 (fun c_3 => ?_) (fun c_3 => ?_)
      · have c_3 := zb_n0.mp c_3
        refine g_iinc (v := n + 1) (lv1 := [(0, .long v), (2, .int (n + 1)), (3, .int (nI (8 * k))), (4, .int (byt v (nI (8 * k))))]) C d_TL_lettersOf_41 1 rfl rfl [1, 0, 2, 3] (by decide) rfl ?_
        refine g_iinc (v := sh8 k) (lv1 := [(0, .long v), (2, .int (n + 1)), (3, .int (sh8 k)), (4, .int (byt v (nI (8 * k))))]) C d_TL_lettersOf_44 2 rfl (sh8_step k) [1, 2, 0, 3] (by decide) rfl ?_
        refine g_goto C d_TL_lettersOf_47 ?_
        refine g_lv (lv1 := [(0, .long v), (2, .int (n + 1)), (3, .int (sh8 k))]) [0, 1, 2] rfl ?_
        exact ih _ (by omega) (by simpa [lto, c_2, c_3] using hE)
      · have c_3 := zb_0.mp c_3
        refine g_iconst (v := 0) C rfl d_TL_lettersOf_39 ?_
        exact g_iret C rfl (by simpa [lto, c_2, c_3] using hE) (by decide) (by decide) d_TL_lettersOf_40
    · skip
      refine g_iload_n C 1 rfl d_TL_lettersOf_24 ?_
      refine g_if_ne C d_TL_lettersOf_25 (fun c_4 => ?_) (fun c_4 => ?_)
      · skip
        refine g_iload C 3 rfl d_TL_lettersOf_31 ?_
        refine g_callS0 (rest := []) (Xn := []) C (c_TL_isLetter l g (byt v (nI (8 * k)))) [] [] [] rfl (by decide) (by decide) rfl mo_TL_isLetter ms_TL_isLetter kw_414 (by decide) rfl (Nat.le_of_ble_eq_true rfl) ⟨Nat.le_of_ble_eq_true rfl, Nat.le_of_ble_eq_true rfl⟩ d_TL_lettersOf_33 ?_
        refine g_if_ne C d_TL_lettersOf_36 (fun c_5 => ?_) (fun c_5 => ?_)
        · have c_5 := zb_n0.mp c_5
          refine g_iinc (v := n + 1) (lv1 := [(0, .long v), (2, .int (n + 1)), (3, .int (nI (8 * k))), (4, .int (byt v (nI (8 * k))))]) C d_TL_lettersOf_41 1 rfl rfl [1, 0, 2, 3] (by decide) rfl ?_
          refine g_iinc (v := sh8 k) (lv1 := [(0, .long v), (2, .int (n + 1)), (3, .int (sh8 k)), (4, .int (byt v (nI (8 * k))))]) C d_TL_lettersOf_44 2 rfl (sh8_step k) [1, 2, 0, 3] (by decide) rfl ?_
          refine g_goto C d_TL_lettersOf_47 ?_
          refine g_lv (lv1 := [(0, .long v), (2, .int (n + 1)), (3, .int (sh8 k))]) [0, 1, 2] rfl ?_
          exact ih _ (by omega) (by simpa [lto, eq_true c_2, c_4, c_5] using hE)
        · have c_5 := zb_0.mp c_5
          refine g_iconst (v := 0) C rfl d_TL_lettersOf_39 ?_
          exact g_iret C rfl (by simpa [lto, eq_true c_2, c_4, c_5] using hE) (by decide) (by decide) d_TL_lettersOf_40
      · skip
        refine g_goto C d_TL_lettersOf_28 ?_
        refine g_iinc (v := sh8 k) (lv1 := [(0, .long v), (2, .int n), (3, .int (sh8 k)), (4, .int (byt v (nI (8 * k))))]) C d_TL_lettersOf_44 2 rfl (sh8_step k) [1, 2, 0, 3] (by decide) rfl ?_
        refine g_goto C d_TL_lettersOf_47 ?_
        refine g_lv (lv1 := [(0, .long v), (2, .int n), (3, .int (sh8 k))]) [0, 1, 2] rfl ?_
        exact ih _ (by omega) (by simpa [lto, eq_true c_2, eq_true c_4] using hE)

set_option maxHeartbeats 4000000 in
set_option maxRecDepth 100000 in
theorem c_TL_lettersOf (l : Launch) (g : Gx) (v : Int64) : M0 l g y_TL_lettersOf b_TL_lettersOf 5 (some FieldType.int) ({ frames := 1, cells := 0, slots := 0, locals := 20 }) [.long v] [] (some (.int (lto v 8 0))) [] := by
  refine MP.of (by decide) (Nat.le_of_ble_eq_true rfl) (fun κ C => ?_)
  have C : zC κ l g ({ frames := 1, cells := 0, slots := 0, locals := 20 }) b_TL_lettersOf 5 "TombLane" "lettersOf" (some FieldType.int) _ := C
  refine g_lv (lv1 := [(0, .long v)]) [0] rfl ?_
  refine g_iconst (v := 0) C rfl d_TL_lettersOf_0 ?_
  refine g_istore_n (lv1 := [(0, .long v), (2, .int 0)]) C d_TL_lettersOf_1 [1, 0] (by decide) rfl ?_
  refine g_bipush (v := 56) C rfl d_TL_lettersOf_2 ?_
  refine g_istore_n (lv1 := [(0, .long v), (2, .int 0), (3, .int 56)]) C d_TL_lettersOf_4 [1, 2, 0] (by decide) rfl ?_
  exact lp_TL_lettersOf l g v C 8 0 (by decide) ⟨rfl, rfl, rfl⟩

/-- the first place with this name -/
def fnd (f : Nat → Int64) (w : Int64) : Nat → Nat → Int32
  | 0, _ => (-1)
  | k + 1, i => if f i = w then nI i else fnd f w k (i + 1)
set_option maxHeartbeats 4000000 in
set_option maxRecDepth 100000 in
theorem lp_Me_find (l : Launch) (g : Gx) {κ : Kx} {E : Ex} {P : va_W} (q0 q1 q2 q3 n : Nat) (nf : Nat → Int64) (w : Int64) (hn : n ≤ 12) (C : zC κ l g ({ frames := 0, cells := 0, slots := 0, locals := 0 }) b_Me_find 4 "TombLane$Men" "find" (some FieldType.int) E) : ∀ (k : Nat) (i : Nat), (i + k = n) → (E (some (.int (fnd nf w k i))) [(q0, .inr (7, [.ref q1, .ref q2, .ref q3, .int (nI n)])), (q1, .inl (g.2.1 1, 12, .inr (.inl nf)))] P) → G κ 4 0 0 2 [(0, .ref q0), (1, .long w), (3, .int (nI i))] [] [(q0, .inr (7, [.ref q1, .ref q2, .ref q3, .int (nI n)])), (q1, .inl (g.2.1 1, 12, .inr (.inl nf)))] P := by
  intro k
  induction k with
  | zero =>
    intro i hi hE
    refine g_iload_n C 2 rfl d_Me_find_2 ?_
    refine g_aload_n C 0 rfl d_Me_find_3 ?_
    refine g_get C 0 rfl rfl in_Me 3 (by decide) kw_121 rfl d_Me_find_4 ?_
    refine g_icmp_ge C d_Me_find_7 (fun _ => ?_) (fun c_1 => absurd (nI_le (by omega) (by omega)) c_1)
    refine g_iconst (v := (-1)) C rfl d_Me_find_29 ?_
    exact g_iret C rfl hE (by decide) (by decide) d_Me_find_30
  | succ k ih =>
    intro i hi hE
    refine g_iload_n C 2 rfl d_Me_find_2 ?_
    refine g_aload_n C 0 rfl d_Me_find_3 ?_
    refine g_get C 0 rfl rfl in_Me 3 (by decide) kw_121 rfl d_Me_find_4 ?_
    refine g_icmp_ge C d_Me_find_7 (fun c_1 => absurd c_1 (nI_ge (by omega) (by omega))) (fun _ => ?_)
    refine g_aload_n C 0 rfl d_Me_find_10 ?_
    refine g_get C 0 rfl rfl in_Me 0 (by decide) kw_113 rfl d_Me_find_11 ?_
    refine g_iload_n C 2 rfl d_Me_find_14 ?_
    refine g_lald C 1 rfl (vp_in_nI (by omega) (by decide)) d_Me_find_15 ?_
    refine g_eq (st1 := [.long (nf i)]) (congrArg (fun z => Value.long z :: []) (congrArg nf (nI_clamp (by omega)))) rfl ?_
    refine g_lload_n C 1 rfl d_Me_find_16 ?_
    refine g_lcmp C d_Me_find_17 ?_
    refine g_if_ne C d_Me_find_18 (fun c_2 => ?_) (fun c_2 => ?_)
    · have c_2 : ¬ ((nf i : Int64) = w) := fun z => c_2 ((lg_cmp_eq _ _).mpr z)
      refine g_iinc (v := nI (i + 1)) (lv1 := [(0, .ref q0), (1, .long w), (3, .int (nI (i + 1)))]) C d_Me_find_23 2 rfl (nI_1 _) [1, 2, 0] (by decide) rfl ?_
      refine g_goto C d_Me_find_26 ?_
      exact ih (i + 1) (by omega) (by simpa [fnd, c_2] using hE)
    · have c_2 := (lg_cmp_eq _ _).mp c_2
      refine g_iload_n C 2 rfl d_Me_find_21 ?_
      exact g_iret C rfl (by simpa [fnd, eq_true c_2] using hE) (by decide) (by decide) d_Me_find_22

set_option maxHeartbeats 4000000 in
set_option maxRecDepth 100000 in
theorem c_Me_find (l : Launch) (g : Gx) (q0 q1 q2 q3 n : Nat) (nf : Nat → Int64) (w : Int64) (hn : n ≤ 12) : M0 l g y_Me_find b_Me_find 4 (some FieldType.int) ({ frames := 0, cells := 0, slots := 0, locals := 0 }) [.ref q0, .long w] [(q0, .inr (7, [.ref q1, .ref q2, .ref q3, .int (nI n)])), (q1, .inl (g.2.1 1, 12, .inr (.inl nf)))] (some (.int (fnd nf w n 0))) [(q0, .inr (7, [.ref q1, .ref q2, .ref q3, .int (nI n)])), (q1, .inl (g.2.1 1, 12, .inr (.inl nf)))] := by
  refine MP.of (by decide) (Nat.le_of_ble_eq_true rfl) (fun κ C => ?_)
  have C : zC κ l g ({ frames := 0, cells := 0, slots := 0, locals := 0 }) b_Me_find 4 "TombLane$Men" "find" (some FieldType.int) _ := C
  refine g_lv (lv1 := [(0, .ref q0), (1, .long w)]) [0, 1] rfl ?_
  refine g_iconst (v := 0) C rfl d_Me_find_0 ?_
  refine g_istore_n (lv1 := [(0, .ref q0), (1, .long w), (3, .int 0)]) C d_Me_find_1 [1, 2, 0] (by decide) rfl ?_
  exact lp_Me_find l g q0 q1 q2 q3 n nf w hn C n 0 (by omega) ⟨rfl, rfl, rfl⟩

