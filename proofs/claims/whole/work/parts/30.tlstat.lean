def isL (c : Int32) : Bool := decide (¬ c < 97 ∧ ¬ 122 < c)
def isDg (c : Int32) : Bool := decide (¬ c < 48 ∧ ¬ 57 < c)
def inB (n b : Int32) : Bool := decide (¬ n < 0 ∧ ¬ b ≤ n)
/-- the word that tells a reason -/
def reaC (w : Int64) : Int32 := if w = 2003792491 then 1 else if w = 6909036 then 2 else if w = 439787549556 then 3 else if w = 1635213689 then 4 else if w = 431417028203 then 5 else (-1)
def sidC (w : Int64) : Int32 := if w = 1818584692 then 0 else if w = 491394656372 then 1 else (-1)
def freC (w : Int64) : Bool := decide (¬ w = 6578553 ∧ ¬ w = 512869231475 ∧ sidC w = (-1) ∧ reaC w = (-1))
set_option maxHeartbeats 4000000 in
set_option maxRecDepth 100000 in
theorem c_TL_isBelow (l : Launch) (g : Gx) (p0 p1 : Int32) : M0 l g y_TL_isBelow b_TL_isBelow 2 (some FieldType.boolean) ({ frames := 0, cells := 0, slots := 0, locals := 0 }) [.int p0, .int p1] [] (some (.int (zb (inB p0 p1)))) [] := by
  refine MP.of (by decide) (Nat.le_of_ble_eq_true rfl) (fun κ C => ?_)
  have C : zC κ l g ({ frames := 0, cells := 0, slots := 0, locals := 0 }) b_TL_isBelow 2 "TombLane" "isBelow" (some FieldType.boolean) _ := C
  refine g_lv (lv1 := [(0, .int p0), (1, .int p1)]) [0, 1] rfl ?_
  refine g_iload_n C 0 rfl d_TL_isBelow_0 ?_
  refine g_if_lt C d_TL_isBelow_1 (fun c_1 => ?_) (fun c_1 => ?_)
  · skip
    refine g_iconst (v := 0) C rfl d_TL_isBelow_13 ?_
    exact g_zret C (Or.inl rfl) rfl ⟨congrArg (fun z => some (Value.int z)) (by simp [zb, inB, c_1, Int32.not_le.mpr c_1]), rfl, rfl⟩ (by decide) (by decide) d_TL_isBelow_14
  · skip
    refine g_iload_n C 0 rfl d_TL_isBelow_4 ?_
    refine g_iload_n C 1 rfl d_TL_isBelow_5 ?_
    refine g_icmp_ge C d_TL_isBelow_6 (fun c_2 => ?_) (fun c_2 => ?_)
    · skip
      refine g_iconst (v := 0) C rfl d_TL_isBelow_13 ?_
      exact g_zret C (Or.inl rfl) rfl ⟨congrArg (fun z => some (Value.int z)) (by simp [zb, inB, c_1, Int32.not_lt.mp c_1, c_2, Int32.not_lt.mpr c_2]), rfl, rfl⟩ (by decide) (by decide) d_TL_isBelow_14
    · skip
      refine g_iconst (v := 1) C rfl d_TL_isBelow_9 ?_
      refine g_goto C d_TL_isBelow_10 ?_
      exact g_zret C (Or.inr rfl) rfl ⟨congrArg (fun z => some (Value.int z)) (by simp [zb, inB, c_1, Int32.not_lt.mp c_1, c_2, Int32.not_le.mp c_2]), rfl, rfl⟩ (by decide) (by decide) d_TL_isBelow_14

set_option maxHeartbeats 4000000 in
set_option maxRecDepth 100000 in
theorem c_TL_isLetter (l : Launch) (g : Gx) (p0 : Int32) : M0 l g y_TL_isLetter b_TL_isLetter 1 (some FieldType.boolean) ({ frames := 0, cells := 0, slots := 0, locals := 0 }) [.int p0] [] (some (.int (zb (isL p0)))) [] := by
  refine MP.of (by decide) (Nat.le_of_ble_eq_true rfl) (fun κ C => ?_)
  have C : zC κ l g ({ frames := 0, cells := 0, slots := 0, locals := 0 }) b_TL_isLetter 1 "TombLane" "isLetter" (some FieldType.boolean) _ := C
  refine g_lv (lv1 := [(0, .int p0)]) [0] rfl ?_
  refine g_iload_n C 0 rfl d_TL_isLetter_0 ?_
  refine g_bipush (v := 97) C rfl d_TL_isLetter_1 ?_
  refine g_icmp_lt C d_TL_isLetter_3 (fun c_1 => ?_) (fun c_1 => ?_)
  · skip
    refine g_iconst (v := 0) C rfl d_TL_isLetter_16 ?_
    exact g_zret C (Or.inl rfl) rfl ⟨congrArg (fun z => some (Value.int z)) (by simp [zb, isL, c_1, Int32.not_le.mpr c_1]), rfl, rfl⟩ (by decide) (by decide) d_TL_isLetter_17
  · skip
    refine g_iload_n C 0 rfl d_TL_isLetter_6 ?_
    refine g_bipush (v := 122) C rfl d_TL_isLetter_7 ?_
    refine g_icmp_gt C d_TL_isLetter_9 (fun c_2 => ?_) (fun c_2 => ?_)
    · skip
      refine g_iconst (v := 0) C rfl d_TL_isLetter_16 ?_
      exact g_zret C (Or.inl rfl) rfl ⟨congrArg (fun z => some (Value.int z)) (by simp [zb, isL, c_1, Int32.not_lt.mp c_1, c_2, Int32.not_le.mpr c_2]), rfl, rfl⟩ (by decide) (by decide) d_TL_isLetter_17
    · skip
      refine g_iconst (v := 1) C rfl d_TL_isLetter_12 ?_
      refine g_goto C d_TL_isLetter_13 ?_
      exact g_zret C (Or.inr rfl) rfl ⟨congrArg (fun z => some (Value.int z)) (by simp [zb, isL, c_1, Int32.not_lt.mp c_1, c_2, Int32.not_lt.mp c_2]), rfl, rfl⟩ (by decide) (by decide) d_TL_isLetter_17

set_option maxHeartbeats 4000000 in
set_option maxRecDepth 100000 in
theorem c_TL_isDigit (l : Launch) (g : Gx) (p0 : Int32) : M0 l g y_TL_isDigit b_TL_isDigit 1 (some FieldType.boolean) ({ frames := 0, cells := 0, slots := 0, locals := 0 }) [.int p0] [] (some (.int (zb (isDg p0)))) [] := by
  refine MP.of (by decide) (Nat.le_of_ble_eq_true rfl) (fun κ C => ?_)
  have C : zC κ l g ({ frames := 0, cells := 0, slots := 0, locals := 0 }) b_TL_isDigit 1 "TombLane" "isDigit" (some FieldType.boolean) _ := C
  refine g_lv (lv1 := [(0, .int p0)]) [0] rfl ?_
  refine g_iload_n C 0 rfl d_TL_isDigit_0 ?_
  refine g_bipush (v := 48) C rfl d_TL_isDigit_1 ?_
  refine g_icmp_lt C d_TL_isDigit_3 (fun c_1 => ?_) (fun c_1 => ?_)
  · skip
    refine g_iconst (v := 0) C rfl d_TL_isDigit_16 ?_
    exact g_zret C (Or.inl rfl) rfl ⟨congrArg (fun z => some (Value.int z)) (by simp [zb, isDg, c_1, Int32.not_le.mpr c_1]), rfl, rfl⟩ (by decide) (by decide) d_TL_isDigit_17
  · skip
    refine g_iload_n C 0 rfl d_TL_isDigit_6 ?_
    refine g_bipush (v := 57) C rfl d_TL_isDigit_7 ?_
    refine g_icmp_gt C d_TL_isDigit_9 (fun c_2 => ?_) (fun c_2 => ?_)
    · skip
      refine g_iconst (v := 0) C rfl d_TL_isDigit_16 ?_
      exact g_zret C (Or.inl rfl) rfl ⟨congrArg (fun z => some (Value.int z)) (by simp [zb, isDg, c_1, Int32.not_lt.mp c_1, c_2, Int32.not_le.mpr c_2]), rfl, rfl⟩ (by decide) (by decide) d_TL_isDigit_17
    · skip
      refine g_iconst (v := 1) C rfl d_TL_isDigit_12 ?_
      refine g_goto C d_TL_isDigit_13 ?_
      exact g_zret C (Or.inr rfl) rfl ⟨congrArg (fun z => some (Value.int z)) (by simp [zb, isDg, c_1, Int32.not_lt.mp c_1, c_2, Int32.not_lt.mp c_2]), rfl, rfl⟩ (by decide) (by decide) d_TL_isDigit_17

set_option maxHeartbeats 4000000 in
set_option maxRecDepth 100000 in
theorem c_TL_reasonOf (l : Launch) (g : Gx) (p0 : Int64) : M0 l g y_TL_reasonOf b_TL_reasonOf 2 (some FieldType.int) ({ frames := 0, cells := 0, slots := 0, locals := 0 }) [.long p0] [] (some (.int (reaC p0))) [] := by
  refine MP.of (by decide) (Nat.le_of_ble_eq_true rfl) (fun κ C => ?_)
  have C : zC κ l g ({ frames := 0, cells := 0, slots := 0, locals := 0 }) b_TL_reasonOf 2 "TombLane" "reasonOf" (some FieldType.int) _ := C
  refine g_lv (lv1 := [(0, .long p0)]) [0] rfl ?_
  refine g_lload_n C 0 rfl d_TL_reasonOf_0 ?_
  refine g_ldc2 C kw_430 d_TL_reasonOf_1 ?_
  refine g_lcmp C d_TL_reasonOf_4 ?_
  refine g_if_ne C d_TL_reasonOf_5 (fun c_1 => ?_) (fun c_1 => ?_)
  · have c_1 : ¬ ((p0 : Int64) = 2003792491) := fun z => c_1 ((lg_cmp_eq _ _).mpr z)
    refine g_lload_n C 0 rfl d_TL_reasonOf_10 ?_
    refine g_ldc2 C kw_431 d_TL_reasonOf_11 ?_
    refine g_lcmp C d_TL_reasonOf_14 ?_
    refine g_if_ne C d_TL_reasonOf_15 (fun c_2 => ?_) (fun c_2 => ?_)
    · have c_2 : ¬ ((p0 : Int64) = 6909036) := fun z => c_2 ((lg_cmp_eq _ _).mpr z)
      refine g_lload_n C 0 rfl d_TL_reasonOf_20 ?_
      refine g_ldc2 C kw_432 d_TL_reasonOf_21 ?_
      refine g_lcmp C d_TL_reasonOf_24 ?_
      refine g_if_ne C d_TL_reasonOf_25 (fun c_3 => ?_) (fun c_3 => ?_)
      · have c_3 : ¬ ((p0 : Int64) = 439787549556) := fun z => c_3 ((lg_cmp_eq _ _).mpr z)
        refine g_lload_n C 0 rfl d_TL_reasonOf_30 ?_
        refine g_ldc2 C kw_433 d_TL_reasonOf_31 ?_
        refine g_lcmp C d_TL_reasonOf_34 ?_
        refine g_if_ne C d_TL_reasonOf_35 (fun c_4 => ?_) (fun c_4 => ?_)
        · have c_4 : ¬ ((p0 : Int64) = 1635213689) := fun z => c_4 ((lg_cmp_eq _ _).mpr z)
          refine g_lload_n C 0 rfl d_TL_reasonOf_40 ?_
          refine g_ldc2 C kw_434 d_TL_reasonOf_41 ?_
          refine g_lcmp C d_TL_reasonOf_44 ?_
          refine g_if_ne C d_TL_reasonOf_45 (fun c_5 => ?_) (fun c_5 => ?_)
          · have c_5 : ¬ ((p0 : Int64) = 431417028203) := fun z => c_5 ((lg_cmp_eq _ _).mpr z)
            refine g_iconst (v := (-1)) C rfl d_TL_reasonOf_52 ?_
            exact g_iret C rfl ⟨congrArg (fun z => some (Value.int z)) (by simp [reaC, c_1, c_2, c_3, c_4, c_5]), rfl, rfl⟩ (by decide) (by decide) d_TL_reasonOf_53
          · have c_5 := (lg_cmp_eq _ _).mp c_5
            refine g_iconst (v := 5) C rfl d_TL_reasonOf_48 ?_
            refine g_goto C d_TL_reasonOf_49 ?_
            exact g_iret C rfl ⟨congrArg (fun z => some (Value.int z)) (by simp [reaC, c_1, c_2, c_3, c_4, eq_true c_5]), rfl, rfl⟩ (by decide) (by decide) d_TL_reasonOf_53
        · have c_4 := (lg_cmp_eq _ _).mp c_4
          refine g_iconst (v := 4) C rfl d_TL_reasonOf_38 ?_
          exact g_iret C rfl ⟨congrArg (fun z => some (Value.int z)) (by simp [reaC, c_1, c_2, c_3, eq_true c_4]), rfl, rfl⟩ (by decide) (by decide) d_TL_reasonOf_39
      · have c_3 := (lg_cmp_eq _ _).mp c_3
        refine g_iconst (v := 3) C rfl d_TL_reasonOf_28 ?_
        exact g_iret C rfl ⟨congrArg (fun z => some (Value.int z)) (by simp [reaC, c_1, c_2, eq_true c_3]), rfl, rfl⟩ (by decide) (by decide) d_TL_reasonOf_29
    · have c_2 := (lg_cmp_eq _ _).mp c_2
      refine g_iconst (v := 2) C rfl d_TL_reasonOf_18 ?_
      exact g_iret C rfl ⟨congrArg (fun z => some (Value.int z)) (by simp [reaC, c_1, eq_true c_2]), rfl, rfl⟩ (by decide) (by decide) d_TL_reasonOf_19
  · have c_1 := (lg_cmp_eq _ _).mp c_1
    refine g_iconst (v := 1) C rfl d_TL_reasonOf_8 ?_
    exact g_iret C rfl ⟨congrArg (fun z => some (Value.int z)) (by simp [reaC, eq_true c_1]), rfl, rfl⟩ (by decide) (by decide) d_TL_reasonOf_9

set_option maxHeartbeats 4000000 in
set_option maxRecDepth 100000 in
theorem c_TL_sideOf (l : Launch) (g : Gx) (p0 : Int64) : M0 l g y_TL_sideOf b_TL_sideOf 2 (some FieldType.int) ({ frames := 0, cells := 0, slots := 0, locals := 0 }) [.long p0] [] (some (.int (sidC p0))) [] := by
  refine MP.of (by decide) (Nat.le_of_ble_eq_true rfl) (fun κ C => ?_)
  have C : zC κ l g ({ frames := 0, cells := 0, slots := 0, locals := 0 }) b_TL_sideOf 2 "TombLane" "sideOf" (some FieldType.int) _ := C
  refine g_lv (lv1 := [(0, .long p0)]) [0] rfl ?_
  refine g_lload_n C 0 rfl d_TL_sideOf_0 ?_
  refine g_ldc2 C kw_425 d_TL_sideOf_1 ?_
  refine g_lcmp C d_TL_sideOf_4 ?_
  refine g_if_ne C d_TL_sideOf_5 (fun c_1 => ?_) (fun c_1 => ?_)
  · have c_1 : ¬ ((p0 : Int64) = 1818584692) := fun z => c_1 ((lg_cmp_eq _ _).mpr z)
    refine g_lload_n C 0 rfl d_TL_sideOf_10 ?_
    refine g_ldc2 C kw_426 d_TL_sideOf_11 ?_
    refine g_lcmp C d_TL_sideOf_14 ?_
    refine g_if_ne C d_TL_sideOf_15 (fun c_2 => ?_) (fun c_2 => ?_)
    · have c_2 : ¬ ((p0 : Int64) = 491394656372) := fun z => c_2 ((lg_cmp_eq _ _).mpr z)
      refine g_iconst (v := (-1)) C rfl d_TL_sideOf_22 ?_
      exact g_iret C rfl ⟨congrArg (fun z => some (Value.int z)) (by simp [sidC, c_1, c_2]), rfl, rfl⟩ (by decide) (by decide) d_TL_sideOf_23
    · have c_2 := (lg_cmp_eq _ _).mp c_2
      refine g_iconst (v := 1) C rfl d_TL_sideOf_18 ?_
      refine g_goto C d_TL_sideOf_19 ?_
      exact g_iret C rfl ⟨congrArg (fun z => some (Value.int z)) (by simp [sidC, c_1, eq_true c_2]), rfl, rfl⟩ (by decide) (by decide) d_TL_sideOf_23
  · have c_1 := (lg_cmp_eq _ _).mp c_1
    refine g_iconst (v := 0) C rfl d_TL_sideOf_8 ?_
    exact g_iret C rfl ⟨congrArg (fun z => some (Value.int z)) (by simp [sidC, eq_true c_1]), rfl, rfl⟩ (by decide) (by decide) d_TL_sideOf_9

set_option maxHeartbeats 4000000 in
set_option maxRecDepth 100000 in
theorem c_TL_isFree (l : Launch) (g : Gx) (p0 : Int64) : M0 l g y_TL_isFree b_TL_isFree 2 (some FieldType.boolean) ({ frames := 1, cells := 0, slots := 0, locals := 21 }) [.long p0] [] (some (.int (zb (freC p0)))) [] := by
  refine MP.of (by decide) (Nat.le_of_ble_eq_true rfl) (fun κ C => ?_)
  have C : zC κ l g ({ frames := 1, cells := 0, slots := 0, locals := 21 }) b_TL_isFree 2 "TombLane" "isFree" (some FieldType.boolean) _ := C
  refine g_lv (lv1 := [(0, .long p0)]) [0] rfl ?_
  refine g_lload_n C 0 rfl d_TL_isFree_0 ?_
  refine g_ldc2 C kw_420 d_TL_isFree_1 ?_
  refine g_lcmp C d_TL_isFree_4 ?_
  refine g_if_eq C d_TL_isFree_5 (fun c_1 => ?_) (fun c_1 => ?_)
  · have c_1 := (lg_cmp_eq _ _).mp c_1
    refine g_iconst (v := 0) C rfl d_TL_isFree_36 ?_
    exact g_zret C (Or.inl rfl) rfl ⟨congrArg (fun z => some (Value.int z)) (by simp [zb, freC, eq_true c_1]), rfl, rfl⟩ (by decide) (by decide) d_TL_isFree_37
  · have c_1 : ¬ ((p0 : Int64) = 6578553) := fun z => c_1 ((lg_cmp_eq _ _).mpr z)
    refine g_lload_n C 0 rfl d_TL_isFree_8 ?_
    refine g_ldc2 C kw_421 d_TL_isFree_9 ?_
    refine g_lcmp C d_TL_isFree_12 ?_
    refine g_if_eq C d_TL_isFree_13 (fun c_2 => ?_) (fun c_2 => ?_)
    · have c_2 := (lg_cmp_eq _ _).mp c_2
      refine g_iconst (v := 0) C rfl d_TL_isFree_36 ?_
      exact g_zret C (Or.inl rfl) rfl ⟨congrArg (fun z => some (Value.int z)) (by simp [zb, freC, c_1, eq_true c_2]), rfl, rfl⟩ (by decide) (by decide) d_TL_isFree_37
    · have c_2 : ¬ ((p0 : Int64) = 512869231475) := fun z => c_2 ((lg_cmp_eq _ _).mpr z)
      refine g_lload_n C 0 rfl d_TL_isFree_16 ?_
      refine g_callS0 (rest := []) (Xn := []) C (c_TL_sideOf l g p0) [] [] [] rfl (by decide) (by decide) rfl mo_TL_sideOf ms_TL_sideOf kw_422 (by decide) rfl (Nat.le_of_ble_eq_true rfl) ⟨Nat.le_of_ble_eq_true rfl, Nat.le_of_ble_eq_true rfl⟩ d_TL_isFree_17 ?_
      refine g_iconst (v := (-1)) C rfl d_TL_isFree_20 ?_
      refine g_icmp_ne C d_TL_isFree_21 (fun c_3 => ?_) (fun c_3 => ?_)
      · skip
        refine g_iconst (v := 0) C rfl d_TL_isFree_36 ?_
        exact g_zret C (Or.inl rfl) rfl ⟨congrArg (fun z => some (Value.int z)) (by simp [zb, freC, c_1, c_2, c_3]), rfl, rfl⟩ (by decide) (by decide) d_TL_isFree_37
      · skip
        refine g_lload_n C 0 rfl d_TL_isFree_24 ?_
        refine g_callS0 (rest := []) (Xn := []) C (c_TL_reasonOf l g p0) [] [] [] rfl (by decide) (by decide) rfl mo_TL_reasonOf ms_TL_reasonOf kw_427 (by decide) rfl (Nat.le_of_ble_eq_true rfl) ⟨Nat.le_of_ble_eq_true rfl, Nat.le_of_ble_eq_true rfl⟩ d_TL_isFree_25 ?_
        refine g_iconst (v := (-1)) C rfl d_TL_isFree_28 ?_
        refine g_icmp_ne C d_TL_isFree_29 (fun c_4 => ?_) (fun c_4 => ?_)
        · skip
          refine g_iconst (v := 0) C rfl d_TL_isFree_36 ?_
          exact g_zret C (Or.inl rfl) rfl ⟨congrArg (fun z => some (Value.int z)) (by simp [zb, freC, c_1, c_2, eq_true c_3, c_4]), rfl, rfl⟩ (by decide) (by decide) d_TL_isFree_37
        · skip
          refine g_iconst (v := 1) C rfl d_TL_isFree_32 ?_
          refine g_goto C d_TL_isFree_33 ?_
          exact g_zret C (Or.inr rfl) rfl ⟨congrArg (fun z => some (Value.int z)) (by simp [zb, freC, c_1, c_2, eq_true c_3, eq_true c_4]), rfl, rfl⟩ (by decide) (by decide) d_TL_isFree_37

set_option maxHeartbeats 4000000 in
set_option maxRecDepth 100000 in
theorem c_Me_has (l : Launch) (g : Gx) (q0 q1 q2 q3 : Nat) (n p0 : Int32) : M0 l g y_Me_has b_Me_has 2 (some FieldType.boolean) ({ frames := 1, cells := 0, slots := 0, locals := 21 }) [.ref q0, .int p0] [(q0, .inr (7, [.ref q1, .ref q2, .ref q3, .int n]))] (some (.int (zb (inB p0 n)))) [(q0, .inr (7, [.ref q1, .ref q2, .ref q3, .int n]))] := by
  refine MP.of (by decide) (Nat.le_of_ble_eq_true rfl) (fun κ C => ?_)
  have C : zC κ l g ({ frames := 1, cells := 0, slots := 0, locals := 21 }) b_Me_has 2 "TombLane$Men" "has" (some FieldType.boolean) _ := C
  refine g_lv (lv1 := [(0, .ref q0), (1, .int p0)]) [0, 1] rfl ?_
  refine g_iload_n C 1 rfl d_Me_has_0 ?_
  refine g_aload_n C 0 rfl d_Me_has_1 ?_
  refine g_get C 0 rfl rfl in_Me 3 (by decide) kw_121 rfl d_Me_has_2 ?_
  refine g_callSN0 (rest := []) (Xn := [(q0, .inr (7, [.ref q1, .ref q2, .ref q3, .int n]))]) C (c_TL_isBelow l g p0 n) [] [0] [0] rfl (by decide) (by decide) rfl mo_TL_isBelow ms_TL_isBelow kw_705 (by decide) rfl (Nat.le_of_ble_eq_true rfl) ⟨Nat.le_of_ble_eq_true rfl, Nat.le_of_ble_eq_true rfl⟩ d_Me_has_5 ?_
  exact g_zret C (zb_or) rfl ⟨rfl, rfl, rfl⟩ (by decide) (by decide) d_Me_has_8

