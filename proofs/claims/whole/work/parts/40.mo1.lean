def reaM (w : Int64) : Int32 := if w = 2003792491 then 1 else if w = 6909036 then 2 else if w = 439787549556 then 3 else if w = 1635213689 then 4 else if w = 431417028203 then 5 else 0
def kepM (w : Int64) : Bool := decide (0 < reaM w ∨ w = 6578553 ∨ w = 1818584692 ∨ w = 491394656372 ∨ w = 512869231475)
def shM (v : Int64) (n : Nat) : Int64 := (Int64.toUInt64 v >>> ((Int32.toInt64 (nI (8 * n))).toUInt64 &&& Int64.toUInt64 63)).toInt64
def bytM (v : Int64) (n : Nat) : Int32 := Int64.toInt32 (shM v n &&& 255)
def lfM (v : Int64) : Nat → Nat → Nat
  | 0, n => n
  | k + 1, n => if shM v n = 0 then n else lfM v k (n + 1)
theorem lfM_le (v : Int64) : ∀ k n, n ≤ lfM v k n ∧ lfM v k n ≤ n + k
  | 0, n => ⟨Nat.le_refl n, Nat.le_refl n⟩
  | k + 1, n => by
    unfold lfM
    split
    · omega
    · have := lfM_le v k (n + 1); omega
def nmM (v : Int64) : Nat → Nat → Bool
  | 0, _ => true
  | k + 1, i => if isL (bytM v i) then nmM v k (i + 1) else false
def isNm (v : Int64) : Bool := decide (nmM v (lfM v 8 0) 0 = true ∧ ¬ v = 0 ∧ ¬ kepM v = true)
set_option maxHeartbeats 4000000 in
set_option maxRecDepth 100000 in
theorem c_Mo_isMan (l : Launch) (g : Gx) (h r0 r1 r2 r5 r6 r16 r17 r18 r19 r20 r21 r22 r23 r25 r27 r28 r29 r30 r31 r33 r34 r35 r36 r37 r38 r39 r40 : Nat) (mn dt tp sz fk fp at1 en tk nu fl wa co db : Int32) (nm : Int64) (p0 : Int32) : M0 l g y_Mo_isMan b_Mo_isMan 2 (some FieldType.boolean) ({ frames := 0, cells := 0, slots := 0, locals := 0 }) [.ref h, .int p0] [(h, .inr (13, [.ref r0, .ref r1, .ref r2, .int mn, .int dt, .ref r5, .ref r6, .int tp, .int sz, .int fk, .int fp, .int at1, .int en, .int tk, .int nu, .long nm, .ref r16, .ref r17, .ref r18, .ref r19, .ref r20, .ref r21, .ref r22, .ref r23, .int fl, .ref r25, .int wa, .ref r27, .ref r28, .ref r29, .ref r30, .ref r31, .int co, .ref r33, .ref r34, .ref r35, .ref r36, .ref r37, .ref r38, .ref r39, .ref r40, .int db]))] (some (.int (zb (inB p0 mn)))) [(h, .inr (13, [.ref r0, .ref r1, .ref r2, .int mn, .int dt, .ref r5, .ref r6, .int tp, .int sz, .int fk, .int fp, .int at1, .int en, .int tk, .int nu, .long nm, .ref r16, .ref r17, .ref r18, .ref r19, .ref r20, .ref r21, .ref r22, .ref r23, .int fl, .ref r25, .int wa, .ref r27, .ref r28, .ref r29, .ref r30, .ref r31, .int co, .ref r33, .ref r34, .ref r35, .ref r36, .ref r37, .ref r38, .ref r39, .ref r40, .int db]))] := by
  refine MP.of (by decide) (Nat.le_of_ble_eq_true rfl) (fun κ C => ?_)
  have C : zC κ l g ({ frames := 0, cells := 0, slots := 0, locals := 0 }) b_Mo_isMan 2 "TombLaneModel" "isMan" (some FieldType.boolean) _ := C
  refine g_lv (lv1 := [(0, .ref h), (1, .int p0)]) [0, 1] rfl ?_
  refine g_iload_n C 1 rfl d_Mo_isMan_0 ?_
  refine g_if_lt C d_Mo_isMan_1 (fun c_1 => ?_) (fun c_1 => ?_)
  · skip
    refine g_iconst (v := 0) C rfl d_Mo_isMan_16 ?_
    exact g_zret C (Or.inl rfl) rfl ⟨congrArg (fun z => some (Value.int z)) (by simp [zb, inB, c_1, Int32.not_le.mpr c_1]), rfl, rfl⟩ (by decide) (by decide) d_Mo_isMan_17
  · skip
    refine g_iload_n C 1 rfl d_Mo_isMan_4 ?_
    refine g_aload_n C 0 rfl d_Mo_isMan_5 ?_
    refine g_get C 0 rfl rfl in_Mo 3 (by decide) kw_1023 rfl d_Mo_isMan_6 ?_
    refine g_icmp_ge C d_Mo_isMan_9 (fun c_2 => ?_) (fun c_2 => ?_)
    · skip
      refine g_iconst (v := 0) C rfl d_Mo_isMan_16 ?_
      exact g_zret C (Or.inl rfl) rfl ⟨congrArg (fun z => some (Value.int z)) (by simp [zb, inB, c_1, Int32.not_lt.mp c_1, c_2, Int32.not_lt.mpr c_2]), rfl, rfl⟩ (by decide) (by decide) d_Mo_isMan_17
    · skip
      refine g_iconst (v := 1) C rfl d_Mo_isMan_12 ?_
      refine g_goto C d_Mo_isMan_13 ?_
      exact g_zret C (Or.inr rfl) rfl ⟨congrArg (fun z => some (Value.int z)) (by simp [zb, inB, c_1, Int32.not_lt.mp c_1, c_2, Int32.not_le.mp c_2]), rfl, rfl⟩ (by decide) (by decide) d_Mo_isMan_17

set_option maxHeartbeats 4000000 in
set_option maxRecDepth 100000 in
theorem c_Mo_isLetter (l : Launch) (g : Gx) (p0 : Int32) : M0 l g y_Mo_isLetter b_Mo_isLetter 1 (some FieldType.boolean) ({ frames := 0, cells := 0, slots := 0, locals := 0 }) [.int p0] [] (some (.int (zb (isL p0)))) [] := by
  refine MP.of (by decide) (Nat.le_of_ble_eq_true rfl) (fun κ C => ?_)
  have C : zC κ l g ({ frames := 0, cells := 0, slots := 0, locals := 0 }) b_Mo_isLetter 1 "TombLaneModel" "isLetter" (some FieldType.boolean) _ := C
  refine g_lv (lv1 := [(0, .int p0)]) [0] rfl ?_
  refine g_iload_n C 0 rfl d_Mo_isLetter_0 ?_
  refine g_bipush (v := 97) C rfl d_Mo_isLetter_1 ?_
  refine g_icmp_lt C d_Mo_isLetter_3 (fun c_1 => ?_) (fun c_1 => ?_)
  · skip
    refine g_iconst (v := 0) C rfl d_Mo_isLetter_16 ?_
    exact g_zret C (Or.inl rfl) rfl ⟨congrArg (fun z => some (Value.int z)) (by simp [zb, isL, c_1, Int32.not_le.mpr c_1]), rfl, rfl⟩ (by decide) (by decide) d_Mo_isLetter_17
  · skip
    refine g_iload_n C 0 rfl d_Mo_isLetter_6 ?_
    refine g_bipush (v := 122) C rfl d_Mo_isLetter_7 ?_
    refine g_icmp_gt C d_Mo_isLetter_9 (fun c_2 => ?_) (fun c_2 => ?_)
    · skip
      refine g_iconst (v := 0) C rfl d_Mo_isLetter_16 ?_
      exact g_zret C (Or.inl rfl) rfl ⟨congrArg (fun z => some (Value.int z)) (by simp [zb, isL, c_1, Int32.not_lt.mp c_1, c_2, Int32.not_le.mpr c_2]), rfl, rfl⟩ (by decide) (by decide) d_Mo_isLetter_17
    · skip
      refine g_iconst (v := 1) C rfl d_Mo_isLetter_12 ?_
      refine g_goto C d_Mo_isLetter_13 ?_
      exact g_zret C (Or.inr rfl) rfl ⟨congrArg (fun z => some (Value.int z)) (by simp [zb, isL, c_1, Int32.not_lt.mp c_1, c_2, Int32.not_lt.mp c_2]), rfl, rfl⟩ (by decide) (by decide) d_Mo_isLetter_17

set_option maxHeartbeats 4000000 in
set_option maxRecDepth 100000 in
theorem c_Mo_isDigit (l : Launch) (g : Gx) (p0 : Int32) : M0 l g y_Mo_isDigit b_Mo_isDigit 1 (some FieldType.boolean) ({ frames := 0, cells := 0, slots := 0, locals := 0 }) [.int p0] [] (some (.int (zb (isDg p0)))) [] := by
  refine MP.of (by decide) (Nat.le_of_ble_eq_true rfl) (fun κ C => ?_)
  have C : zC κ l g ({ frames := 0, cells := 0, slots := 0, locals := 0 }) b_Mo_isDigit 1 "TombLaneModel" "isDigit" (some FieldType.boolean) _ := C
  refine g_lv (lv1 := [(0, .int p0)]) [0] rfl ?_
  refine g_iload_n C 0 rfl d_Mo_isDigit_0 ?_
  refine g_bipush (v := 48) C rfl d_Mo_isDigit_1 ?_
  refine g_icmp_lt C d_Mo_isDigit_3 (fun c_1 => ?_) (fun c_1 => ?_)
  · skip
    refine g_iconst (v := 0) C rfl d_Mo_isDigit_16 ?_
    exact g_zret C (Or.inl rfl) rfl ⟨congrArg (fun z => some (Value.int z)) (by simp [zb, isDg, c_1, Int32.not_le.mpr c_1]), rfl, rfl⟩ (by decide) (by decide) d_Mo_isDigit_17
  · skip
    refine g_iload_n C 0 rfl d_Mo_isDigit_6 ?_
    refine g_bipush (v := 57) C rfl d_Mo_isDigit_7 ?_
    refine g_icmp_gt C d_Mo_isDigit_9 (fun c_2 => ?_) (fun c_2 => ?_)
    · skip
      refine g_iconst (v := 0) C rfl d_Mo_isDigit_16 ?_
      exact g_zret C (Or.inl rfl) rfl ⟨congrArg (fun z => some (Value.int z)) (by simp [zb, isDg, c_1, Int32.not_lt.mp c_1, c_2, Int32.not_le.mpr c_2]), rfl, rfl⟩ (by decide) (by decide) d_Mo_isDigit_17
    · skip
      refine g_iconst (v := 1) C rfl d_Mo_isDigit_12 ?_
      refine g_goto C d_Mo_isDigit_13 ?_
      exact g_zret C (Or.inr rfl) rfl ⟨congrArg (fun z => some (Value.int z)) (by simp [zb, isDg, c_1, Int32.not_lt.mp c_1, c_2, Int32.not_lt.mp c_2]), rfl, rfl⟩ (by decide) (by decide) d_Mo_isDigit_17

set_option maxHeartbeats 4000000 in
set_option maxRecDepth 100000 in
theorem c_Mo_isDay (l : Launch) (g : Gx) (p0 : Int32) : M0 l g y_Mo_isDay b_Mo_isDay 1 (some FieldType.boolean) ({ frames := 0, cells := 0, slots := 0, locals := 0 }) [.int p0] [] (some (.int (zb (inB p0 3600)))) [] := by
  refine MP.of (by decide) (Nat.le_of_ble_eq_true rfl) (fun κ C => ?_)
  have C : zC κ l g ({ frames := 0, cells := 0, slots := 0, locals := 0 }) b_Mo_isDay 1 "TombLaneModel" "isDay" (some FieldType.boolean) _ := C
  refine g_lv (lv1 := [(0, .int p0)]) [0] rfl ?_
  refine g_iload_n C 0 rfl d_Mo_isDay_0 ?_
  refine g_if_lt C d_Mo_isDay_1 (fun c_1 => ?_) (fun c_1 => ?_)
  · skip
    refine g_iconst (v := 0) C rfl d_Mo_isDay_15 ?_
    exact g_zret C (Or.inl rfl) rfl ⟨congrArg (fun z => some (Value.int z)) (by simp [zb, inB, c_1, Int32.not_le.mpr c_1]), rfl, rfl⟩ (by decide) (by decide) d_Mo_isDay_16
  · skip
    refine g_iload_n C 0 rfl d_Mo_isDay_4 ?_
    refine g_sipush (v := 3600) C rfl d_Mo_isDay_5 ?_
    refine g_icmp_ge C d_Mo_isDay_8 (fun c_2 => ?_) (fun c_2 => ?_)
    · skip
      refine g_iconst (v := 0) C rfl d_Mo_isDay_15 ?_
      exact g_zret C (Or.inl rfl) rfl ⟨congrArg (fun z => some (Value.int z)) (by simp [zb, inB, c_1, Int32.not_lt.mp c_1, c_2, Int32.not_lt.mpr c_2]), rfl, rfl⟩ (by decide) (by decide) d_Mo_isDay_16
    · skip
      refine g_iconst (v := 1) C rfl d_Mo_isDay_11 ?_
      refine g_goto C d_Mo_isDay_12 ?_
      exact g_zret C (Or.inr rfl) rfl ⟨congrArg (fun z => some (Value.int z)) (by simp [zb, inB, c_1, Int32.not_lt.mp c_1, c_2, Int32.not_le.mp c_2]), rfl, rfl⟩ (by decide) (by decide) d_Mo_isDay_16

set_option maxHeartbeats 4000000 in
set_option maxRecDepth 100000 in
theorem c_Mo_isMonth (l : Launch) (g : Gx) (p0 : Int32) : M0 l g y_Mo_isMonth b_Mo_isMonth 1 (some FieldType.boolean) ({ frames := 0, cells := 0, slots := 0, locals := 0 }) [.int p0] [] (some (.int (zb (inB p0 120)))) [] := by
  refine MP.of (by decide) (Nat.le_of_ble_eq_true rfl) (fun κ C => ?_)
  have C : zC κ l g ({ frames := 0, cells := 0, slots := 0, locals := 0 }) b_Mo_isMonth 1 "TombLaneModel" "isMonth" (some FieldType.boolean) _ := C
  refine g_lv (lv1 := [(0, .int p0)]) [0] rfl ?_
  refine g_iload_n C 0 rfl d_Mo_isMonth_0 ?_
  refine g_if_lt C d_Mo_isMonth_1 (fun c_1 => ?_) (fun c_1 => ?_)
  · skip
    refine g_iconst (v := 0) C rfl d_Mo_isMonth_14 ?_
    exact g_zret C (Or.inl rfl) rfl ⟨congrArg (fun z => some (Value.int z)) (by simp [zb, inB, c_1, Int32.not_le.mpr c_1]), rfl, rfl⟩ (by decide) (by decide) d_Mo_isMonth_15
  · skip
    refine g_iload_n C 0 rfl d_Mo_isMonth_4 ?_
    refine g_bipush (v := 120) C rfl d_Mo_isMonth_5 ?_
    refine g_icmp_ge C d_Mo_isMonth_7 (fun c_2 => ?_) (fun c_2 => ?_)
    · skip
      refine g_iconst (v := 0) C rfl d_Mo_isMonth_14 ?_
      exact g_zret C (Or.inl rfl) rfl ⟨congrArg (fun z => some (Value.int z)) (by simp [zb, inB, c_1, Int32.not_lt.mp c_1, c_2, Int32.not_lt.mpr c_2]), rfl, rfl⟩ (by decide) (by decide) d_Mo_isMonth_15
    · skip
      refine g_iconst (v := 1) C rfl d_Mo_isMonth_10 ?_
      refine g_goto C d_Mo_isMonth_11 ?_
      exact g_zret C (Or.inr rfl) rfl ⟨congrArg (fun z => some (Value.int z)) (by simp [zb, inB, c_1, Int32.not_lt.mp c_1, c_2, Int32.not_le.mp c_2]), rfl, rfl⟩ (by decide) (by decide) d_Mo_isMonth_15

set_option maxHeartbeats 4000000 in
set_option maxRecDepth 100000 in
theorem c_Mo_reasonOf (l : Launch) (g : Gx) (p0 : Int64) : M0 l g y_Mo_reasonOf b_Mo_reasonOf 2 (some FieldType.int) ({ frames := 0, cells := 0, slots := 0, locals := 0 }) [.long p0] [] (some (.int (reaM p0))) [] := by
  refine MP.of (by decide) (Nat.le_of_ble_eq_true rfl) (fun κ C => ?_)
  have C : zC κ l g ({ frames := 0, cells := 0, slots := 0, locals := 0 }) b_Mo_reasonOf 2 "TombLaneModel" "reasonOf" (some FieldType.int) _ := C
  refine g_lv (lv1 := [(0, .long p0)]) [0] rfl ?_
  refine g_lload_n C 0 rfl d_Mo_reasonOf_0 ?_
  refine g_ldc2 C kw_884 d_Mo_reasonOf_1 ?_
  refine g_lcmp C d_Mo_reasonOf_4 ?_
  refine g_if_ne C d_Mo_reasonOf_5 (fun c_1 => ?_) (fun c_1 => ?_)
  · have c_1 : ¬ ((p0 : Int64) = 2003792491) := fun z => c_1 ((lg_cmp_eq _ _).mpr z)
    refine g_lload_n C 0 rfl d_Mo_reasonOf_12 ?_
    refine g_ldc2 C kw_885 d_Mo_reasonOf_13 ?_
    refine g_lcmp C d_Mo_reasonOf_16 ?_
    refine g_if_ne C d_Mo_reasonOf_17 (fun c_2 => ?_) (fun c_2 => ?_)
    · have c_2 : ¬ ((p0 : Int64) = 6909036) := fun z => c_2 ((lg_cmp_eq _ _).mpr z)
      refine g_lload_n C 0 rfl d_Mo_reasonOf_24 ?_
      refine g_ldc2 C kw_886 d_Mo_reasonOf_25 ?_
      refine g_lcmp C d_Mo_reasonOf_28 ?_
      refine g_if_ne C d_Mo_reasonOf_29 (fun c_3 => ?_) (fun c_3 => ?_)
      · have c_3 : ¬ ((p0 : Int64) = 439787549556) := fun z => c_3 ((lg_cmp_eq _ _).mpr z)
        refine g_lload_n C 0 rfl d_Mo_reasonOf_36 ?_
        refine g_ldc2 C kw_887 d_Mo_reasonOf_37 ?_
        refine g_lcmp C d_Mo_reasonOf_40 ?_
        refine g_if_ne C d_Mo_reasonOf_41 (fun c_4 => ?_) (fun c_4 => ?_)
        · have c_4 : ¬ ((p0 : Int64) = 1635213689) := fun z => c_4 ((lg_cmp_eq _ _).mpr z)
          refine g_lload_n C 0 rfl d_Mo_reasonOf_48 ?_
          refine g_ldc2 C kw_888 d_Mo_reasonOf_49 ?_
          refine g_lcmp C d_Mo_reasonOf_52 ?_
          refine g_if_ne C d_Mo_reasonOf_53 (fun c_5 => ?_) (fun c_5 => ?_)
          · have c_5 : ¬ ((p0 : Int64) = 431417028203) := fun z => c_5 ((lg_cmp_eq _ _).mpr z)
            refine g_iconst (v := 0) C rfl d_Mo_reasonOf_60 ?_
            exact g_iret C rfl ⟨congrArg (fun z => some (Value.int z)) (by simp [reaM, c_1, c_2, c_3, c_4, c_5]), rfl, rfl⟩ (by decide) (by decide) d_Mo_reasonOf_61
          · have c_5 := (lg_cmp_eq _ _).mp c_5
            refine g_iconst (v := 5) C rfl d_Mo_reasonOf_56 ?_
            refine g_goto C d_Mo_reasonOf_57 ?_
            exact g_iret C rfl ⟨congrArg (fun z => some (Value.int z)) (by simp [reaM, c_1, c_2, c_3, c_4, eq_true c_5]), rfl, rfl⟩ (by decide) (by decide) d_Mo_reasonOf_61
        · have c_4 := (lg_cmp_eq _ _).mp c_4
          refine g_iconst (v := 4) C rfl d_Mo_reasonOf_44 ?_
          refine g_goto C d_Mo_reasonOf_45 ?_
          exact g_iret C rfl ⟨congrArg (fun z => some (Value.int z)) (by simp [reaM, c_1, c_2, c_3, eq_true c_4]), rfl, rfl⟩ (by decide) (by decide) d_Mo_reasonOf_61
      · have c_3 := (lg_cmp_eq _ _).mp c_3
        refine g_iconst (v := 3) C rfl d_Mo_reasonOf_32 ?_
        refine g_goto C d_Mo_reasonOf_33 ?_
        exact g_iret C rfl ⟨congrArg (fun z => some (Value.int z)) (by simp [reaM, c_1, c_2, eq_true c_3]), rfl, rfl⟩ (by decide) (by decide) d_Mo_reasonOf_61
    · have c_2 := (lg_cmp_eq _ _).mp c_2
      refine g_iconst (v := 2) C rfl d_Mo_reasonOf_20 ?_
      refine g_goto C d_Mo_reasonOf_21 ?_
      exact g_iret C rfl ⟨congrArg (fun z => some (Value.int z)) (by simp [reaM, c_1, eq_true c_2]), rfl, rfl⟩ (by decide) (by decide) d_Mo_reasonOf_61
  · have c_1 := (lg_cmp_eq _ _).mp c_1
    refine g_iconst (v := 1) C rfl d_Mo_reasonOf_8 ?_
    refine g_goto C d_Mo_reasonOf_9 ?_
    exact g_iret C rfl ⟨congrArg (fun z => some (Value.int z)) (by simp [reaM, eq_true c_1]), rfl, rfl⟩ (by decide) (by decide) d_Mo_reasonOf_61

set_option maxHeartbeats 4000000 in
set_option maxRecDepth 100000 in
theorem c_Mo_isKept (l : Launch) (g : Gx) (p0 : Int64) : M0 l g y_Mo_isKept b_Mo_isKept 2 (some FieldType.boolean) ({ frames := 1, cells := 0, slots := 0, locals := 21 }) [.long p0] [] (some (.int (zb (kepM p0)))) [] := by
  refine MP.of (by decide) (Nat.le_of_ble_eq_true rfl) (fun κ C => ?_)
  have C : zC κ l g ({ frames := 1, cells := 0, slots := 0, locals := 21 }) b_Mo_isKept 2 "TombLaneModel" "isKept" (some FieldType.boolean) _ := C
  refine g_lv (lv1 := [(0, .long p0)]) [0] rfl ?_
  refine g_lload_n C 0 rfl d_Mo_isKept_0 ?_
  refine g_callS0 (rest := []) (Xn := []) C (c_Mo_reasonOf l g p0) [] [] [] rfl (by decide) (by decide) rfl mo_Mo_reasonOf ms_Mo_reasonOf kw_881 (by decide) rfl (Nat.le_of_ble_eq_true rfl) ⟨Nat.le_of_ble_eq_true rfl, Nat.le_of_ble_eq_true rfl⟩ d_Mo_isKept_1 ?_
  refine g_if_gt C d_Mo_isKept_4 (fun c_1 => ?_) (fun c_1 => ?_)
  · skip
    refine g_iconst (v := 1) C rfl d_Mo_isKept_39 ?_
    refine g_goto C d_Mo_isKept_40 ?_
    exact g_zret C (Or.inr rfl) rfl ⟨congrArg (fun z => some (Value.int z)) (by simp [zb, kepM, c_1, Int32.not_le.mpr c_1]), rfl, rfl⟩ (by decide) (by decide) d_Mo_isKept_44
  · skip
    refine g_lload_n C 0 rfl d_Mo_isKept_7 ?_
    refine g_ldc2 C kw_889 d_Mo_isKept_8 ?_
    refine g_lcmp C d_Mo_isKept_11 ?_
    refine g_if_eq C d_Mo_isKept_12 (fun c_2 => ?_) (fun c_2 => ?_)
    · have c_2 := (lg_cmp_eq _ _).mp c_2
      refine g_iconst (v := 1) C rfl d_Mo_isKept_39 ?_
      refine g_goto C d_Mo_isKept_40 ?_
      exact g_zret C (Or.inr rfl) rfl ⟨congrArg (fun z => some (Value.int z)) (by simp [zb, kepM, c_1, Int32.not_lt.mp c_1, eq_true c_2]), rfl, rfl⟩ (by decide) (by decide) d_Mo_isKept_44
    · have c_2 : ¬ ((p0 : Int64) = 6578553) := fun z => c_2 ((lg_cmp_eq _ _).mpr z)
      refine g_lload_n C 0 rfl d_Mo_isKept_15 ?_
      refine g_ldc2 C kw_890 d_Mo_isKept_16 ?_
      refine g_lcmp C d_Mo_isKept_19 ?_
      refine g_if_eq C d_Mo_isKept_20 (fun c_3 => ?_) (fun c_3 => ?_)
      · have c_3 := (lg_cmp_eq _ _).mp c_3
        refine g_iconst (v := 1) C rfl d_Mo_isKept_39 ?_
        refine g_goto C d_Mo_isKept_40 ?_
        exact g_zret C (Or.inr rfl) rfl ⟨congrArg (fun z => some (Value.int z)) (by simp [zb, kepM, c_1, Int32.not_lt.mp c_1, c_2, eq_true c_3]), rfl, rfl⟩ (by decide) (by decide) d_Mo_isKept_44
      · have c_3 : ¬ ((p0 : Int64) = 1818584692) := fun z => c_3 ((lg_cmp_eq _ _).mpr z)
        refine g_lload_n C 0 rfl d_Mo_isKept_23 ?_
        refine g_ldc2 C kw_891 d_Mo_isKept_24 ?_
        refine g_lcmp C d_Mo_isKept_27 ?_
        refine g_if_eq C d_Mo_isKept_28 (fun c_4 => ?_) (fun c_4 => ?_)
        · have c_4 := (lg_cmp_eq _ _).mp c_4
          refine g_iconst (v := 1) C rfl d_Mo_isKept_39 ?_
          refine g_goto C d_Mo_isKept_40 ?_
          exact g_zret C (Or.inr rfl) rfl ⟨congrArg (fun z => some (Value.int z)) (by simp [zb, kepM, c_1, Int32.not_lt.mp c_1, c_2, c_3, eq_true c_4]), rfl, rfl⟩ (by decide) (by decide) d_Mo_isKept_44
        · have c_4 : ¬ ((p0 : Int64) = 491394656372) := fun z => c_4 ((lg_cmp_eq _ _).mpr z)
          refine g_lload_n C 0 rfl d_Mo_isKept_31 ?_
          refine g_ldc2 C kw_892 d_Mo_isKept_32 ?_
          refine g_lcmp C d_Mo_isKept_35 ?_
          refine g_if_ne C d_Mo_isKept_36 (fun c_5 => ?_) (fun c_5 => ?_)
          · have c_5 : ¬ ((p0 : Int64) = 512869231475) := fun z => c_5 ((lg_cmp_eq _ _).mpr z)
            refine g_iconst (v := 0) C rfl d_Mo_isKept_43 ?_
            exact g_zret C (Or.inl rfl) rfl ⟨congrArg (fun z => some (Value.int z)) (by simp [zb, kepM, c_1, Int32.not_lt.mp c_1, c_2, c_3, c_4, c_5]), rfl, rfl⟩ (by decide) (by decide) d_Mo_isKept_44
          · have c_5 := (lg_cmp_eq _ _).mp c_5
            refine g_iconst (v := 1) C rfl d_Mo_isKept_39 ?_
            refine g_goto C d_Mo_isKept_40 ?_
            exact g_zret C (Or.inr rfl) rfl ⟨congrArg (fun z => some (Value.int z)) (by simp [zb, kepM, c_1, Int32.not_lt.mp c_1, c_2, c_3, c_4, eq_true c_5]), rfl, rfl⟩ (by decide) (by decide) d_Mo_isKept_44

set_option maxHeartbeats 4000000 in
set_option maxRecDepth 100000 in
theorem lp_Mo_lettersOf (l : Launch) (g : Gx) {κ : Kx} {E : Ex} {P : va_W} (v : Int64) (C : zC κ l g ({ frames := 0, cells := 0, slots := 0, locals := 0 }) b_Mo_lettersOf 3 "TombLaneModel" "lettersOf" (some FieldType.int) E) : ∀ (k : Nat) (n : Nat), (n + k = 8) → (E (some (.int (nI (lfM v k n)))) [] P) → G κ 3 0 0 2 [(0, .long v), (2, .int (nI n))] [] [] P := by
  intro k
  induction k with
  | zero =>
    intro n hn hE
    refine g_iload_n C 1 rfl d_Mo_lettersOf_2 ?_
    refine g_bipush (v := 8) C rfl d_Mo_lettersOf_3 ?_
    refine g_icmp_ge C d_Mo_lettersOf_5 (fun _ => ?_) (fun c_1 => absurd (nI_le (a := 8) (by omega) (by omega)) c_1)
    refine g_iload_n C 1 rfl d_Mo_lettersOf_25 ?_
    exact g_iret C rfl (by simpa [lfM] using hE) (by decide) (by decide) d_Mo_lettersOf_26
  | succ k ih =>
    intro n hn hE
    refine g_iload_n C 1 rfl d_Mo_lettersOf_2 ?_
    refine g_bipush (v := 8) C rfl d_Mo_lettersOf_3 ?_
    refine g_icmp_ge C d_Mo_lettersOf_5 (fun c_1 => absurd c_1 (nI_ge (b := 8) (by omega) (by decide))) (fun _ => ?_)
    refine g_lload_n C 0 rfl d_Mo_lettersOf_8 ?_
    refine g_bipush (v := 8) C rfl d_Mo_lettersOf_9 ?_
    refine g_iload_n C 1 rfl d_Mo_lettersOf_11 ?_
    refine g_imul C d_Mo_lettersOf_12 ?_
    refine g_eq (st1 := [.int (nI (8 * n)), .long v]) (congrArg (fun z => Value.int z :: [.long v]) (pk_mul 8 n)) rfl ?_
    refine g_lushr (v := (Int64.toUInt64 v >>> ((Int32.toInt64 (nI (8 * n))).toUInt64 &&& Int64.toUInt64 63)).toInt64) C rfl d_Mo_lettersOf_13 ?_
    refine g_eq (st1 := [.long (shM v n)]) (congrArg (fun z => Value.long z :: []) rfl) rfl ?_
    refine g_lconst (v := 0) C rfl d_Mo_lettersOf_14 ?_
    refine g_lcmp C d_Mo_lettersOf_15 ?_
    refine g_if_eq C d_Mo_lettersOf_16 (fun c_2 => ?_) (fun c_2 => ?_)
    · have c_2 := (lg_cmp_eq _ _).mp c_2
      refine g_iload_n C 1 rfl d_Mo_lettersOf_25 ?_
      exact g_iret C rfl (by simpa [lfM, eq_true c_2] using hE) (by decide) (by decide) d_Mo_lettersOf_26
    · have c_2 : ¬ ((shM v n : Int64) = 0) := fun z => c_2 ((lg_cmp_eq _ _).mpr z)
      refine g_iinc (v := nI (n + 1)) (lv1 := [(0, .long v), (2, .int (nI (n + 1)))]) C d_Mo_lettersOf_19 1 rfl (nI_1 _) [1, 0] (by decide) rfl ?_
      refine g_goto C d_Mo_lettersOf_22 ?_
      exact ih (n + 1) (by omega) (by simpa [lfM, c_2] using hE)

set_option maxHeartbeats 4000000 in
set_option maxRecDepth 100000 in
theorem c_Mo_lettersOf (l : Launch) (g : Gx) (v : Int64) : M0 l g y_Mo_lettersOf b_Mo_lettersOf 3 (some FieldType.int) ({ frames := 0, cells := 0, slots := 0, locals := 0 }) [.long v] [] (some (.int (nI (lfM v 8 0)))) [] := by
  refine MP.of (by decide) (Nat.le_of_ble_eq_true rfl) (fun κ C => ?_)
  have C : zC κ l g ({ frames := 0, cells := 0, slots := 0, locals := 0 }) b_Mo_lettersOf 3 "TombLaneModel" "lettersOf" (some FieldType.int) _ := C
  refine g_lv (lv1 := [(0, .long v)]) [0] rfl ?_
  refine g_iconst (v := 0) C rfl d_Mo_lettersOf_0 ?_
  refine g_istore_n (lv1 := [(0, .long v), (2, .int 0)]) C d_Mo_lettersOf_1 [1, 0] (by decide) rfl ?_
  exact lp_Mo_lettersOf l g v C 8 0 (by omega) ⟨rfl, rfl, rfl⟩

set_option maxHeartbeats 4000000 in
set_option maxRecDepth 100000 in
theorem lp_Mo_isName (l : Launch) (g : Gx) {κ : Kx} {E : Ex} {P : va_W} (v : Int64) (C : zC κ l g ({ frames := 2, cells := 0, slots := 0, locals := 42 }) b_Mo_isName 3 "TombLaneModel" "isName" (some FieldType.boolean) E) : ∀ (k : Nat) (n : Nat), (n + k = lfM v 8 0) → (E (some (.int (zb (decide (nmM v k n = true ∧ ¬ v = 0 ∧ ¬ kepM v = true) = true)))) [] P) → G κ 3 0 0 2 [(0, .long v), (2, .int (nI n))] [] [] P := by
  intro k
  induction k with
  | zero =>
    intro n hn hE
    have hl8 := lfM_le v 8 0
    refine g_iload_n C 1 rfl d_Mo_isName_2 ?_
    refine g_lload_n C 0 rfl d_Mo_isName_3 ?_
    refine g_callS0 (rest := [.int (nI n)]) (Xn := []) C (c_Mo_lettersOf l g v) [] [] [] rfl (by decide) (by decide) rfl mo_Mo_lettersOf ms_Mo_lettersOf kw_871 (by decide) rfl (Nat.le_of_ble_eq_true rfl) ⟨Nat.le_of_ble_eq_true rfl, Nat.le_of_ble_eq_true rfl⟩ d_Mo_isName_4 ?_
    refine g_icmp_ge C d_Mo_isName_7 (fun _ => ?_) (fun c_1 => absurd (nI_le (by omega) (by omega)) c_1)
    refine g_lload_n C 0 rfl d_Mo_isName_35 ?_
    refine g_lconst (v := 0) C rfl d_Mo_isName_36 ?_
    refine g_lcmp C d_Mo_isName_37 ?_
    refine g_if_eq C d_Mo_isName_38 (fun c_2 => ?_) (fun c_2 => ?_)
    · have c_2 := (lg_cmp_eq _ _).mp c_2
      refine g_iconst (v := 0) C rfl d_Mo_isName_52 ?_
      exact g_zret C (Or.inl rfl) rfl (by simpa [nmM, zb, eq_true c_2] using hE) (by decide) (by decide) d_Mo_isName_53
    · have c_2 : ¬ ((v : Int64) = 0) := fun z => c_2 ((lg_cmp_eq _ _).mpr z)
      refine g_lload_n C 0 rfl d_Mo_isName_41 ?_
      refine g_callS0 (rest := []) (Xn := []) C (c_Mo_isKept l g v) [] [] [] rfl (by decide) (by decide) rfl mo_Mo_isKept ms_Mo_isKept kw_878 (by decide) rfl (Nat.le_of_ble_eq_true rfl) ⟨Nat.le_of_ble_eq_true rfl, Nat.le_of_ble_eq_true rfl⟩ d_Mo_isName_42 ?_
      refine g_if_ne C d_Mo_isName_45 (fun c_3 => ?_) (fun c_3 => ?_)
      · have c_3 := zb_n0.mp c_3
        refine g_iconst (v := 0) C rfl d_Mo_isName_52 ?_
        exact g_zret C (Or.inl rfl) rfl (by simpa [nmM, zb, c_2, c_3] using hE) (by decide) (by decide) d_Mo_isName_53
      · have c_3 := zb_0.mp c_3
        refine g_iconst (v := 1) C rfl d_Mo_isName_48 ?_
        refine g_goto C d_Mo_isName_49 ?_
        exact g_zret C (Or.inr rfl) rfl (by simpa [nmM, zb, c_2, c_3] using hE) (by decide) (by decide) d_Mo_isName_53
  | succ k ih =>
    intro n hn hE
    have hl8 := lfM_le v 8 0
    refine g_iload_n C 1 rfl d_Mo_isName_2 ?_
    refine g_lload_n C 0 rfl d_Mo_isName_3 ?_
    refine g_callS0 (rest := [.int (nI n)]) (Xn := []) C (c_Mo_lettersOf l g v) [] [] [] rfl (by decide) (by decide) rfl mo_Mo_lettersOf ms_Mo_lettersOf kw_871 (by decide) rfl (Nat.le_of_ble_eq_true rfl) ⟨Nat.le_of_ble_eq_true rfl, Nat.le_of_ble_eq_true rfl⟩ d_Mo_isName_4 ?_
    refine g_icmp_ge C d_Mo_isName_7 (fun c_1 => absurd c_1 (nI_ge (by omega) (by omega))) (fun _ => ?_)
    refine g_lload_n C 0 rfl d_Mo_isName_10 ?_
    refine g_bipush (v := 8) C rfl d_Mo_isName_11 ?_
    refine g_iload_n C 1 rfl d_Mo_isName_13 ?_
    refine g_imul C d_Mo_isName_14 ?_
    refine g_eq (st1 := [.int (nI (8 * n)), .long v]) (congrArg (fun z => Value.int z :: [.long v]) (pk_mul 8 n)) rfl ?_
    refine g_lushr (v := (Int64.toUInt64 v >>> ((Int32.toInt64 (nI (8 * n))).toUInt64 &&& Int64.toUInt64 63)).toInt64) C rfl d_Mo_isName_15 ?_
    refine g_eq (st1 := [.long (shM v n)]) (congrArg (fun z => Value.long z :: []) rfl) rfl ?_
    refine g_ldc2 C kw_874 d_Mo_isName_16 ?_
    refine g_land C d_Mo_isName_19 ?_
    refine g_l2i C d_Mo_isName_20 ?_
    refine g_eq (st1 := [.int (bytM v n)]) (congrArg (fun z => Value.int z :: []) rfl) rfl ?_
    refine g_callS0 (rest := []) (Xn := []) C (c_Mo_isLetter l g (bytM v n)) [] [] [] rfl (by decide) (by decide) rfl mo_Mo_isLetter ms_Mo_isLetter kw_875 (by decide) rfl (Nat.le_of_ble_eq_true rfl) ⟨Nat.le_of_ble_eq_true rfl, Nat.le_of_ble_eq_true rfl⟩ d_Mo_isName_21 ?_
    refine g_if_ne C d_Mo_isName_24 (fun c_2 => ?_) (fun c_2 => ?_)
    · have c_2 := zb_n0.mp c_2
      refine g_iinc (v := nI (n + 1)) (lv1 := [(0, .long v), (2, .int (nI (n + 1)))]) C d_Mo_isName_29 1 rfl (nI_1 _) [1, 0] (by decide) rfl ?_
      refine g_goto C d_Mo_isName_32 ?_
      exact ih (n + 1) (by omega) (by simpa [nmM, c_2] using hE)
    · have c_2 := zb_0.mp c_2
      refine g_iconst (v := 0) C rfl d_Mo_isName_27 ?_
      exact g_zret C (Or.inl rfl) rfl (by simpa [nmM, zb, c_2] using hE) (by decide) (by decide) d_Mo_isName_28

set_option maxHeartbeats 4000000 in
set_option maxRecDepth 100000 in
theorem c_Mo_isName (l : Launch) (g : Gx) (v : Int64) : M0 l g y_Mo_isName b_Mo_isName 3 (some FieldType.boolean) ({ frames := 2, cells := 0, slots := 0, locals := 42 }) [.long v] [] (some (.int (zb (isNm v)))) [] := by
  refine MP.of (by decide) (Nat.le_of_ble_eq_true rfl) (fun κ C => ?_)
  have C : zC κ l g ({ frames := 2, cells := 0, slots := 0, locals := 42 }) b_Mo_isName 3 "TombLaneModel" "isName" (some FieldType.boolean) _ := C
  refine g_lv (lv1 := [(0, .long v)]) [0] rfl ?_
  refine g_iconst (v := 0) C rfl d_Mo_isName_0 ?_
  refine g_istore_n (lv1 := [(0, .long v), (2, .int 0)]) C d_Mo_isName_1 [1, 0] (by decide) rfl ?_
  exact lp_Mo_isName l g v C (lfM v 8 0) 0 (by omega) ⟨rfl, rfl, rfl⟩

set_option maxHeartbeats 4000000 in
set_option maxRecDepth 100000 in
theorem lp_Mo_manOf (l : Launch) (g : Gx) {κ : Kx} {E : Ex} {P : va_W} (h r0 r1 r2 r5 r6 r16 r17 r18 r19 r20 r21 r22 r23 r25 r27 r28 r29 r30 r31 r33 r34 r35 r36 r37 r38 r39 r40 n : Nat) (dt tp sz fk fp at1 en tk nu fl wa co db : Int32) (nm : Int64) (nf : Nat → Int64) (w : Int64) (hn : n ≤ 12) (C : zC κ l g ({ frames := 0, cells := 0, slots := 0, locals := 0 }) b_Mo_manOf 4 "TombLaneModel" "manOf" (some FieldType.int) E) : ∀ (k : Nat) (i : Nat), (i + k = n) → (E (some (.int (fnd nf w k i))) [(h, .inr (13, [.ref r0, .ref r1, .ref r2, .int (nI n), .int dt, .ref r5, .ref r6, .int tp, .int sz, .int fk, .int fp, .int at1, .int en, .int tk, .int nu, .long nm, .ref r16, .ref r17, .ref r18, .ref r19, .ref r20, .ref r21, .ref r22, .ref r23, .int fl, .ref r25, .int wa, .ref r27, .ref r28, .ref r29, .ref r30, .ref r31, .int co, .ref r33, .ref r34, .ref r35, .ref r36, .ref r37, .ref r38, .ref r39, .ref r40, .int db])), (r0, .inl (g.2.1 1, 12, .inr (.inl nf)))] P) → G κ 4 0 0 2 [(0, .ref h), (1, .long w), (3, .int (nI i))] [] [(h, .inr (13, [.ref r0, .ref r1, .ref r2, .int (nI n), .int dt, .ref r5, .ref r6, .int tp, .int sz, .int fk, .int fp, .int at1, .int en, .int tk, .int nu, .long nm, .ref r16, .ref r17, .ref r18, .ref r19, .ref r20, .ref r21, .ref r22, .ref r23, .int fl, .ref r25, .int wa, .ref r27, .ref r28, .ref r29, .ref r30, .ref r31, .int co, .ref r33, .ref r34, .ref r35, .ref r36, .ref r37, .ref r38, .ref r39, .ref r40, .int db])), (r0, .inl (g.2.1 1, 12, .inr (.inl nf)))] P := by
  intro k
  induction k with
  | zero =>
    intro i hi hE
    refine g_iload_n C 2 rfl d_Mo_manOf_2 ?_
    refine g_aload_n C 0 rfl d_Mo_manOf_3 ?_
    refine g_get C 0 rfl rfl in_Mo 3 (by decide) kw_1023 rfl d_Mo_manOf_4 ?_
    refine g_icmp_ge C d_Mo_manOf_7 (fun _ => ?_) (fun c_1 => absurd (nI_le (by omega) (by omega)) c_1)
    refine g_iconst (v := (-1)) C rfl d_Mo_manOf_29 ?_
    exact g_iret C rfl hE (by decide) (by decide) d_Mo_manOf_30
  | succ k ih =>
    intro i hi hE
    refine g_iload_n C 2 rfl d_Mo_manOf_2 ?_
    refine g_aload_n C 0 rfl d_Mo_manOf_3 ?_
    refine g_get C 0 rfl rfl in_Mo 3 (by decide) kw_1023 rfl d_Mo_manOf_4 ?_
    refine g_icmp_ge C d_Mo_manOf_7 (fun c_1 => absurd c_1 (nI_ge (by omega) (by omega))) (fun _ => ?_)
    refine g_aload_n C 0 rfl d_Mo_manOf_10 ?_
    refine g_get C 0 rfl rfl in_Mo 0 (by decide) kw_1020 rfl d_Mo_manOf_11 ?_
    refine g_iload_n C 2 rfl d_Mo_manOf_14 ?_
    refine g_lald C 1 rfl (vp_in_nI (by omega) (by decide)) d_Mo_manOf_15 ?_
    refine g_eq (st1 := [.long (nf i)]) (congrArg (fun z => Value.long z :: []) (congrArg nf (nI_clamp (by omega)))) rfl ?_
    refine g_lload_n C 1 rfl d_Mo_manOf_16 ?_
    refine g_lcmp C d_Mo_manOf_17 ?_
    refine g_if_ne C d_Mo_manOf_18 (fun c_2 => ?_) (fun c_2 => ?_)
    · have c_2 : ¬ ((nf i : Int64) = w) := fun z => c_2 ((lg_cmp_eq _ _).mpr z)
      refine g_iinc (v := nI (i + 1)) (lv1 := [(0, .ref h), (1, .long w), (3, .int (nI (i + 1)))]) C d_Mo_manOf_23 2 rfl (nI_1 _) [1, 2, 0] (by decide) rfl ?_
      refine g_goto C d_Mo_manOf_26 ?_
      exact ih (i + 1) (by omega) (by simpa [fnd, c_2] using hE)
    · have c_2 := (lg_cmp_eq _ _).mp c_2
      refine g_iload_n C 2 rfl d_Mo_manOf_21 ?_
      exact g_iret C rfl (by simpa [fnd, eq_true c_2] using hE) (by decide) (by decide) d_Mo_manOf_22

set_option maxHeartbeats 4000000 in
set_option maxRecDepth 100000 in
theorem c_Mo_manOf (l : Launch) (g : Gx) (h r0 r1 r2 r5 r6 r16 r17 r18 r19 r20 r21 r22 r23 r25 r27 r28 r29 r30 r31 r33 r34 r35 r36 r37 r38 r39 r40 n : Nat) (dt tp sz fk fp at1 en tk nu fl wa co db : Int32) (nm : Int64) (nf : Nat → Int64) (w : Int64) (hn : n ≤ 12) : M0 l g y_Mo_manOf b_Mo_manOf 4 (some FieldType.int) ({ frames := 0, cells := 0, slots := 0, locals := 0 }) [.ref h, .long w] [(h, .inr (13, [.ref r0, .ref r1, .ref r2, .int (nI n), .int dt, .ref r5, .ref r6, .int tp, .int sz, .int fk, .int fp, .int at1, .int en, .int tk, .int nu, .long nm, .ref r16, .ref r17, .ref r18, .ref r19, .ref r20, .ref r21, .ref r22, .ref r23, .int fl, .ref r25, .int wa, .ref r27, .ref r28, .ref r29, .ref r30, .ref r31, .int co, .ref r33, .ref r34, .ref r35, .ref r36, .ref r37, .ref r38, .ref r39, .ref r40, .int db])), (r0, .inl (g.2.1 1, 12, .inr (.inl nf)))] (some (.int (fnd nf w n 0))) [(h, .inr (13, [.ref r0, .ref r1, .ref r2, .int (nI n), .int dt, .ref r5, .ref r6, .int tp, .int sz, .int fk, .int fp, .int at1, .int en, .int tk, .int nu, .long nm, .ref r16, .ref r17, .ref r18, .ref r19, .ref r20, .ref r21, .ref r22, .ref r23, .int fl, .ref r25, .int wa, .ref r27, .ref r28, .ref r29, .ref r30, .ref r31, .int co, .ref r33, .ref r34, .ref r35, .ref r36, .ref r37, .ref r38, .ref r39, .ref r40, .int db])), (r0, .inl (g.2.1 1, 12, .inr (.inl nf)))] := by
  refine MP.of (by decide) (Nat.le_of_ble_eq_true rfl) (fun κ C => ?_)
  have C : zC κ l g ({ frames := 0, cells := 0, slots := 0, locals := 0 }) b_Mo_manOf 4 "TombLaneModel" "manOf" (some FieldType.int) _ := C
  refine g_lv (lv1 := [(0, .ref h), (1, .long w)]) [0, 1] rfl ?_
  refine g_iconst (v := 0) C rfl d_Mo_manOf_0 ?_
  refine g_istore_n (lv1 := [(0, .ref h), (1, .long w), (3, .int 0)]) C d_Mo_manOf_1 [1, 2, 0] (by decide) rfl ?_
  exact lp_Mo_manOf l g h r0 r1 r2 r5 r6 r16 r17 r18 r19 r20 r21 r22 r23 r25 r27 r28 r29 r30 r31 r33 r34 r35 r36 r37 r38 r39 r40 n dt tp sz fk fp at1 en tk nu fl wa co db nm nf w hn C n 0 (by omega) ⟨rfl, rfl, rfl⟩

def manOkM (f : Nat → Int64) (n : Nat) (w : Int64) (sd rk : Int32) : Bool := decide (isNm w = true ∧ ¬ sd < 0 ∧ ¬ 1 < sd ∧ ¬ rk < 0 ∧ ¬ 4 ≤ rk ∧ ¬ 0 ≤ fnd f w n 0 ∧ ¬ n = 12)
set_option maxHeartbeats 4000000 in
set_option maxRecDepth 100000 in
theorem c_Mo_man (l : Launch) (g : Gx) (h r0 r1 r2 r5 r6 r16 r17 r18 r19 r20 r21 r22 r23 r25 r27 r28 r29 r30 r31 r33 r34 r35 r36 r37 r38 r39 r40 n : Nat) (dt tp sz fk fp at1 en tk nu fl wa co db : Int32) (nm : Int64) (nf : Nat → Int64) (sf rf : Nat → Int32) (w : Int64) (p0 p1 : Int32) (hn : n ≤ 12) : M0 l g y_Mo_man b_Mo_man 5 (some FieldType.int) ({ frames := 3, cells := 0, slots := 0, locals := 64 }) [.ref h, .long w, .int p0, .int p1] [(h, .inr (13, [.ref r0, .ref r1, .ref r2, .int (nI n), .int dt, .ref r5, .ref r6, .int tp, .int sz, .int fk, .int fp, .int at1, .int en, .int tk, .int nu, .long nm, .ref r16, .ref r17, .ref r18, .ref r19, .ref r20, .ref r21, .ref r22, .ref r23, .int fl, .ref r25, .int wa, .ref r27, .ref r28, .ref r29, .ref r30, .ref r31, .int co, .ref r33, .ref r34, .ref r35, .ref r36, .ref r37, .ref r38, .ref r39, .ref r40, .int db])), (r0, .inl (g.2.1 1, 12, .inr (.inl nf))), (r1, .inl (g.2.1 0, 12, .inl sf)), (r2, .inl (g.2.1 0, 12, .inl rf))] (some (.int (if manOkM nf n w p0 p1 then nI n else (-1)))) [(h, .inr (13, [.ref r0, .ref r1, .ref r2, .int (nI (if manOkM nf n w p0 p1 then n + 1 else n)), .int dt, .ref r5, .ref r6, .int tp, .int sz, .int fk, .int fp, .int at1, .int en, .int tk, .int nu, .long nm, .ref r16, .ref r17, .ref r18, .ref r19, .ref r20, .ref r21, .ref r22, .ref r23, .int fl, .ref r25, .int wa, .ref r27, .ref r28, .ref r29, .ref r30, .ref r31, .int co, .ref r33, .ref r34, .ref r35, .ref r36, .ref r37, .ref r38, .ref r39, .ref r40, .int db])), (r0, .inl (g.2.1 1, 12, .inr (.inl (if manOkM nf n w p0 p1 then vp_updL nf n w else nf)))), (r1, .inl (g.2.1 0, 12, .inl (if manOkM nf n w p0 p1 then upd sf n p0 else sf))), (r2, .inl (g.2.1 0, 12, .inl (if manOkM nf n w p0 p1 then upd rf n p1 else rf)))] := by
  refine MP.of (by decide) (Nat.le_of_ble_eq_true rfl) (fun κ C => ?_)
  have C : zC κ l g ({ frames := 3, cells := 0, slots := 0, locals := 64 }) b_Mo_man 5 "TombLaneModel" "man" (some FieldType.int) _ := C
  refine g_lv (lv1 := [(0, .ref h), (1, .long w), (3, .int p0), (4, .int p1)]) [0, 1, 2, 3] rfl ?_
  refine g_lload_n C 1 rfl d_Mo_man_0 ?_
  refine g_callS0 (rest := []) (Xn := [(h, .inr (13, [.ref r0, .ref r1, .ref r2, .int (nI n), .int dt, .ref r5, .ref r6, .int tp, .int sz, .int fk, .int fp, .int at1, .int en, .int tk, .int nu, .long nm, .ref r16, .ref r17, .ref r18, .ref r19, .ref r20, .ref r21, .ref r22, .ref r23, .int fl, .ref r25, .int wa, .ref r27, .ref r28, .ref r29, .ref r30, .ref r31, .int co, .ref r33, .ref r34, .ref r35, .ref r36, .ref r37, .ref r38, .ref r39, .ref r40, .int db])), (r0, .inl (g.2.1 1, 12, .inr (.inl nf))), (r1, .inl (g.2.1 0, 12, .inl sf)), (r2, .inl (g.2.1 0, 12, .inl rf))]) C (c_Mo_isName l g w) [] [0, 1, 2, 3] [0, 1, 2, 3] rfl (by decide) (by decide) rfl mo_Mo_isName ms_Mo_isName kw_868 (by decide) rfl (Nat.le_of_ble_eq_true rfl) ⟨Nat.le_of_ble_eq_true rfl, Nat.le_of_ble_eq_true rfl⟩ d_Mo_man_1 ?_
  refine g_if_eq C d_Mo_man_4 (fun c_1 => ?_) (fun c_1 => ?_)
  · have c_1 := zb_0.mp c_1
    refine g_iconst (v := (-1)) C rfl d_Mo_man_44 ?_
    exact g_iret C rfl ⟨congrArg (fun z => some (Value.int z)) (by simp [manOkM, c_1]), (by simp [manOkM, c_1]), rfl⟩ (by decide) (by decide) d_Mo_man_45
  · have c_1 := zb_n0.mp c_1
    refine g_iload_n C 2 rfl d_Mo_man_7 ?_
    refine g_if_lt C d_Mo_man_8 (fun c_2 => ?_) (fun c_2 => ?_)
    · skip
      refine g_iconst (v := (-1)) C rfl d_Mo_man_44 ?_
      exact g_iret C rfl ⟨congrArg (fun z => some (Value.int z)) (by simp [manOkM, c_1, c_2, Int32.not_le.mpr c_2]), (by simp [manOkM, c_1, c_2, Int32.not_le.mpr c_2]), rfl⟩ (by decide) (by decide) d_Mo_man_45
    · skip
      refine g_iload_n C 2 rfl d_Mo_man_11 ?_
      refine g_iconst (v := 1) C rfl d_Mo_man_12 ?_
      refine g_icmp_gt C d_Mo_man_13 (fun c_3 => ?_) (fun c_3 => ?_)
      · skip
        refine g_iconst (v := (-1)) C rfl d_Mo_man_44 ?_
        exact g_iret C rfl ⟨congrArg (fun z => some (Value.int z)) (by simp [manOkM, c_1, c_2, Int32.not_lt.mp c_2, c_3, Int32.not_le.mpr c_3]), (by simp [manOkM, c_1, c_2, Int32.not_lt.mp c_2, c_3, Int32.not_le.mpr c_3]), rfl⟩ (by decide) (by decide) d_Mo_man_45
      · skip
        refine g_iload C 3 rfl d_Mo_man_16 ?_
        refine g_if_lt C d_Mo_man_18 (fun c_4 => ?_) (fun c_4 => ?_)
        · skip
          refine g_iconst (v := (-1)) C rfl d_Mo_man_44 ?_
          exact g_iret C rfl ⟨congrArg (fun z => some (Value.int z)) (by simp [manOkM, c_1, c_2, Int32.not_lt.mp c_2, c_3, Int32.not_lt.mp c_3, c_4, Int32.not_le.mpr c_4]), (by simp [manOkM, c_1, c_2, Int32.not_lt.mp c_2, c_3, Int32.not_lt.mp c_3, c_4, Int32.not_le.mpr c_4]), rfl⟩ (by decide) (by decide) d_Mo_man_45
        · skip
          refine g_iload C 3 rfl d_Mo_man_21 ?_
          refine g_iconst (v := 4) C rfl d_Mo_man_23 ?_
          refine g_icmp_ge C d_Mo_man_24 (fun c_5 => ?_) (fun c_5 => ?_)
          · skip
            refine g_iconst (v := (-1)) C rfl d_Mo_man_44 ?_
            exact g_iret C rfl ⟨congrArg (fun z => some (Value.int z)) (by simp [manOkM, c_1, c_2, Int32.not_lt.mp c_2, c_3, Int32.not_lt.mp c_3, c_4, Int32.not_lt.mp c_4, c_5, Int32.not_lt.mpr c_5]), (by simp [manOkM, c_1, c_2, Int32.not_lt.mp c_2, c_3, Int32.not_lt.mp c_3, c_4, Int32.not_lt.mp c_4, c_5, Int32.not_lt.mpr c_5]), rfl⟩ (by decide) (by decide) d_Mo_man_45
          · skip
            refine g_aload_n C 0 rfl d_Mo_man_27 ?_
            refine g_lload_n C 1 rfl d_Mo_man_28 ?_
            refine g_callV0 (rest := []) (Xn := [(h, .inr (13, [.ref r0, .ref r1, .ref r2, .int (nI n), .int dt, .ref r5, .ref r6, .int tp, .int sz, .int fk, .int fp, .int at1, .int en, .int tk, .int nu, .long nm, .ref r16, .ref r17, .ref r18, .ref r19, .ref r20, .ref r21, .ref r22, .ref r23, .int fl, .ref r25, .int wa, .ref r27, .ref r28, .ref r29, .ref r30, .ref r31, .int co, .ref r33, .ref r34, .ref r35, .ref r36, .ref r37, .ref r38, .ref r39, .ref r40, .int db])), (r0, .inl (g.2.1 1, 12, .inr (.inl nf))), (r1, .inl (g.2.1 0, 12, .inl sf)), (r2, .inl (g.2.1 0, 12, .inl rf))]) C (c_Mo_manOf l g h r0 r1 r2 r5 r6 r16 r17 r18 r19 r20 r21 r22 r23 r25 r27 r28 r29 r30 r31 r33 r34 r35 r36 r37 r38 r39 r40 n dt tp sz fk fp at1 en tk nu fl wa co db nm nf w (by assumption)) [0, 1] [2, 3] [2, 3, 0, 1] rfl (by decide) (by decide) rfl mo_Mo_manOf mv_Mo_manOf kw_893 (by decide) (rcX 0 rfl rfl) rfl (Nat.le_of_ble_eq_true rfl) ⟨Nat.le_of_ble_eq_true rfl, Nat.le_of_ble_eq_true rfl⟩ d_Mo_man_29 ?_
            refine g_if_ge C d_Mo_man_32 (fun c_6 => ?_) (fun c_6 => ?_)
            · skip
              refine g_iconst (v := (-1)) C rfl d_Mo_man_44 ?_
              exact g_iret C rfl ⟨congrArg (fun z => some (Value.int z)) (by simp [manOkM, c_1, c_2, Int32.not_lt.mp c_2, c_3, Int32.not_lt.mp c_3, c_4, Int32.not_lt.mp c_4, c_5, Int32.not_le.mp c_5, c_6, Int32.not_lt.mpr c_6]), (by simp [manOkM, c_1, c_2, Int32.not_lt.mp c_2, c_3, Int32.not_lt.mp c_3, c_4, Int32.not_lt.mp c_4, c_5, Int32.not_le.mp c_5, c_6, Int32.not_lt.mpr c_6]), rfl⟩ (by decide) (by decide) d_Mo_man_45
            · skip
              refine g_aload_n C 0 rfl d_Mo_man_35 ?_
              refine g_get C 0 rfl rfl in_Mo 3 (by decide) kw_1023 rfl d_Mo_man_36 ?_
              refine g_bipush (v := 12) C rfl d_Mo_man_39 ?_
              refine g_icmp_ne C d_Mo_man_41 (fun c_7 => ?_) (fun c_7 => ?_)
              · skip
                have n_7 : ¬ (n = 12) := fun z => c_7 ((nI_eq (a := n) (b := 12) (by omega) (by omega)).mpr z)
                refine g_aload_n C 0 rfl d_Mo_man_46 ?_
                refine g_get C 0 rfl rfl in_Mo 0 (by decide) kw_1020 rfl d_Mo_man_47 ?_
                refine g_aload_n C 0 rfl d_Mo_man_50 ?_
                refine g_get C 0 rfl rfl in_Mo 3 (by decide) kw_1023 rfl d_Mo_man_51 ?_
                refine g_lload_n C 1 rfl d_Mo_man_54 ?_
                refine g_last (X1 := [(h, .inr (13, [.ref r0, .ref r1, .ref r2, .int (nI n), .int dt, .ref r5, .ref r6, .int tp, .int sz, .int fk, .int fp, .int at1, .int en, .int tk, .int nu, .long nm, .ref r16, .ref r17, .ref r18, .ref r19, .ref r20, .ref r21, .ref r22, .ref r23, .int fl, .ref r25, .int wa, .ref r27, .ref r28, .ref r29, .ref r30, .ref r31, .int co, .ref r33, .ref r34, .ref r35, .ref r36, .ref r37, .ref r38, .ref r39, .ref r40, .int db])), (r0, .inl (g.2.1 1, 12, .inr (.inl (vp_updL nf (Int32.toNatClampNeg (nI n)) w)))), (r1, .inl (g.2.1 0, 12, .inl sf)), (r2, .inl (g.2.1 0, 12, .inl rf))]) C 1 rfl (vp_in_nI (by omega) (by decide)) rfl d_Mo_man_55 ?_
                refine g_eq (X1 := [(h, .inr (13, [.ref r0, .ref r1, .ref r2, .int (nI n), .int dt, .ref r5, .ref r6, .int tp, .int sz, .int fk, .int fp, .int at1, .int en, .int tk, .int nu, .long nm, .ref r16, .ref r17, .ref r18, .ref r19, .ref r20, .ref r21, .ref r22, .ref r23, .int fl, .ref r25, .int wa, .ref r27, .ref r28, .ref r29, .ref r30, .ref r31, .int co, .ref r33, .ref r34, .ref r35, .ref r36, .ref r37, .ref r38, .ref r39, .ref r40, .int db])), (r0, .inl (g.2.1 1, 12, .inr (.inl (vp_updL nf n w)))), (r1, .inl (g.2.1 0, 12, .inl sf)), (r2, .inl (g.2.1 0, 12, .inl rf))]) rfl (by rw [nI_clamp (by omega)]) ?_
                refine g_aload_n C 0 rfl d_Mo_man_56 ?_
                refine g_get C 0 rfl rfl in_Mo 1 (by decide) kw_1021 rfl d_Mo_man_57 ?_
                refine g_aload_n C 0 rfl d_Mo_man_60 ?_
                refine g_get C 0 rfl rfl in_Mo 3 (by decide) kw_1023 rfl d_Mo_man_61 ?_
                refine g_iload_n C 2 rfl d_Mo_man_64 ?_
                refine g_iast (X1 := [(h, .inr (13, [.ref r0, .ref r1, .ref r2, .int (nI n), .int dt, .ref r5, .ref r6, .int tp, .int sz, .int fk, .int fp, .int at1, .int en, .int tk, .int nu, .long nm, .ref r16, .ref r17, .ref r18, .ref r19, .ref r20, .ref r21, .ref r22, .ref r23, .int fl, .ref r25, .int wa, .ref r27, .ref r28, .ref r29, .ref r30, .ref r31, .int co, .ref r33, .ref r34, .ref r35, .ref r36, .ref r37, .ref r38, .ref r39, .ref r40, .int db])), (r0, .inl (g.2.1 1, 12, .inr (.inl (vp_updL nf n w)))), (r1, .inl (g.2.1 0, 12, .inl (upd sf (Int32.toNatClampNeg (nI n)) p0))), (r2, .inl (g.2.1 0, 12, .inl rf))]) C 2 rfl (vp_in_nI (by omega) (by decide)) rfl d_Mo_man_65 ?_
                refine g_eq (X1 := [(h, .inr (13, [.ref r0, .ref r1, .ref r2, .int (nI n), .int dt, .ref r5, .ref r6, .int tp, .int sz, .int fk, .int fp, .int at1, .int en, .int tk, .int nu, .long nm, .ref r16, .ref r17, .ref r18, .ref r19, .ref r20, .ref r21, .ref r22, .ref r23, .int fl, .ref r25, .int wa, .ref r27, .ref r28, .ref r29, .ref r30, .ref r31, .int co, .ref r33, .ref r34, .ref r35, .ref r36, .ref r37, .ref r38, .ref r39, .ref r40, .int db])), (r0, .inl (g.2.1 1, 12, .inr (.inl (vp_updL nf n w)))), (r1, .inl (g.2.1 0, 12, .inl (upd sf n p0))), (r2, .inl (g.2.1 0, 12, .inl rf))]) rfl (by rw [nI_clamp (by omega)]) ?_
                refine g_aload_n C 0 rfl d_Mo_man_66 ?_
                refine g_get C 0 rfl rfl in_Mo 2 (by decide) kw_1022 rfl d_Mo_man_67 ?_
                refine g_aload_n C 0 rfl d_Mo_man_70 ?_
                refine g_get C 0 rfl rfl in_Mo 3 (by decide) kw_1023 rfl d_Mo_man_71 ?_
                refine g_iload C 3 rfl d_Mo_man_74 ?_
                refine g_iast (X1 := [(h, .inr (13, [.ref r0, .ref r1, .ref r2, .int (nI n), .int dt, .ref r5, .ref r6, .int tp, .int sz, .int fk, .int fp, .int at1, .int en, .int tk, .int nu, .long nm, .ref r16, .ref r17, .ref r18, .ref r19, .ref r20, .ref r21, .ref r22, .ref r23, .int fl, .ref r25, .int wa, .ref r27, .ref r28, .ref r29, .ref r30, .ref r31, .int co, .ref r33, .ref r34, .ref r35, .ref r36, .ref r37, .ref r38, .ref r39, .ref r40, .int db])), (r0, .inl (g.2.1 1, 12, .inr (.inl (vp_updL nf n w)))), (r1, .inl (g.2.1 0, 12, .inl (upd sf n p0))), (r2, .inl (g.2.1 0, 12, .inl (upd rf (Int32.toNatClampNeg (nI n)) p1)))]) C 3 rfl (vp_in_nI (by omega) (by decide)) rfl d_Mo_man_76 ?_
                refine g_eq (X1 := [(h, .inr (13, [.ref r0, .ref r1, .ref r2, .int (nI n), .int dt, .ref r5, .ref r6, .int tp, .int sz, .int fk, .int fp, .int at1, .int en, .int tk, .int nu, .long nm, .ref r16, .ref r17, .ref r18, .ref r19, .ref r20, .ref r21, .ref r22, .ref r23, .int fl, .ref r25, .int wa, .ref r27, .ref r28, .ref r29, .ref r30, .ref r31, .int co, .ref r33, .ref r34, .ref r35, .ref r36, .ref r37, .ref r38, .ref r39, .ref r40, .int db])), (r0, .inl (g.2.1 1, 12, .inr (.inl (vp_updL nf n w)))), (r1, .inl (g.2.1 0, 12, .inl (upd sf n p0))), (r2, .inl (g.2.1 0, 12, .inl (upd rf n p1)))]) rfl (by rw [nI_clamp (by omega)]) ?_
                refine g_aload_n C 0 rfl d_Mo_man_77 ?_
                refine g_dup C rfl d_Mo_man_78 ?_
                refine g_get C 0 rfl rfl in_Mo 3 (by decide) kw_1023 rfl d_Mo_man_79 ?_
                refine g_iconst (v := 1) C rfl d_Mo_man_82 ?_
                refine g_iadd C d_Mo_man_83 ?_
                refine g_eq (st1 := [.int (nI (n + 1)), .ref h]) (congrArg (fun z => Value.int z :: [.ref h]) (nI_add n 1)) rfl ?_
                refine g_put (X1 := [(h, .inr (13, [.ref r0, .ref r1, .ref r2, .int (nI (n + 1)), .int dt, .ref r5, .ref r6, .int tp, .int sz, .int fk, .int fp, .int at1, .int en, .int tk, .int nu, .long nm, .ref r16, .ref r17, .ref r18, .ref r19, .ref r20, .ref r21, .ref r22, .ref r23, .int fl, .ref r25, .int wa, .ref r27, .ref r28, .ref r29, .ref r30, .ref r31, .int co, .ref r33, .ref r34, .ref r35, .ref r36, .ref r37, .ref r38, .ref r39, .ref r40, .int db])), (r0, .inl (g.2.1 1, 12, .inr (.inl (vp_updL nf n w)))), (r1, .inl (g.2.1 0, 12, .inl (upd sf n p0))), (r2, .inl (g.2.1 0, 12, .inl (upd rf n p1)))]) C 0 rfl rfl in_Mo 3 (by decide) ok_Mo nm_Mo kw_1023 rfl rfl rfl (Nat.le_of_ble_eq_true rfl) rfl d_Mo_man_84 ?_
                refine g_aload_n C 0 rfl d_Mo_man_87 ?_
                refine g_get C 0 rfl rfl in_Mo 3 (by decide) kw_1023 rfl d_Mo_man_88 ?_
                refine g_iconst (v := 1) C rfl d_Mo_man_91 ?_
                refine g_isub C d_Mo_man_92 ?_
                refine g_eq (st1 := [.int (nI n)]) (congrArg (fun z => Value.int z :: []) (nI_pred n)) rfl ?_
                exact g_iret C rfl ⟨congrArg (fun z => some (Value.int z)) (by simp [manOkM, c_1, c_2, Int32.not_lt.mp c_2, c_3, Int32.not_lt.mp c_3, c_4, Int32.not_lt.mp c_4, c_5, Int32.not_le.mp c_5, c_6, Int32.not_le.mp c_6, c_7, n_7]), (by simp [manOkM, c_1, c_2, Int32.not_lt.mp c_2, c_3, Int32.not_lt.mp c_3, c_4, Int32.not_lt.mp c_4, c_5, Int32.not_le.mp c_5, c_6, Int32.not_le.mp c_6, c_7, n_7]), rfl⟩ (by decide) (by decide) d_Mo_man_93
              · skip
                have n_7 : n = 12 := (nI_eq (a := n) (b := 12) (by omega) (by omega)).mp c_7
                refine g_iconst (v := (-1)) C rfl d_Mo_man_44 ?_
                exact g_iret C rfl ⟨congrArg (fun z => some (Value.int z)) (by simp [manOkM, c_1, c_2, Int32.not_lt.mp c_2, c_3, Int32.not_lt.mp c_3, c_4, Int32.not_lt.mp c_4, c_5, Int32.not_le.mp c_5, c_6, Int32.not_le.mp c_6, eq_true c_7, eq_true n_7]), (by simp [manOkM, c_1, c_2, Int32.not_lt.mp c_2, c_3, Int32.not_lt.mp c_3, c_4, Int32.not_lt.mp c_4, c_5, Int32.not_le.mp c_5, c_6, Int32.not_le.mp c_6, eq_true c_7, eq_true n_7]), rfl⟩ (by decide) (by decide) d_Mo_man_45

def ofV (nl : Int32) (n : Nat) (sf rf : Nat → Int32) (m wh : Int32) : Int32 := if inB m (nI n) then (if wh = 0 then sf m.toNatClampNeg else if wh = 1 then rf m.toNatClampNeg else if wh = 2 then nl else (-1)) else (-1)
set_option maxHeartbeats 4000000 in
set_option maxRecDepth 100000 in
theorem c_Mo_of (l : Launch) (g : Gx) (h r0 r1 r2 r5 r6 r16 r17 r18 r19 r20 r21 r22 r23 r25 r27 r28 r29 r30 r31 r33 r34 r35 r36 r37 r38 r39 r40 n : Nat) (dt tp sz fk fp at1 en tk nu fl wa co db : Int32) (nm : Int64) (nf : Nat → Int64) (sf rf : Nat → Int32) (p0 p1 : Int32) (hn : n ≤ 12) : M0 l g y_Mo_of b_Mo_of 3 (some FieldType.int) ({ frames := 1, cells := 0, slots := 0, locals := 22 }) [.ref h, .int p0, .int p1] [(h, .inr (13, [.ref r0, .ref r1, .ref r2, .int (nI n), .int dt, .ref r5, .ref r6, .int tp, .int sz, .int fk, .int fp, .int at1, .int en, .int tk, .int nu, .long nm, .ref r16, .ref r17, .ref r18, .ref r19, .ref r20, .ref r21, .ref r22, .ref r23, .int fl, .ref r25, .int wa, .ref r27, .ref r28, .ref r29, .ref r30, .ref r31, .int co, .ref r33, .ref r34, .ref r35, .ref r36, .ref r37, .ref r38, .ref r39, .ref r40, .int db])), (r0, .inl (g.2.1 1, 12, .inr (.inl nf))), (r1, .inl (g.2.1 0, 12, .inl sf)), (r2, .inl (g.2.1 0, 12, .inl rf))] (some (.int (ofV (nI (lfM (nf p0.toNatClampNeg) 8 0)) n sf rf p0 p1))) [(h, .inr (13, [.ref r0, .ref r1, .ref r2, .int (nI n), .int dt, .ref r5, .ref r6, .int tp, .int sz, .int fk, .int fp, .int at1, .int en, .int tk, .int nu, .long nm, .ref r16, .ref r17, .ref r18, .ref r19, .ref r20, .ref r21, .ref r22, .ref r23, .int fl, .ref r25, .int wa, .ref r27, .ref r28, .ref r29, .ref r30, .ref r31, .int co, .ref r33, .ref r34, .ref r35, .ref r36, .ref r37, .ref r38, .ref r39, .ref r40, .int db])), (r0, .inl (g.2.1 1, 12, .inr (.inl nf))), (r1, .inl (g.2.1 0, 12, .inl sf)), (r2, .inl (g.2.1 0, 12, .inl rf))] := by
  refine MP.of (by decide) (Nat.le_of_ble_eq_true rfl) (fun κ C => ?_)
  have C : zC κ l g ({ frames := 1, cells := 0, slots := 0, locals := 22 }) b_Mo_of 3 "TombLaneModel" "of" (some FieldType.int) _ := C
  refine g_lv (lv1 := [(0, .ref h), (1, .int p0), (2, .int p1)]) [0, 1, 2] rfl ?_
  refine g_aload_n C 0 rfl d_Mo_of_0 ?_
  refine g_iload_n C 1 rfl d_Mo_of_1 ?_
  refine g_callV0 (rest := []) (Xn := [(h, .inr (13, [.ref r0, .ref r1, .ref r2, .int (nI n), .int dt, .ref r5, .ref r6, .int tp, .int sz, .int fk, .int fp, .int at1, .int en, .int tk, .int nu, .long nm, .ref r16, .ref r17, .ref r18, .ref r19, .ref r20, .ref r21, .ref r22, .ref r23, .int fl, .ref r25, .int wa, .ref r27, .ref r28, .ref r29, .ref r30, .ref r31, .int co, .ref r33, .ref r34, .ref r35, .ref r36, .ref r37, .ref r38, .ref r39, .ref r40, .int db])), (r0, .inl (g.2.1 1, 12, .inr (.inl nf))), (r1, .inl (g.2.1 0, 12, .inl sf)), (r2, .inl (g.2.1 0, 12, .inl rf))]) C (c_Mo_isMan l g h r0 r1 r2 r5 r6 r16 r17 r18 r19 r20 r21 r22 r23 r25 r27 r28 r29 r30 r31 r33 r34 r35 r36 r37 r38 r39 r40 (nI n) dt tp sz fk fp at1 en tk nu fl wa co db nm p0) [0] [1, 2, 3] [3, 0, 1, 2] rfl (by decide) (by decide) rfl mo_Mo_isMan mv_Mo_isMan kw_902 (by decide) (rcX 0 rfl rfl) rfl (Nat.le_of_ble_eq_true rfl) ⟨Nat.le_of_ble_eq_true rfl, Nat.le_of_ble_eq_true rfl⟩ d_Mo_of_2 ?_
  refine g_if_ne C d_Mo_of_5 (fun c_1 => ?_) (fun c_1 => ?_)
  · have c_1 := zb_n0.mp c_1
    refine g_iload_n C 2 rfl d_Mo_of_10 ?_
    refine g_if_ne C d_Mo_of_11 (fun c_2 => ?_) (fun c_2 => ?_)
    · skip
      refine g_iload_n C 2 rfl d_Mo_of_23 ?_
      refine g_iconst (v := 1) C rfl d_Mo_of_24 ?_
      refine g_icmp_ne C d_Mo_of_25 (fun c_3 => ?_) (fun c_3 => ?_)
      · skip
        refine g_iload_n C 2 rfl d_Mo_of_37 ?_
        refine g_iconst (v := 2) C rfl d_Mo_of_38 ?_
        refine g_icmp_ne C d_Mo_of_39 (fun c_4 => ?_) (fun c_4 => ?_)
        · skip
          refine g_iconst (v := (-1)) C rfl d_Mo_of_54 ?_
          exact g_iret C rfl ⟨congrArg (fun z => some (Value.int z)) (by simp [ofV, c_1, c_2, c_3, c_4]), rfl, rfl⟩ (by decide) (by decide) d_Mo_of_55
        · skip
          refine g_aload_n C 0 rfl d_Mo_of_42 ?_
          refine g_get C 0 rfl rfl in_Mo 0 (by decide) kw_1020 rfl d_Mo_of_43 ?_
          refine g_iload_n C 1 rfl d_Mo_of_46 ?_
          refine g_lald C 1 rfl (inB_vp 12 c_1 hn (by decide)) d_Mo_of_47 ?_
          refine g_callS0 (rest := []) (Xn := [(h, .inr (13, [.ref r0, .ref r1, .ref r2, .int (nI n), .int dt, .ref r5, .ref r6, .int tp, .int sz, .int fk, .int fp, .int at1, .int en, .int tk, .int nu, .long nm, .ref r16, .ref r17, .ref r18, .ref r19, .ref r20, .ref r21, .ref r22, .ref r23, .int fl, .ref r25, .int wa, .ref r27, .ref r28, .ref r29, .ref r30, .ref r31, .int co, .ref r33, .ref r34, .ref r35, .ref r36, .ref r37, .ref r38, .ref r39, .ref r40, .int db])), (r0, .inl (g.2.1 1, 12, .inr (.inl nf))), (r1, .inl (g.2.1 0, 12, .inl sf)), (r2, .inl (g.2.1 0, 12, .inl rf))]) C (c_Mo_lettersOf l g (nf (Int32.toNatClampNeg p0))) [] [0, 1, 2, 3] [0, 1, 2, 3] rfl (by decide) (by decide) rfl mo_Mo_lettersOf ms_Mo_lettersOf kw_871 (by decide) rfl (Nat.le_of_ble_eq_true rfl) ⟨Nat.le_of_ble_eq_true rfl, Nat.le_of_ble_eq_true rfl⟩ d_Mo_of_48 ?_
          refine g_goto C d_Mo_of_51 ?_
          exact g_iret C rfl ⟨congrArg (fun z => some (Value.int z)) (by simp [ofV, c_1, c_2, c_3, eq_true c_4]), rfl, rfl⟩ (by decide) (by decide) d_Mo_of_55
      · skip
        refine g_aload_n C 0 rfl d_Mo_of_28 ?_
        refine g_get C 0 rfl rfl in_Mo 2 (by decide) kw_1022 rfl d_Mo_of_29 ?_
        refine g_iload_n C 1 rfl d_Mo_of_32 ?_
        refine g_iald C 3 rfl (inB_vp 12 c_1 hn (by decide)) d_Mo_of_33 ?_
        refine g_goto C d_Mo_of_34 ?_
        exact g_iret C rfl ⟨congrArg (fun z => some (Value.int z)) (by simp [ofV, c_1, c_2, eq_true c_3]), rfl, rfl⟩ (by decide) (by decide) d_Mo_of_55
    · skip
      refine g_aload_n C 0 rfl d_Mo_of_14 ?_
      refine g_get C 0 rfl rfl in_Mo 1 (by decide) kw_1021 rfl d_Mo_of_15 ?_
      refine g_iload_n C 1 rfl d_Mo_of_18 ?_
      refine g_iald C 2 rfl (inB_vp 12 c_1 hn (by decide)) d_Mo_of_19 ?_
      refine g_goto C d_Mo_of_20 ?_
      exact g_iret C rfl ⟨congrArg (fun z => some (Value.int z)) (by simp [ofV, c_1, eq_true c_2]), rfl, rfl⟩ (by decide) (by decide) d_Mo_of_55
  · have c_1 := zb_0.mp c_1
    refine g_iconst (v := (-1)) C rfl d_Mo_of_8 ?_
    exact g_iret C rfl ⟨congrArg (fun z => some (Value.int z)) (by simp [ofV, c_1]), rfl, rfl⟩ (by decide) (by decide) d_Mo_of_9

