theorem tat_in {f : Nat → Int32} {t j : Nat} (h : j < t) (ht : t ≤ 300) : tat f t (nI j) = f j := by
  unfold tat
  rw [if_pos ((inB_iff (by omega)).mpr ⟨j, h, rfl⟩), nI_clamp (by omega)]
theorem tat_out {f : Nat → Int32} {t j : Nat} (h : t ≤ j) (hj : j ≤ 300) : tat f t (nI j) = (-1) := by
  unfold tat
  rw [if_neg]
  intro z
  obtain ⟨i, h1, h2⟩ := (inB_iff (by omega)).mp z
  have := (nI_eq (by omega) (by omega)).mp h2
  omega
/-- over the blanks -/
def skp (bf : Nat → Int32) : Nat → Nat → Nat
  | 0, j => j
  | k + 1, j => if bf j = 32 ∨ bf j = 10 then skp bf k (j + 1) else j
def rdw (bf : Nat → Int32) : Nat → Nat → Int64 → Nat × Int64
  | 0, j, v => (j, v)
  | k + 1, j, v => if isL (bf j) then rdw bf k (j + 1) ((v <<< (Int32.toInt64 8 &&& 63)) ||| Int32.toInt64 (bf j)) else (j, v)
def rdn (bf : Nat → Int32) : Nat → Nat → Int64 → Nat × Int64
  | 0, j, v => (j, v)
  | k + 1, j, v => if isDg (bf j) then rdn bf k (j + 1) (v * 10 + Int32.toInt64 (bf j - 48)) else (j, v)
theorem skp_le (bf : Nat → Int32) : ∀ k j, j ≤ skp bf k j ∧ skp bf k j ≤ j + k
  | 0, j => ⟨Nat.le_refl j, Nat.le_refl j⟩
  | k + 1, j => by
    unfold skp
    split
    · have := skp_le bf k (j + 1); omega
    · omega
theorem rdw_le (bf : Nat → Int32) : ∀ k j v, j ≤ (rdw bf k j v).1 ∧ (rdw bf k j v).1 ≤ j + k
  | 0, j, v => ⟨Nat.le_refl j, Nat.le_refl j⟩
  | k + 1, j, v => by
    unfold rdw
    split
    · have := rdw_le bf k (j + 1) ((v <<< (Int32.toInt64 8 &&& 63)) ||| Int32.toInt64 (bf j)); omega
    · simp
theorem rdn_le (bf : Nat → Int32) : ∀ k j v, j ≤ (rdn bf k j v).1 ∧ (rdn bf k j v).1 ≤ j + k
  | 0, j, v => ⟨Nat.le_refl j, Nat.le_refl j⟩
  | k + 1, j, v => by
    unfold rdn
    split
    · have := rdn_le bf k (j + 1) (v * 10 + Int32.toInt64 (bf j - 48)); omega
    · simp
/-- the next token: (next, kind, place, value) -/
def adv (bf : Nat → Int32) (t j : Nat) : Nat × Int32 × Nat × Int64 :=
  if skp bf (t - j) j < t then
    if isL (bf (skp bf (t - j) j)) then ((rdw bf (t - skp bf (t - j) j) (skp bf (t - j) j) 0).1, if (rdw bf (t - skp bf (t - j) j) (skp bf (t - j) j) 0).1 - skp bf (t - j) j ≤ 8 then 2 else 1, skp bf (t - j) j, (rdw bf (t - skp bf (t - j) j) (skp bf (t - j) j) 0).2)
    else if isDg (bf (skp bf (t - j) j)) then ((rdn bf (t - skp bf (t - j) j) (skp bf (t - j) j) 0).1, if (rdn bf (t - skp bf (t - j) j) (skp bf (t - j) j) 0).1 - skp bf (t - j) j ≤ 4 ∧ isL (tat bf t (nI (rdn bf (t - skp bf (t - j) j) (skp bf (t - j) j) 0).1)) = false then 3 else 1, skp bf (t - j) j, (rdn bf (t - skp bf (t - j) j) (skp bf (t - j) j) 0).2)
    else (skp bf (t - j) j + 1, if bf (skp bf (t - j) j) = 58 ∨ bf (skp bf (t - j) j) = 59 ∨ bf (skp bf (t - j) j) = 63 then 4 else 1, skp bf (t - j) j, Int32.toInt64 (bf (skp bf (t - j) j)))
  else (skp bf (t - j) j, 0, skp bf (t - j) j, 0)
set_option maxHeartbeats 4000000 in
set_option maxRecDepth 100000 in
theorem lp_To_skipBlanks (l : Launch) (g : Gx) {κ : Kx} {E : Ex} {P : va_W} (t0 q0 q1 t : Nat) (bf : Nat → Int32) (kd pl : Int32) (va : Int64) (ht : t ≤ 300) (C : zC κ l g ({ frames := 2, cells := 0, slots := 0, locals := 42 }) b_To_skipBlanks 1 "TombLane$Tokens" "skipBlanks" (none : Option FieldType) E) : ∀ (k : Nat) (j : Nat), (j + k = t) → (E none [(t0, .inr (11, [.ref q0, .int (nI (skp bf k j)), .int kd, .int pl, .long va])), (q0, .inr (10, [.ref q1, .int (nI t)])), (q1, .inl (g.2.1 0, 300, .inl bf))] P) → G κ 1 0 0 0 [(0, .ref t0)] [] [(t0, .inr (11, [.ref q0, .int (nI j), .int kd, .int pl, .long va])), (q0, .inr (10, [.ref q1, .int (nI t)])), (q1, .inl (g.2.1 0, 300, .inl bf))] P := by
  intro k
  induction k with
  | zero =>
    intro j hj hE
    refine g_aload_n C 0 rfl d_To_skipBlanks_0 ?_
    refine g_get C 0 rfl rfl in_To 1 (by decide) kw_191 rfl d_To_skipBlanks_1 ?_
    refine g_aload_n C 0 rfl d_To_skipBlanks_4 ?_
    refine g_get C 0 rfl rfl in_To 0 (by decide) kw_190 rfl d_To_skipBlanks_5 ?_
    refine g_getN C 1 rfl rfl in_Ta 1 (by decide) kw_144 rfl d_To_skipBlanks_8 ?_
    refine g_icmp_ge C d_To_skipBlanks_11 (fun _ => ?_) (fun c_1 => absurd (nI_le (by omega) (by omega)) c_1)
    exact g_vret C rfl (by simpa [skp] using hE) (by decide) (by decide) d_To_skipBlanks_59
  | succ k ih =>
    intro j hj hE
    refine g_aload_n C 0 rfl d_To_skipBlanks_0 ?_
    refine g_get C 0 rfl rfl in_To 1 (by decide) kw_191 rfl d_To_skipBlanks_1 ?_
    refine g_aload_n C 0 rfl d_To_skipBlanks_4 ?_
    refine g_get C 0 rfl rfl in_To 0 (by decide) kw_190 rfl d_To_skipBlanks_5 ?_
    refine g_getN C 1 rfl rfl in_Ta 1 (by decide) kw_144 rfl d_To_skipBlanks_8 ?_
    refine g_icmp_ge C d_To_skipBlanks_11 (fun c_1 => absurd c_1 (nI_ge (by omega) (by omega))) (fun _ => ?_)
    refine g_aload_n C 0 rfl d_To_skipBlanks_14 ?_
    refine g_get C 0 rfl rfl in_To 0 (by decide) kw_190 rfl d_To_skipBlanks_15 ?_
    refine g_aload_n C 0 rfl d_To_skipBlanks_18 ?_
    refine g_get C 0 rfl rfl in_To 1 (by decide) kw_191 rfl d_To_skipBlanks_19 ?_
    refine g_callVN0 (rest := []) (Xn := [(t0, .inr (11, [.ref q0, .int (nI j), .int kd, .int pl, .long va])), (q0, .inr (10, [.ref q1, .int (nI t)])), (q1, .inl (g.2.1 0, 300, .inl bf))]) C (c_Ta_at l g q0 q1 t bf (nI j) (by assumption)) [1, 2] [0] [0, 1, 2] rfl (by decide) (by decide) rfl mo_Ta_at mv_Ta_at kw_513 (by decide) (rcX 1 rfl rfl) rfl (Nat.le_of_ble_eq_true rfl) ⟨Nat.le_of_ble_eq_true rfl, Nat.le_of_ble_eq_true rfl⟩ d_To_skipBlanks_22 ?_
    refine g_eq (st1 := [.int (bf j)]) (congrArg (fun z => Value.int z :: []) (tat_in (by omega) ht)) rfl ?_
    refine g_bipush (v := 32) C rfl d_To_skipBlanks_25 ?_
    refine g_icmp_eq C d_To_skipBlanks_27 (fun c_2 => ?_) (fun c_2 => ?_)
    · skip
      refine g_aload_n C 0 rfl d_To_skipBlanks_46 ?_
      refine g_dup C rfl d_To_skipBlanks_47 ?_
      refine g_get C 0 rfl rfl in_To 1 (by decide) kw_191 rfl d_To_skipBlanks_48 ?_
      refine g_iconst (v := 1) C rfl d_To_skipBlanks_51 ?_
      refine g_iadd C d_To_skipBlanks_52 ?_
      refine g_eq (st1 := [.int (nI (j + 1)), .ref t0]) (congrArg (fun z => Value.int z :: [.ref t0]) (nI_add j 1)) rfl ?_
      refine g_put (X1 := [(t0, .inr (11, [.ref q0, .int (nI (j + 1)), .int kd, .int pl, .long va])), (q0, .inr (10, [.ref q1, .int (nI t)])), (q1, .inl (g.2.1 0, 300, .inl bf))]) C 0 rfl rfl in_To 1 (by decide) ok_To nm_To kw_191 rfl rfl rfl (Nat.le_of_ble_eq_true rfl) rfl d_To_skipBlanks_53 ?_
      refine g_goto C d_To_skipBlanks_56 ?_
      exact ih (j + 1) (by omega) (by simpa [skp, eq_true c_2] using hE)
    · skip
      refine g_aload_n C 0 rfl d_To_skipBlanks_30 ?_
      refine g_get C 0 rfl rfl in_To 0 (by decide) kw_190 rfl d_To_skipBlanks_31 ?_
      refine g_aload_n C 0 rfl d_To_skipBlanks_34 ?_
      refine g_get C 0 rfl rfl in_To 1 (by decide) kw_191 rfl d_To_skipBlanks_35 ?_
      refine g_callVN0 (rest := []) (Xn := [(t0, .inr (11, [.ref q0, .int (nI j), .int kd, .int pl, .long va])), (q0, .inr (10, [.ref q1, .int (nI t)])), (q1, .inl (g.2.1 0, 300, .inl bf))]) C (c_Ta_at l g q0 q1 t bf (nI j) (by assumption)) [1, 2] [0] [0, 1, 2] rfl (by decide) (by decide) rfl mo_Ta_at mv_Ta_at kw_513 (by decide) (rcX 1 rfl rfl) rfl (Nat.le_of_ble_eq_true rfl) ⟨Nat.le_of_ble_eq_true rfl, Nat.le_of_ble_eq_true rfl⟩ d_To_skipBlanks_38 ?_
      refine g_eq (st1 := [.int (bf j)]) (congrArg (fun z => Value.int z :: []) (tat_in (by omega) ht)) rfl ?_
      refine g_bipush (v := 10) C rfl d_To_skipBlanks_41 ?_
      refine g_icmp_ne C d_To_skipBlanks_43 (fun c_3 => ?_) (fun c_3 => ?_)
      · skip
        exact g_vret C rfl (by simpa [skp, c_2, c_3] using hE) (by decide) (by decide) d_To_skipBlanks_59
      · skip
        refine g_aload_n C 0 rfl d_To_skipBlanks_46 ?_
        refine g_dup C rfl d_To_skipBlanks_47 ?_
        refine g_get C 0 rfl rfl in_To 1 (by decide) kw_191 rfl d_To_skipBlanks_48 ?_
        refine g_iconst (v := 1) C rfl d_To_skipBlanks_51 ?_
        refine g_iadd C d_To_skipBlanks_52 ?_
        refine g_eq (st1 := [.int (nI (j + 1)), .ref t0]) (congrArg (fun z => Value.int z :: [.ref t0]) (nI_add j 1)) rfl ?_
        refine g_put (X1 := [(t0, .inr (11, [.ref q0, .int (nI (j + 1)), .int kd, .int pl, .long va])), (q0, .inr (10, [.ref q1, .int (nI t)])), (q1, .inl (g.2.1 0, 300, .inl bf))]) C 0 rfl rfl in_To 1 (by decide) ok_To nm_To kw_191 rfl rfl rfl (Nat.le_of_ble_eq_true rfl) rfl d_To_skipBlanks_53 ?_
        refine g_goto C d_To_skipBlanks_56 ?_
        exact ih (j + 1) (by omega) (by simpa [skp, c_2, eq_true c_3] using hE)

set_option maxHeartbeats 4000000 in
set_option maxRecDepth 100000 in
theorem c_To_skipBlanks (l : Launch) (g : Gx) (t0 q0 q1 t j : Nat) (bf : Nat → Int32) (kd pl : Int32) (va : Int64) (ht : t ≤ 300) (hj : j ≤ t) : M0 l g y_To_skipBlanks b_To_skipBlanks 1 (none : Option FieldType) ({ frames := 2, cells := 0, slots := 0, locals := 42 }) [.ref t0] [(t0, .inr (11, [.ref q0, .int (nI j), .int kd, .int pl, .long va])), (q0, .inr (10, [.ref q1, .int (nI t)])), (q1, .inl (g.2.1 0, 300, .inl bf))] none [(t0, .inr (11, [.ref q0, .int (nI (skp bf (t - j) j)), .int kd, .int pl, .long va])), (q0, .inr (10, [.ref q1, .int (nI t)])), (q1, .inl (g.2.1 0, 300, .inl bf))] := by
  refine MP.of (by decide) (Nat.le_of_ble_eq_true rfl) (fun κ C => ?_)
  have C : zC κ l g ({ frames := 2, cells := 0, slots := 0, locals := 42 }) b_To_skipBlanks 1 "TombLane$Tokens" "skipBlanks" (none : Option FieldType) _ := C
  refine g_lv (lv1 := [(0, .ref t0)]) [0] rfl ?_
  exact lp_To_skipBlanks l g t0 q0 q1 t bf kd pl va ht C (t - j) j (by omega) ⟨rfl, rfl, rfl⟩

set_option maxHeartbeats 4000000 in
set_option maxRecDepth 100000 in
theorem lp_To_readWord (l : Launch) (g : Gx) {κ : Kx} {E : Ex} {P : va_W} (t0 q0 q1 t p : Nat) (bf : Nat → Int32) (kd : Int32) (ht : t ≤ 300) (C : zC κ l g ({ frames := 2, cells := 0, slots := 0, locals := 42 }) b_To_readWord 1 "TombLane$Tokens" "readWord" (none : Option FieldType) E) : ∀ (k : Nat) (j : Nat) (v : Int64), (j + k = t) → (p ≤ j) → (E none [(t0, .inr (11, [.ref q0, .int (nI (rdw bf k j v).1), .int (if (rdw bf k j v).1 - p ≤ 8 then 2 else 1), .int (nI p), .long ((rdw bf k j v).2)])), (q0, .inr (10, [.ref q1, .int (nI t)])), (q1, .inl (g.2.1 0, 300, .inl bf))] P) → G κ 1 0 0 0 [(0, .ref t0)] [] [(t0, .inr (11, [.ref q0, .int (nI j), .int kd, .int (nI p), .long v])), (q0, .inr (10, [.ref q1, .int (nI t)])), (q1, .inl (g.2.1 0, 300, .inl bf))] P := by
  intro k
  induction k with
  | zero =>
    intro j v hj hp hE
    refine g_aload_n C 0 rfl d_To_readWord_0 ?_
    refine g_get C 0 rfl rfl in_To 1 (by decide) kw_191 rfl d_To_readWord_1 ?_
    refine g_aload_n C 0 rfl d_To_readWord_4 ?_
    refine g_get C 0 rfl rfl in_To 0 (by decide) kw_190 rfl d_To_readWord_5 ?_
    refine g_getN C 1 rfl rfl in_Ta 1 (by decide) kw_144 rfl d_To_readWord_8 ?_
    refine g_icmp_ge C d_To_readWord_11 (fun _ => ?_) (fun c_1 => absurd (nI_le (by omega) (by omega)) c_1)
    refine g_aload_n C 0 rfl d_To_readWord_68 ?_
    refine g_aload_n C 0 rfl d_To_readWord_69 ?_
    refine g_get C 0 rfl rfl in_To 1 (by decide) kw_191 rfl d_To_readWord_70 ?_
    refine g_aload_n C 0 rfl d_To_readWord_73 ?_
    refine g_get C 0 rfl rfl in_To 3 (by decide) kw_194 rfl d_To_readWord_74 ?_
    refine g_isub C d_To_readWord_77 ?_
    refine g_eq (st1 := [.int (nI (j - p)), .ref t0]) (congrArg (fun z => Value.int z :: [.ref t0]) (pk_sub (by omega))) rfl ?_
    refine g_bipush (v := 8) C rfl d_To_readWord_78 ?_
    refine g_icmp_gt C d_To_readWord_80 (fun c_2 => ?_) (fun c_2 => ?_)
    · skip
      have n_2 : 8 < j - p := (nI_ltI (a := 8) (b := (j - p)) (by omega) (by omega)).mp c_2
      refine g_iconst (v := 1) C rfl d_To_readWord_87 ?_
      refine g_put (X1 := [(t0, .inr (11, [.ref q0, .int (nI j), .int 1, .int (nI p), .long v])), (q0, .inr (10, [.ref q1, .int (nI t)])), (q1, .inl (g.2.1 0, 300, .inl bf))]) C 0 rfl rfl in_To 2 (by decide) ok_To nm_To kw_192 rfl rfl rfl (Nat.le_of_ble_eq_true rfl) rfl d_To_readWord_88 ?_
      exact g_vret C rfl (by simpa [rdw, c_2, Int32.not_le.mpr c_2, n_2, Nat.not_le.mpr n_2] using hE) (by decide) (by decide) d_To_readWord_91
    · skip
      have n_2 : j - p ≤ 8 := Nat.not_lt.mp (fun z => c_2 ((nI_ltI (a := 8) (b := (j - p)) (by omega) (by omega)).mpr z))
      refine g_iconst (v := 2) C rfl d_To_readWord_83 ?_
      refine g_goto C d_To_readWord_84 ?_
      refine g_put (X1 := [(t0, .inr (11, [.ref q0, .int (nI j), .int 2, .int (nI p), .long v])), (q0, .inr (10, [.ref q1, .int (nI t)])), (q1, .inl (g.2.1 0, 300, .inl bf))]) C 0 rfl rfl in_To 2 (by decide) ok_To nm_To kw_192 rfl rfl rfl (Nat.le_of_ble_eq_true rfl) rfl d_To_readWord_88 ?_
      exact g_vret C rfl (by simpa [rdw, c_2, Int32.not_lt.mp c_2, n_2, Nat.not_lt.mpr n_2] using hE) (by decide) (by decide) d_To_readWord_91
  | succ k ih =>
    intro j v hj hp hE
    refine g_aload_n C 0 rfl d_To_readWord_0 ?_
    refine g_get C 0 rfl rfl in_To 1 (by decide) kw_191 rfl d_To_readWord_1 ?_
    refine g_aload_n C 0 rfl d_To_readWord_4 ?_
    refine g_get C 0 rfl rfl in_To 0 (by decide) kw_190 rfl d_To_readWord_5 ?_
    refine g_getN C 1 rfl rfl in_Ta 1 (by decide) kw_144 rfl d_To_readWord_8 ?_
    refine g_icmp_ge C d_To_readWord_11 (fun c_1 => absurd c_1 (nI_ge (by omega) (by omega))) (fun _ => ?_)
    refine g_aload_n C 0 rfl d_To_readWord_14 ?_
    refine g_get C 0 rfl rfl in_To 0 (by decide) kw_190 rfl d_To_readWord_15 ?_
    refine g_aload_n C 0 rfl d_To_readWord_18 ?_
    refine g_get C 0 rfl rfl in_To 1 (by decide) kw_191 rfl d_To_readWord_19 ?_
    refine g_callVN0 (rest := []) (Xn := [(t0, .inr (11, [.ref q0, .int (nI j), .int kd, .int (nI p), .long v])), (q0, .inr (10, [.ref q1, .int (nI t)])), (q1, .inl (g.2.1 0, 300, .inl bf))]) C (c_Ta_at l g q0 q1 t bf (nI j) (by assumption)) [1, 2] [0] [0, 1, 2] rfl (by decide) (by decide) rfl mo_Ta_at mv_Ta_at kw_513 (by decide) (rcX 1 rfl rfl) rfl (Nat.le_of_ble_eq_true rfl) ⟨Nat.le_of_ble_eq_true rfl, Nat.le_of_ble_eq_true rfl⟩ d_To_readWord_22 ?_
    refine g_eq (st1 := [.int (bf j)]) (congrArg (fun z => Value.int z :: []) (tat_in (by omega) ht)) rfl ?_
    refine g_callSN0 (rest := []) (Xn := [(t0, .inr (11, [.ref q0, .int (nI j), .int kd, .int (nI p), .long v])), (q0, .inr (10, [.ref q1, .int (nI t)])), (q1, .inl (g.2.1 0, 300, .inl bf))]) C (c_TL_isLetter l g (bf j)) [] [0, 1, 2] [0, 1, 2] rfl (by decide) (by decide) rfl mo_TL_isLetter ms_TL_isLetter kw_518 (by decide) rfl (Nat.le_of_ble_eq_true rfl) ⟨Nat.le_of_ble_eq_true rfl, Nat.le_of_ble_eq_true rfl⟩ d_To_readWord_25 ?_
    refine g_if_eq C d_To_readWord_28 (fun c_2 => ?_) (fun c_2 => ?_)
    · have c_2 := zb_0.mp c_2
      refine g_aload_n C 0 rfl d_To_readWord_68 ?_
      refine g_aload_n C 0 rfl d_To_readWord_69 ?_
      refine g_get C 0 rfl rfl in_To 1 (by decide) kw_191 rfl d_To_readWord_70 ?_
      refine g_aload_n C 0 rfl d_To_readWord_73 ?_
      refine g_get C 0 rfl rfl in_To 3 (by decide) kw_194 rfl d_To_readWord_74 ?_
      refine g_isub C d_To_readWord_77 ?_
      refine g_eq (st1 := [.int (nI (j - p)), .ref t0]) (congrArg (fun z => Value.int z :: [.ref t0]) (pk_sub (by omega))) rfl ?_
      refine g_bipush (v := 8) C rfl d_To_readWord_78 ?_
      refine g_icmp_gt C d_To_readWord_80 (fun c_3 => ?_) (fun c_3 => ?_)
      · skip
        have n_3 : 8 < j - p := (nI_ltI (a := 8) (b := (j - p)) (by omega) (by omega)).mp c_3
        refine g_iconst (v := 1) C rfl d_To_readWord_87 ?_
        refine g_put (X1 := [(t0, .inr (11, [.ref q0, .int (nI j), .int 1, .int (nI p), .long v])), (q0, .inr (10, [.ref q1, .int (nI t)])), (q1, .inl (g.2.1 0, 300, .inl bf))]) C 0 rfl rfl in_To 2 (by decide) ok_To nm_To kw_192 rfl rfl rfl (Nat.le_of_ble_eq_true rfl) rfl d_To_readWord_88 ?_
        exact g_vret C rfl (by simpa [rdw, c_2, c_3, Int32.not_le.mpr c_3, n_3, Nat.not_le.mpr n_3] using hE) (by decide) (by decide) d_To_readWord_91
      · skip
        have n_3 : j - p ≤ 8 := Nat.not_lt.mp (fun z => c_3 ((nI_ltI (a := 8) (b := (j - p)) (by omega) (by omega)).mpr z))
        refine g_iconst (v := 2) C rfl d_To_readWord_83 ?_
        refine g_goto C d_To_readWord_84 ?_
        refine g_put (X1 := [(t0, .inr (11, [.ref q0, .int (nI j), .int 2, .int (nI p), .long v])), (q0, .inr (10, [.ref q1, .int (nI t)])), (q1, .inl (g.2.1 0, 300, .inl bf))]) C 0 rfl rfl in_To 2 (by decide) ok_To nm_To kw_192 rfl rfl rfl (Nat.le_of_ble_eq_true rfl) rfl d_To_readWord_88 ?_
        exact g_vret C rfl (by simpa [rdw, c_2, c_3, Int32.not_lt.mp c_3, n_3, Nat.not_lt.mpr n_3] using hE) (by decide) (by decide) d_To_readWord_91
    · have c_2 := zb_n0.mp c_2
      refine g_aload_n C 0 rfl d_To_readWord_31 ?_
      refine g_aload_n C 0 rfl d_To_readWord_32 ?_
      refine g_get C 0 rfl rfl in_To 4 (by decide) kw_196 rfl d_To_readWord_33 ?_
      refine g_bipush (v := 8) C rfl d_To_readWord_36 ?_
      refine g_lshl (v := v <<< (Int32.toInt64 8 &&& 63)) C rfl d_To_readWord_38 ?_
      refine g_aload_n C 0 rfl d_To_readWord_39 ?_
      refine g_get C 0 rfl rfl in_To 0 (by decide) kw_190 rfl d_To_readWord_40 ?_
      refine g_aload_n C 0 rfl d_To_readWord_43 ?_
      refine g_get C 0 rfl rfl in_To 1 (by decide) kw_191 rfl d_To_readWord_44 ?_
      refine g_callVN0 (rest := [.long (v <<< (Int32.toInt64 8 &&& 63)), .ref t0]) (Xn := [(t0, .inr (11, [.ref q0, .int (nI j), .int kd, .int (nI p), .long v])), (q0, .inr (10, [.ref q1, .int (nI t)])), (q1, .inl (g.2.1 0, 300, .inl bf))]) C (c_Ta_at l g q0 q1 t bf (nI j) (by assumption)) [1, 2] [0] [0, 1, 2] rfl (by decide) (by decide) rfl mo_Ta_at mv_Ta_at kw_513 (by decide) (rcX 1 rfl rfl) rfl (Nat.le_of_ble_eq_true rfl) ⟨Nat.le_of_ble_eq_true rfl, Nat.le_of_ble_eq_true rfl⟩ d_To_readWord_47 ?_
      refine g_eq (st1 := [.int (bf j), .long (v <<< (Int32.toInt64 8 &&& 63)), .ref t0]) (congrArg (fun z => Value.int z :: [.long (v <<< (Int32.toInt64 8 &&& 63)), .ref t0]) (tat_in (by omega) ht)) rfl ?_
      refine g_i2l C d_To_readWord_50 ?_
      refine g_lor C d_To_readWord_51 ?_
      refine g_put (X1 := [(t0, .inr (11, [.ref q0, .int (nI j), .int kd, .int (nI p), .long ((v <<< (Int32.toInt64 8 &&& 63)) ||| (Int32.toInt64 (bf j)))])), (q0, .inr (10, [.ref q1, .int (nI t)])), (q1, .inl (g.2.1 0, 300, .inl bf))]) C 0 rfl rfl in_To 4 (by decide) ok_To nm_To kw_196 rfl rfl rfl (Nat.le_of_ble_eq_true rfl) rfl d_To_readWord_52 ?_
      refine g_aload_n C 0 rfl d_To_readWord_55 ?_
      refine g_dup C rfl d_To_readWord_56 ?_
      refine g_get C 0 rfl rfl in_To 1 (by decide) kw_191 rfl d_To_readWord_57 ?_
      refine g_iconst (v := 1) C rfl d_To_readWord_60 ?_
      refine g_iadd C d_To_readWord_61 ?_
      refine g_eq (st1 := [.int (nI (j + 1)), .ref t0]) (congrArg (fun z => Value.int z :: [.ref t0]) (nI_add j 1)) rfl ?_
      refine g_put (X1 := [(t0, .inr (11, [.ref q0, .int (nI (j + 1)), .int kd, .int (nI p), .long ((v <<< (Int32.toInt64 8 &&& 63)) ||| (Int32.toInt64 (bf j)))])), (q0, .inr (10, [.ref q1, .int (nI t)])), (q1, .inl (g.2.1 0, 300, .inl bf))]) C 0 rfl rfl in_To 1 (by decide) ok_To nm_To kw_191 rfl rfl rfl (Nat.le_of_ble_eq_true rfl) rfl d_To_readWord_62 ?_
      refine g_goto C d_To_readWord_65 ?_
      exact ih (j + 1) _ (by omega) (by omega) (by simpa [rdw, c_2] using hE)

set_option maxHeartbeats 4000000 in
set_option maxRecDepth 100000 in
theorem c_To_readWord (l : Launch) (g : Gx) (t0 q0 q1 t p j : Nat) (bf : Nat → Int32) (kd : Int32) (v : Int64) (ht : t ≤ 300) (hj : j ≤ t) (hp : p ≤ j) : M0 l g y_To_readWord b_To_readWord 1 (none : Option FieldType) ({ frames := 2, cells := 0, slots := 0, locals := 42 }) [.ref t0] [(t0, .inr (11, [.ref q0, .int (nI j), .int kd, .int (nI p), .long v])), (q0, .inr (10, [.ref q1, .int (nI t)])), (q1, .inl (g.2.1 0, 300, .inl bf))] none [(t0, .inr (11, [.ref q0, .int (nI (rdw bf (t - j) j v).1), .int (if (rdw bf (t - j) j v).1 - p ≤ 8 then 2 else 1), .int (nI p), .long ((rdw bf (t - j) j v).2)])), (q0, .inr (10, [.ref q1, .int (nI t)])), (q1, .inl (g.2.1 0, 300, .inl bf))] := by
  refine MP.of (by decide) (Nat.le_of_ble_eq_true rfl) (fun κ C => ?_)
  have C : zC κ l g ({ frames := 2, cells := 0, slots := 0, locals := 42 }) b_To_readWord 1 "TombLane$Tokens" "readWord" (none : Option FieldType) _ := C
  refine g_lv (lv1 := [(0, .ref t0)]) [0] rfl ?_
  exact lp_To_readWord l g t0 q0 q1 t p bf kd ht C (t - j) j v (by omega) hp ⟨rfl, rfl, rfl⟩

set_option maxHeartbeats 4000000 in
set_option maxRecDepth 100000 in
theorem lp_To_readNumber (l : Launch) (g : Gx) {κ : Kx} {E : Ex} {P : va_W} (t0 q0 q1 t p : Nat) (bf : Nat → Int32) (kd : Int32) (ht : t ≤ 300) (C : zC κ l g ({ frames := 2, cells := 0, slots := 0, locals := 42 }) b_To_readNumber 2 "TombLane$Tokens" "readNumber" (none : Option FieldType) E) : ∀ (k : Nat) (j : Nat) (v : Int64), (j + k = t) → (p ≤ j) → (E none [(t0, .inr (11, [.ref q0, .int (nI (rdn bf k j v).1), .int (if (rdn bf k j v).1 - p ≤ 4 ∧ isL (tat bf t (nI (rdn bf k j v).1)) = false then 3 else 1), .int (nI p), .long ((rdn bf k j v).2)])), (q0, .inr (10, [.ref q1, .int (nI t)])), (q1, .inl (g.2.1 0, 300, .inl bf))] P) → G κ 2 0 0 0 [(0, .ref t0)] [] [(t0, .inr (11, [.ref q0, .int (nI j), .int kd, .int (nI p), .long v])), (q0, .inr (10, [.ref q1, .int (nI t)])), (q1, .inl (g.2.1 0, 300, .inl bf))] P := by
  intro k
  induction k with
  | zero =>
    intro j v hj hp hE
    refine g_aload_n C 0 rfl d_To_readNumber_0 ?_
    refine g_get C 0 rfl rfl in_To 1 (by decide) kw_191 rfl d_To_readNumber_1 ?_
    refine g_aload_n C 0 rfl d_To_readNumber_4 ?_
    refine g_get C 0 rfl rfl in_To 0 (by decide) kw_190 rfl d_To_readNumber_5 ?_
    refine g_getN C 1 rfl rfl in_Ta 1 (by decide) kw_144 rfl d_To_readNumber_8 ?_
    refine g_icmp_ge C d_To_readNumber_11 (fun _ => ?_) (fun c_1 => absurd (nI_le (by omega) (by omega)) c_1)
    refine g_aload_n C 0 rfl d_To_readNumber_72 ?_
    refine g_get C 0 rfl rfl in_To 1 (by decide) kw_191 rfl d_To_readNumber_73 ?_
    refine g_aload_n C 0 rfl d_To_readNumber_76 ?_
    refine g_get C 0 rfl rfl in_To 3 (by decide) kw_194 rfl d_To_readNumber_77 ?_
    refine g_isub C d_To_readNumber_80 ?_
    refine g_eq (st1 := [.int (nI (j - p))]) (congrArg (fun z => Value.int z :: []) (pk_sub (by omega))) rfl ?_
    refine g_iconst (v := 4) C rfl d_To_readNumber_81 ?_
    refine g_icmp_gt C d_To_readNumber_82 (fun c_2 => ?_) (fun c_2 => ?_)
    · skip
      have n_2 : 4 < j - p := (nI_ltI (a := 4) (b := (j - p)) (by omega) (by omega)).mp c_2
      refine g_iconst (v := 0) C rfl d_To_readNumber_106 ?_
      refine g_istore_n (lv1 := [(0, .ref t0), (1, .int 0)]) C d_To_readNumber_107 [1, 0] (by decide) rfl ?_
      refine g_aload_n C 0 rfl d_To_readNumber_108 ?_
      refine g_iload_n C 1 rfl d_To_readNumber_109 ?_
      refine g_if_eq C d_To_readNumber_110 (fun _ => ?_) (fun c_3 => absurd c_3 (by decide))
      refine g_iconst (v := 1) C rfl d_To_readNumber_117 ?_
      refine g_put (X1 := [(t0, .inr (11, [.ref q0, .int (nI j), .int 1, .int (nI p), .long v])), (q0, .inr (10, [.ref q1, .int (nI t)])), (q1, .inl (g.2.1 0, 300, .inl bf))]) C 0 rfl rfl in_To 2 (by decide) ok_To nm_To kw_192 rfl rfl rfl (Nat.le_of_ble_eq_true rfl) rfl d_To_readNumber_118 ?_
      exact g_vret C rfl (by simpa [rdn, c_2, Int32.not_le.mpr c_2, n_2, Nat.not_le.mpr n_2] using hE) (by decide) (by decide) d_To_readNumber_121
    · skip
      have n_2 : j - p ≤ 4 := Nat.not_lt.mp (fun z => c_2 ((nI_ltI (a := 4) (b := (j - p)) (by omega) (by omega)).mpr z))
      refine g_aload_n C 0 rfl d_To_readNumber_85 ?_
      refine g_get C 0 rfl rfl in_To 0 (by decide) kw_190 rfl d_To_readNumber_86 ?_
      refine g_aload_n C 0 rfl d_To_readNumber_89 ?_
      refine g_get C 0 rfl rfl in_To 1 (by decide) kw_191 rfl d_To_readNumber_90 ?_
      refine g_callVN0 (rest := []) (Xn := [(t0, .inr (11, [.ref q0, .int (nI j), .int kd, .int (nI p), .long v])), (q0, .inr (10, [.ref q1, .int (nI t)])), (q1, .inl (g.2.1 0, 300, .inl bf))]) C (c_Ta_at l g q0 q1 t bf (nI j) (by assumption)) [1, 2] [0] [0, 1, 2] rfl (by decide) (by decide) rfl mo_Ta_at mv_Ta_at kw_513 (by decide) (rcX 1 rfl rfl) rfl (Nat.le_of_ble_eq_true rfl) ⟨Nat.le_of_ble_eq_true rfl, Nat.le_of_ble_eq_true rfl⟩ d_To_readNumber_93 ?_
      refine g_callSN0 (rest := []) (Xn := [(t0, .inr (11, [.ref q0, .int (nI j), .int kd, .int (nI p), .long v])), (q0, .inr (10, [.ref q1, .int (nI t)])), (q1, .inl (g.2.1 0, 300, .inl bf))]) C (c_TL_isLetter l g (tat bf t (nI j))) [] [0, 1, 2] [0, 1, 2] rfl (by decide) (by decide) rfl mo_TL_isLetter ms_TL_isLetter kw_518 (by decide) rfl (Nat.le_of_ble_eq_true rfl) ⟨Nat.le_of_ble_eq_true rfl, Nat.le_of_ble_eq_true rfl⟩ d_To_readNumber_96 ?_
      refine g_if_ne C d_To_readNumber_99 (fun c_4 => ?_) (fun c_4 => ?_)
      · have c_4 := zb_n0.mp c_4
        refine g_iconst (v := 0) C rfl d_To_readNumber_106 ?_
        refine g_istore_n (lv1 := [(0, .ref t0), (1, .int 0)]) C d_To_readNumber_107 [1, 0] (by decide) rfl ?_
        refine g_aload_n C 0 rfl d_To_readNumber_108 ?_
        refine g_iload_n C 1 rfl d_To_readNumber_109 ?_
        refine g_if_eq C d_To_readNumber_110 (fun _ => ?_) (fun c_5 => absurd c_5 (by decide))
        refine g_iconst (v := 1) C rfl d_To_readNumber_117 ?_
        refine g_put (X1 := [(t0, .inr (11, [.ref q0, .int (nI j), .int 1, .int (nI p), .long v])), (q0, .inr (10, [.ref q1, .int (nI t)])), (q1, .inl (g.2.1 0, 300, .inl bf))]) C 0 rfl rfl in_To 2 (by decide) ok_To nm_To kw_192 rfl rfl rfl (Nat.le_of_ble_eq_true rfl) rfl d_To_readNumber_118 ?_
        exact g_vret C rfl (by simpa [rdn, c_2, Int32.not_lt.mp c_2, n_2, Nat.not_lt.mpr n_2, c_4] using hE) (by decide) (by decide) d_To_readNumber_121
      · have c_4 := zb_0.mp c_4
        refine g_iconst (v := 1) C rfl d_To_readNumber_102 ?_
        refine g_goto C d_To_readNumber_103 ?_
        refine g_istore_n (lv1 := [(0, .ref t0), (1, .int 1)]) C d_To_readNumber_107 [1, 0] (by decide) rfl ?_
        refine g_aload_n C 0 rfl d_To_readNumber_108 ?_
        refine g_iload_n C 1 rfl d_To_readNumber_109 ?_
        refine g_if_eq C d_To_readNumber_110 (fun c_6 => absurd c_6 (by decide)) (fun _ => ?_)
        refine g_iconst (v := 3) C rfl d_To_readNumber_113 ?_
        refine g_goto C d_To_readNumber_114 ?_
        refine g_put (X1 := [(t0, .inr (11, [.ref q0, .int (nI j), .int 3, .int (nI p), .long v])), (q0, .inr (10, [.ref q1, .int (nI t)])), (q1, .inl (g.2.1 0, 300, .inl bf))]) C 0 rfl rfl in_To 2 (by decide) ok_To nm_To kw_192 rfl rfl rfl (Nat.le_of_ble_eq_true rfl) rfl d_To_readNumber_118 ?_
        exact g_vret C rfl (by simpa [rdn, c_2, Int32.not_lt.mp c_2, n_2, Nat.not_lt.mpr n_2, c_4] using hE) (by decide) (by decide) d_To_readNumber_121
  | succ k ih =>
    intro j v hj hp hE
    refine g_aload_n C 0 rfl d_To_readNumber_0 ?_
    refine g_get C 0 rfl rfl in_To 1 (by decide) kw_191 rfl d_To_readNumber_1 ?_
    refine g_aload_n C 0 rfl d_To_readNumber_4 ?_
    refine g_get C 0 rfl rfl in_To 0 (by decide) kw_190 rfl d_To_readNumber_5 ?_
    refine g_getN C 1 rfl rfl in_Ta 1 (by decide) kw_144 rfl d_To_readNumber_8 ?_
    refine g_icmp_ge C d_To_readNumber_11 (fun c_1 => absurd c_1 (nI_ge (by omega) (by omega))) (fun _ => ?_)
    refine g_aload_n C 0 rfl d_To_readNumber_14 ?_
    refine g_get C 0 rfl rfl in_To 0 (by decide) kw_190 rfl d_To_readNumber_15 ?_
    refine g_aload_n C 0 rfl d_To_readNumber_18 ?_
    refine g_get C 0 rfl rfl in_To 1 (by decide) kw_191 rfl d_To_readNumber_19 ?_
    refine g_callVN0 (rest := []) (Xn := [(t0, .inr (11, [.ref q0, .int (nI j), .int kd, .int (nI p), .long v])), (q0, .inr (10, [.ref q1, .int (nI t)])), (q1, .inl (g.2.1 0, 300, .inl bf))]) C (c_Ta_at l g q0 q1 t bf (nI j) (by assumption)) [1, 2] [0] [0, 1, 2] rfl (by decide) (by decide) rfl mo_Ta_at mv_Ta_at kw_513 (by decide) (rcX 1 rfl rfl) rfl (Nat.le_of_ble_eq_true rfl) ⟨Nat.le_of_ble_eq_true rfl, Nat.le_of_ble_eq_true rfl⟩ d_To_readNumber_22 ?_
    refine g_eq (st1 := [.int (bf j)]) (congrArg (fun z => Value.int z :: []) (tat_in (by omega) ht)) rfl ?_
    refine g_callSN0 (rest := []) (Xn := [(t0, .inr (11, [.ref q0, .int (nI j), .int kd, .int (nI p), .long v])), (q0, .inr (10, [.ref q1, .int (nI t)])), (q1, .inl (g.2.1 0, 300, .inl bf))]) C (c_TL_isDigit l g (bf j)) [] [0, 1, 2] [0, 1, 2] rfl (by decide) (by decide) rfl mo_TL_isDigit ms_TL_isDigit kw_523 (by decide) rfl (Nat.le_of_ble_eq_true rfl) ⟨Nat.le_of_ble_eq_true rfl, Nat.le_of_ble_eq_true rfl⟩ d_To_readNumber_25 ?_
    refine g_if_eq C d_To_readNumber_28 (fun c_2 => ?_) (fun c_2 => ?_)
    · have c_2 := zb_0.mp c_2
      refine g_aload_n C 0 rfl d_To_readNumber_72 ?_
      refine g_get C 0 rfl rfl in_To 1 (by decide) kw_191 rfl d_To_readNumber_73 ?_
      refine g_aload_n C 0 rfl d_To_readNumber_76 ?_
      refine g_get C 0 rfl rfl in_To 3 (by decide) kw_194 rfl d_To_readNumber_77 ?_
      refine g_isub C d_To_readNumber_80 ?_
      refine g_eq (st1 := [.int (nI (j - p))]) (congrArg (fun z => Value.int z :: []) (pk_sub (by omega))) rfl ?_
      refine g_iconst (v := 4) C rfl d_To_readNumber_81 ?_
      refine g_icmp_gt C d_To_readNumber_82 (fun c_3 => ?_) (fun c_3 => ?_)
      · skip
        have n_3 : 4 < j - p := (nI_ltI (a := 4) (b := (j - p)) (by omega) (by omega)).mp c_3
        refine g_iconst (v := 0) C rfl d_To_readNumber_106 ?_
        refine g_istore_n (lv1 := [(0, .ref t0), (1, .int 0)]) C d_To_readNumber_107 [1, 0] (by decide) rfl ?_
        refine g_aload_n C 0 rfl d_To_readNumber_108 ?_
        refine g_iload_n C 1 rfl d_To_readNumber_109 ?_
        refine g_if_eq C d_To_readNumber_110 (fun _ => ?_) (fun c_4 => absurd c_4 (by decide))
        refine g_iconst (v := 1) C rfl d_To_readNumber_117 ?_
        refine g_put (X1 := [(t0, .inr (11, [.ref q0, .int (nI j), .int 1, .int (nI p), .long v])), (q0, .inr (10, [.ref q1, .int (nI t)])), (q1, .inl (g.2.1 0, 300, .inl bf))]) C 0 rfl rfl in_To 2 (by decide) ok_To nm_To kw_192 rfl rfl rfl (Nat.le_of_ble_eq_true rfl) rfl d_To_readNumber_118 ?_
        exact g_vret C rfl (by simpa [rdn, c_2, c_3, Int32.not_le.mpr c_3, n_3, Nat.not_le.mpr n_3] using hE) (by decide) (by decide) d_To_readNumber_121
      · skip
        have n_3 : j - p ≤ 4 := Nat.not_lt.mp (fun z => c_3 ((nI_ltI (a := 4) (b := (j - p)) (by omega) (by omega)).mpr z))
        refine g_aload_n C 0 rfl d_To_readNumber_85 ?_
        refine g_get C 0 rfl rfl in_To 0 (by decide) kw_190 rfl d_To_readNumber_86 ?_
        refine g_aload_n C 0 rfl d_To_readNumber_89 ?_
        refine g_get C 0 rfl rfl in_To 1 (by decide) kw_191 rfl d_To_readNumber_90 ?_
        refine g_callVN0 (rest := []) (Xn := [(t0, .inr (11, [.ref q0, .int (nI j), .int kd, .int (nI p), .long v])), (q0, .inr (10, [.ref q1, .int (nI t)])), (q1, .inl (g.2.1 0, 300, .inl bf))]) C (c_Ta_at l g q0 q1 t bf (nI j) (by assumption)) [1, 2] [0] [0, 1, 2] rfl (by decide) (by decide) rfl mo_Ta_at mv_Ta_at kw_513 (by decide) (rcX 1 rfl rfl) rfl (Nat.le_of_ble_eq_true rfl) ⟨Nat.le_of_ble_eq_true rfl, Nat.le_of_ble_eq_true rfl⟩ d_To_readNumber_93 ?_
        refine g_callSN0 (rest := []) (Xn := [(t0, .inr (11, [.ref q0, .int (nI j), .int kd, .int (nI p), .long v])), (q0, .inr (10, [.ref q1, .int (nI t)])), (q1, .inl (g.2.1 0, 300, .inl bf))]) C (c_TL_isLetter l g (tat bf t (nI j))) [] [0, 1, 2] [0, 1, 2] rfl (by decide) (by decide) rfl mo_TL_isLetter ms_TL_isLetter kw_518 (by decide) rfl (Nat.le_of_ble_eq_true rfl) ⟨Nat.le_of_ble_eq_true rfl, Nat.le_of_ble_eq_true rfl⟩ d_To_readNumber_96 ?_
        refine g_if_ne C d_To_readNumber_99 (fun c_5 => ?_) (fun c_5 => ?_)
        · have c_5 := zb_n0.mp c_5
          refine g_iconst (v := 0) C rfl d_To_readNumber_106 ?_
          refine g_istore_n (lv1 := [(0, .ref t0), (1, .int 0)]) C d_To_readNumber_107 [1, 0] (by decide) rfl ?_
          refine g_aload_n C 0 rfl d_To_readNumber_108 ?_
          refine g_iload_n C 1 rfl d_To_readNumber_109 ?_
          refine g_if_eq C d_To_readNumber_110 (fun _ => ?_) (fun c_6 => absurd c_6 (by decide))
          refine g_iconst (v := 1) C rfl d_To_readNumber_117 ?_
          refine g_put (X1 := [(t0, .inr (11, [.ref q0, .int (nI j), .int 1, .int (nI p), .long v])), (q0, .inr (10, [.ref q1, .int (nI t)])), (q1, .inl (g.2.1 0, 300, .inl bf))]) C 0 rfl rfl in_To 2 (by decide) ok_To nm_To kw_192 rfl rfl rfl (Nat.le_of_ble_eq_true rfl) rfl d_To_readNumber_118 ?_
          exact g_vret C rfl (by simpa [rdn, c_2, c_3, Int32.not_lt.mp c_3, n_3, Nat.not_lt.mpr n_3, c_5] using hE) (by decide) (by decide) d_To_readNumber_121
        · have c_5 := zb_0.mp c_5
          refine g_iconst (v := 1) C rfl d_To_readNumber_102 ?_
          refine g_goto C d_To_readNumber_103 ?_
          refine g_istore_n (lv1 := [(0, .ref t0), (1, .int 1)]) C d_To_readNumber_107 [1, 0] (by decide) rfl ?_
          refine g_aload_n C 0 rfl d_To_readNumber_108 ?_
          refine g_iload_n C 1 rfl d_To_readNumber_109 ?_
          refine g_if_eq C d_To_readNumber_110 (fun c_7 => absurd c_7 (by decide)) (fun _ => ?_)
          refine g_iconst (v := 3) C rfl d_To_readNumber_113 ?_
          refine g_goto C d_To_readNumber_114 ?_
          refine g_put (X1 := [(t0, .inr (11, [.ref q0, .int (nI j), .int 3, .int (nI p), .long v])), (q0, .inr (10, [.ref q1, .int (nI t)])), (q1, .inl (g.2.1 0, 300, .inl bf))]) C 0 rfl rfl in_To 2 (by decide) ok_To nm_To kw_192 rfl rfl rfl (Nat.le_of_ble_eq_true rfl) rfl d_To_readNumber_118 ?_
          exact g_vret C rfl (by simpa [rdn, c_2, c_3, Int32.not_lt.mp c_3, n_3, Nat.not_lt.mpr n_3, c_5] using hE) (by decide) (by decide) d_To_readNumber_121
    · have c_2 := zb_n0.mp c_2
      refine g_aload_n C 0 rfl d_To_readNumber_31 ?_
      refine g_aload_n C 0 rfl d_To_readNumber_32 ?_
      refine g_get C 0 rfl rfl in_To 4 (by decide) kw_196 rfl d_To_readNumber_33 ?_
      refine g_ldc2 C kw_530 d_To_readNumber_36 ?_
      refine g_lmul C d_To_readNumber_39 ?_
      refine g_aload_n C 0 rfl d_To_readNumber_40 ?_
      refine g_get C 0 rfl rfl in_To 0 (by decide) kw_190 rfl d_To_readNumber_41 ?_
      refine g_aload_n C 0 rfl d_To_readNumber_44 ?_
      refine g_get C 0 rfl rfl in_To 1 (by decide) kw_191 rfl d_To_readNumber_45 ?_
      refine g_callVN0 (rest := [.long (v * 10), .ref t0]) (Xn := [(t0, .inr (11, [.ref q0, .int (nI j), .int kd, .int (nI p), .long v])), (q0, .inr (10, [.ref q1, .int (nI t)])), (q1, .inl (g.2.1 0, 300, .inl bf))]) C (c_Ta_at l g q0 q1 t bf (nI j) (by assumption)) [1, 2] [0] [0, 1, 2] rfl (by decide) (by decide) rfl mo_Ta_at mv_Ta_at kw_513 (by decide) (rcX 1 rfl rfl) rfl (Nat.le_of_ble_eq_true rfl) ⟨Nat.le_of_ble_eq_true rfl, Nat.le_of_ble_eq_true rfl⟩ d_To_readNumber_48 ?_
      refine g_eq (st1 := [.int (bf j), .long (v * 10), .ref t0]) (congrArg (fun z => Value.int z :: [.long (v * 10), .ref t0]) (tat_in (by omega) ht)) rfl ?_
      refine g_bipush (v := 48) C rfl d_To_readNumber_51 ?_
      refine g_isub C d_To_readNumber_53 ?_
      refine g_i2l C d_To_readNumber_54 ?_
      refine g_ladd C d_To_readNumber_55 ?_
      refine g_put (X1 := [(t0, .inr (11, [.ref q0, .int (nI j), .int kd, .int (nI p), .long ((v * 10) + (Int32.toInt64 ((bf j) - 48)))])), (q0, .inr (10, [.ref q1, .int (nI t)])), (q1, .inl (g.2.1 0, 300, .inl bf))]) C 0 rfl rfl in_To 4 (by decide) ok_To nm_To kw_196 rfl rfl rfl (Nat.le_of_ble_eq_true rfl) rfl d_To_readNumber_56 ?_
      refine g_aload_n C 0 rfl d_To_readNumber_59 ?_
      refine g_dup C rfl d_To_readNumber_60 ?_
      refine g_get C 0 rfl rfl in_To 1 (by decide) kw_191 rfl d_To_readNumber_61 ?_
      refine g_iconst (v := 1) C rfl d_To_readNumber_64 ?_
      refine g_iadd C d_To_readNumber_65 ?_
      refine g_eq (st1 := [.int (nI (j + 1)), .ref t0]) (congrArg (fun z => Value.int z :: [.ref t0]) (nI_add j 1)) rfl ?_
      refine g_put (X1 := [(t0, .inr (11, [.ref q0, .int (nI (j + 1)), .int kd, .int (nI p), .long ((v * 10) + (Int32.toInt64 ((bf j) - 48)))])), (q0, .inr (10, [.ref q1, .int (nI t)])), (q1, .inl (g.2.1 0, 300, .inl bf))]) C 0 rfl rfl in_To 1 (by decide) ok_To nm_To kw_191 rfl rfl rfl (Nat.le_of_ble_eq_true rfl) rfl d_To_readNumber_66 ?_
      refine g_goto C d_To_readNumber_69 ?_
      exact ih (j + 1) _ (by omega) (by omega) (by simpa [rdn, c_2] using hE)

set_option maxHeartbeats 4000000 in
set_option maxRecDepth 100000 in
theorem c_To_readNumber (l : Launch) (g : Gx) (t0 q0 q1 t p j : Nat) (bf : Nat → Int32) (kd : Int32) (v : Int64) (ht : t ≤ 300) (hj : j ≤ t) (hp : p ≤ j) : M0 l g y_To_readNumber b_To_readNumber 2 (none : Option FieldType) ({ frames := 2, cells := 0, slots := 0, locals := 42 }) [.ref t0] [(t0, .inr (11, [.ref q0, .int (nI j), .int kd, .int (nI p), .long v])), (q0, .inr (10, [.ref q1, .int (nI t)])), (q1, .inl (g.2.1 0, 300, .inl bf))] none [(t0, .inr (11, [.ref q0, .int (nI (rdn bf (t - j) j v).1), .int (if (rdn bf (t - j) j v).1 - p ≤ 4 ∧ isL (tat bf t (nI (rdn bf (t - j) j v).1)) = false then 3 else 1), .int (nI p), .long ((rdn bf (t - j) j v).2)])), (q0, .inr (10, [.ref q1, .int (nI t)])), (q1, .inl (g.2.1 0, 300, .inl bf))] := by
  refine MP.of (by decide) (Nat.le_of_ble_eq_true rfl) (fun κ C => ?_)
  have C : zC κ l g ({ frames := 2, cells := 0, slots := 0, locals := 42 }) b_To_readNumber 2 "TombLane$Tokens" "readNumber" (none : Option FieldType) _ := C
  refine g_lv (lv1 := [(0, .ref t0)]) [0] rfl ?_
  exact lp_To_readNumber l g t0 q0 q1 t p bf kd ht C (t - j) j v (by omega) hp ⟨rfl, rfl, rfl⟩

set_option maxHeartbeats 4000000 in
set_option maxRecDepth 100000 in
theorem c_To_readSign (l : Launch) (g : Gx) (t0 q0 j : Nat) (kd pl p0 : Int32) (va : Int64) : M0 l g y_To_readSign b_To_readSign 2 (none : Option FieldType) ({ frames := 0, cells := 0, slots := 0, locals := 0 }) [.ref t0, .int p0] [(t0, .inr (11, [.ref q0, .int (nI j), .int kd, .int pl, .long va]))] none [(t0, .inr (11, [.ref q0, .int (nI (j + 1)), .int (if p0 = 58 ∨ p0 = 59 ∨ p0 = 63 then 4 else 1), .int pl, .long (Int32.toInt64 p0)]))] := by
  refine MP.of (by decide) (Nat.le_of_ble_eq_true rfl) (fun κ C => ?_)
  have C : zC κ l g ({ frames := 0, cells := 0, slots := 0, locals := 0 }) b_To_readSign 2 "TombLane$Tokens" "readSign" (none : Option FieldType) _ := C
  refine g_lv (lv1 := [(0, .ref t0), (1, .int p0)]) [0, 1] rfl ?_
  refine g_aload_n C 0 rfl d_To_readSign_0 ?_
  refine g_iload_n C 1 rfl d_To_readSign_1 ?_
  refine g_i2l C d_To_readSign_2 ?_
  refine g_put (X1 := [(t0, .inr (11, [.ref q0, .int (nI j), .int kd, .int pl, .long (Int32.toInt64 p0)]))]) C 0 rfl rfl in_To 4 (by decide) ok_To nm_To kw_196 rfl rfl rfl (Nat.le_of_ble_eq_true rfl) rfl d_To_readSign_3 ?_
  refine g_aload_n C 0 rfl d_To_readSign_6 ?_
  refine g_dup C rfl d_To_readSign_7 ?_
  refine g_get C 0 rfl rfl in_To 1 (by decide) kw_191 rfl d_To_readSign_8 ?_
  refine g_iconst (v := 1) C rfl d_To_readSign_11 ?_
  refine g_iadd C d_To_readSign_12 ?_
  refine g_eq (st1 := [.int (nI (j + 1)), .ref t0]) (congrArg (fun z => Value.int z :: [.ref t0]) (nI_add j 1)) rfl ?_
  refine g_put (X1 := [(t0, .inr (11, [.ref q0, .int (nI (j + 1)), .int kd, .int pl, .long (Int32.toInt64 p0)]))]) C 0 rfl rfl in_To 1 (by decide) ok_To nm_To kw_191 rfl rfl rfl (Nat.le_of_ble_eq_true rfl) rfl d_To_readSign_13 ?_
  refine g_aload_n C 0 rfl d_To_readSign_16 ?_
  refine g_iload_n C 1 rfl d_To_readSign_17 ?_
  refine g_bipush (v := 58) C rfl d_To_readSign_18 ?_
  refine g_icmp_eq C d_To_readSign_20 (fun c_1 => ?_) (fun c_1 => ?_)
  · skip
    refine g_iconst (v := 4) C rfl d_To_readSign_35 ?_
    refine g_goto C d_To_readSign_36 ?_
    refine g_put (X1 := [(t0, .inr (11, [.ref q0, .int (nI (j + 1)), .int 4, .int pl, .long (Int32.toInt64 p0)]))]) C 0 rfl rfl in_To 2 (by decide) ok_To nm_To kw_192 rfl rfl rfl (Nat.le_of_ble_eq_true rfl) rfl d_To_readSign_40 ?_
    exact g_vret C rfl ⟨rfl, (by simp [eq_true c_1]), rfl⟩ (by decide) (by decide) d_To_readSign_43
  · skip
    refine g_iload_n C 1 rfl d_To_readSign_23 ?_
    refine g_bipush (v := 59) C rfl d_To_readSign_24 ?_
    refine g_icmp_eq C d_To_readSign_26 (fun c_2 => ?_) (fun c_2 => ?_)
    · skip
      refine g_iconst (v := 4) C rfl d_To_readSign_35 ?_
      refine g_goto C d_To_readSign_36 ?_
      refine g_put (X1 := [(t0, .inr (11, [.ref q0, .int (nI (j + 1)), .int 4, .int pl, .long (Int32.toInt64 p0)]))]) C 0 rfl rfl in_To 2 (by decide) ok_To nm_To kw_192 rfl rfl rfl (Nat.le_of_ble_eq_true rfl) rfl d_To_readSign_40 ?_
      exact g_vret C rfl ⟨rfl, (by simp [c_1, eq_true c_2]), rfl⟩ (by decide) (by decide) d_To_readSign_43
    · skip
      refine g_iload_n C 1 rfl d_To_readSign_29 ?_
      refine g_bipush (v := 63) C rfl d_To_readSign_30 ?_
      refine g_icmp_ne C d_To_readSign_32 (fun c_3 => ?_) (fun c_3 => ?_)
      · skip
        refine g_iconst (v := 1) C rfl d_To_readSign_39 ?_
        refine g_put (X1 := [(t0, .inr (11, [.ref q0, .int (nI (j + 1)), .int 1, .int pl, .long (Int32.toInt64 p0)]))]) C 0 rfl rfl in_To 2 (by decide) ok_To nm_To kw_192 rfl rfl rfl (Nat.le_of_ble_eq_true rfl) rfl d_To_readSign_40 ?_
        exact g_vret C rfl ⟨rfl, (by simp [c_1, c_2, c_3]), rfl⟩ (by decide) (by decide) d_To_readSign_43
      · skip
        refine g_iconst (v := 4) C rfl d_To_readSign_35 ?_
        refine g_goto C d_To_readSign_36 ?_
        refine g_put (X1 := [(t0, .inr (11, [.ref q0, .int (nI (j + 1)), .int 4, .int pl, .long (Int32.toInt64 p0)]))]) C 0 rfl rfl in_To 2 (by decide) ok_To nm_To kw_192 rfl rfl rfl (Nat.le_of_ble_eq_true rfl) rfl d_To_readSign_40 ?_
        exact g_vret C rfl ⟨rfl, (by simp [c_1, c_2, eq_true c_3]), rfl⟩ (by decide) (by decide) d_To_readSign_43

set_option maxHeartbeats 4000000 in
set_option maxRecDepth 100000 in
theorem c_To_isSign (l : Launch) (g : Gx) (t0 q0 : Nat) (nx kd pl p0 : Int32) (va : Int64) : M0 l g y_To_isSign b_To_isSign 2 (some FieldType.boolean) ({ frames := 0, cells := 0, slots := 0, locals := 0 }) [.ref t0, .int p0] [(t0, .inr (11, [.ref q0, .int nx, .int kd, .int pl, .long va]))] (some (.int (zb (kd = 4 ∧ va = Int32.toInt64 p0)))) [(t0, .inr (11, [.ref q0, .int nx, .int kd, .int pl, .long va]))] := by
  refine MP.of (by decide) (Nat.le_of_ble_eq_true rfl) (fun κ C => ?_)
  have C : zC κ l g ({ frames := 0, cells := 0, slots := 0, locals := 0 }) b_To_isSign 2 "TombLane$Tokens" "isSign" (some FieldType.boolean) _ := C
  refine g_lv (lv1 := [(0, .ref t0), (1, .int p0)]) [0, 1] rfl ?_
  refine g_aload_n C 0 rfl d_To_isSign_0 ?_
  refine g_get C 0 rfl rfl in_To 2 (by decide) kw_192 rfl d_To_isSign_1 ?_
  refine g_iconst (v := 4) C rfl d_To_isSign_4 ?_
  refine g_icmp_ne C d_To_isSign_5 (fun c_1 => ?_) (fun c_1 => ?_)
  · skip
    refine g_iconst (v := 0) C rfl d_To_isSign_22 ?_
    exact g_zret C (Or.inl rfl) rfl ⟨congrArg (fun z => some (Value.int z)) (by simp [zb, c_1]), rfl, rfl⟩ (by decide) (by decide) d_To_isSign_23
  · skip
    refine g_aload_n C 0 rfl d_To_isSign_8 ?_
    refine g_get C 0 rfl rfl in_To 4 (by decide) kw_196 rfl d_To_isSign_9 ?_
    refine g_iload_n C 1 rfl d_To_isSign_12 ?_
    refine g_i2l C d_To_isSign_13 ?_
    refine g_lcmp C d_To_isSign_14 ?_
    refine g_if_ne C d_To_isSign_15 (fun c_2 => ?_) (fun c_2 => ?_)
    · have c_2 : ¬ ((va : Int64) = Int32.toInt64 p0) := fun z => c_2 ((lg_cmp_eq _ _).mpr z)
      refine g_iconst (v := 0) C rfl d_To_isSign_22 ?_
      exact g_zret C (Or.inl rfl) rfl ⟨congrArg (fun z => some (Value.int z)) (by simp [zb, eq_true c_1, c_2]), rfl, rfl⟩ (by decide) (by decide) d_To_isSign_23
    · have c_2 := (lg_cmp_eq _ _).mp c_2
      refine g_iconst (v := 1) C rfl d_To_isSign_18 ?_
      refine g_goto C d_To_isSign_19 ?_
      exact g_zret C (Or.inr rfl) rfl ⟨congrArg (fun z => some (Value.int z)) (by simp [zb, eq_true c_1, eq_true c_2]), rfl, rfl⟩ (by decide) (by decide) d_To_isSign_23

set_option maxHeartbeats 4000000 in
set_option maxRecDepth 100000 in
theorem c_To_isWord (l : Launch) (g : Gx) (t0 q0 : Nat) (nx kd pl : Int32) (va p0 : Int64) : M0 l g y_To_isWord b_To_isWord 3 (some FieldType.boolean) ({ frames := 0, cells := 0, slots := 0, locals := 0 }) [.ref t0, .long p0] [(t0, .inr (11, [.ref q0, .int nx, .int kd, .int pl, .long va]))] (some (.int (zb (kd = 2 ∧ va = p0)))) [(t0, .inr (11, [.ref q0, .int nx, .int kd, .int pl, .long va]))] := by
  refine MP.of (by decide) (Nat.le_of_ble_eq_true rfl) (fun κ C => ?_)
  have C : zC κ l g ({ frames := 0, cells := 0, slots := 0, locals := 0 }) b_To_isWord 3 "TombLane$Tokens" "isWord" (some FieldType.boolean) _ := C
  refine g_lv (lv1 := [(0, .ref t0), (1, .long p0)]) [0, 1] rfl ?_
  refine g_aload_n C 0 rfl d_To_isWord_0 ?_
  refine g_get C 0 rfl rfl in_To 2 (by decide) kw_192 rfl d_To_isWord_1 ?_
  refine g_iconst (v := 2) C rfl d_To_isWord_4 ?_
  refine g_icmp_ne C d_To_isWord_5 (fun c_1 => ?_) (fun c_1 => ?_)
  · skip
    refine g_iconst (v := 0) C rfl d_To_isWord_21 ?_
    exact g_zret C (Or.inl rfl) rfl ⟨congrArg (fun z => some (Value.int z)) (by simp [zb, c_1]), rfl, rfl⟩ (by decide) (by decide) d_To_isWord_22
  · skip
    refine g_aload_n C 0 rfl d_To_isWord_8 ?_
    refine g_get C 0 rfl rfl in_To 4 (by decide) kw_196 rfl d_To_isWord_9 ?_
    refine g_lload_n C 1 rfl d_To_isWord_12 ?_
    refine g_lcmp C d_To_isWord_13 ?_
    refine g_if_ne C d_To_isWord_14 (fun c_2 => ?_) (fun c_2 => ?_)
    · have c_2 : ¬ ((va : Int64) = p0) := fun z => c_2 ((lg_cmp_eq _ _).mpr z)
      refine g_iconst (v := 0) C rfl d_To_isWord_21 ?_
      exact g_zret C (Or.inl rfl) rfl ⟨congrArg (fun z => some (Value.int z)) (by simp [zb, eq_true c_1, c_2]), rfl, rfl⟩ (by decide) (by decide) d_To_isWord_22
    · have c_2 := (lg_cmp_eq _ _).mp c_2
      refine g_iconst (v := 1) C rfl d_To_isWord_17 ?_
      refine g_goto C d_To_isWord_18 ?_
      exact g_zret C (Or.inr rfl) rfl ⟨congrArg (fun z => some (Value.int z)) (by simp [zb, eq_true c_1, eq_true c_2]), rfl, rfl⟩ (by decide) (by decide) d_To_isWord_22

set_option maxHeartbeats 4000000 in
set_option maxRecDepth 100000 in
theorem c_To_restart (l : Launch) (g : Gx) (t0 q0 : Nat) (nx kd pl : Int32) (va : Int64) : M0 l g y_To_restart b_To_restart 1 (none : Option FieldType) ({ frames := 0, cells := 0, slots := 0, locals := 0 }) [.ref t0] [(t0, .inr (11, [.ref q0, .int nx, .int kd, .int pl, .long va]))] none [(t0, .inr (11, [.ref q0, .int (nI 0), .int kd, .int pl, .long va]))] := by
  refine MP.of (by decide) (Nat.le_of_ble_eq_true rfl) (fun κ C => ?_)
  have C : zC κ l g ({ frames := 0, cells := 0, slots := 0, locals := 0 }) b_To_restart 1 "TombLane$Tokens" "restart" (none : Option FieldType) _ := C
  refine g_lv (lv1 := [(0, .ref t0)]) [0] rfl ?_
  refine g_aload_n C 0 rfl d_To_restart_0 ?_
  refine g_iconst (v := 0) C rfl d_To_restart_1 ?_
  refine g_put (X1 := [(t0, .inr (11, [.ref q0, .int 0, .int kd, .int pl, .long va]))]) C 0 rfl rfl in_To 1 (by decide) ok_To nm_To kw_191 rfl rfl rfl (Nat.le_of_ble_eq_true rfl) rfl d_To_restart_2 ?_
  exact g_vret C rfl ⟨rfl, (by rfl), rfl⟩ (by decide) (by decide) d_To_restart_5

set_option maxHeartbeats 4000000 in
set_option maxRecDepth 100000 in
theorem c_To_advance (l : Launch) (g : Gx) (t0 q0 q1 t j : Nat) (bf : Nat → Int32) (kd pl : Int32) (va : Int64) (ht : t ≤ 300) (hj : j ≤ t) (hb : ∀ i, ¬ bf i = (-1)) : M0 l g y_To_advance b_To_advance 2 (none : Option FieldType) ({ frames := 3, cells := 0, slots := 0, locals := 63 }) [.ref t0] [(t0, .inr (11, [.ref q0, .int (nI j), .int kd, .int pl, .long va])), (q0, .inr (10, [.ref q1, .int (nI t)])), (q1, .inl (g.2.1 0, 300, .inl bf))] none [(t0, .inr (11, [.ref q0, .int (nI (adv bf t j).1), .int ((adv bf t j).2.1), .int (nI (adv bf t j).2.2.1), .long ((adv bf t j).2.2.2)])), (q0, .inr (10, [.ref q1, .int (nI t)])), (q1, .inl (g.2.1 0, 300, .inl bf))] := by
  refine MP.of (by decide) (Nat.le_of_ble_eq_true rfl) (fun κ C => ?_)
  have C : zC κ l g ({ frames := 3, cells := 0, slots := 0, locals := 63 }) b_To_advance 2 "TombLane$Tokens" "advance" (none : Option FieldType) _ := C
  refine g_lv (lv1 := [(0, .ref t0)]) [0] rfl ?_
  refine g_aload_n C 0 rfl d_To_advance_0 ?_
  refine g_callV0 (rest := []) (Xn := [(t0, .inr (11, [.ref q0, .int (nI (skp bf (t - j) j)), .int kd, .int pl, .long va])), (q0, .inr (10, [.ref q1, .int (nI t)])), (q1, .inl (g.2.1 0, 300, .inl bf))]) C (c_To_skipBlanks l g t0 q0 q1 t j bf kd pl va (by assumption) (by assumption)) [0, 1, 2] [] [0, 1, 2] rfl (by decide) (by decide) rfl mo_To_skipBlanks mv_To_skipBlanks kw_509 (by decide) (rcX 0 rfl rfl) rfl (Nat.le_of_ble_eq_true rfl) ⟨Nat.le_of_ble_eq_true rfl, Nat.le_of_ble_eq_true rfl⟩ d_To_advance_1 ?_
  refine g_aload_n C 0 rfl d_To_advance_4 ?_
  refine g_aload_n C 0 rfl d_To_advance_5 ?_
  refine g_get C 0 rfl rfl in_To 1 (by decide) kw_191 rfl d_To_advance_6 ?_
  refine g_put (X1 := [(t0, .inr (11, [.ref q0, .int (nI (skp bf (t - j) j)), .int kd, .int (nI (skp bf (t - j) j)), .long va])), (q0, .inr (10, [.ref q1, .int (nI t)])), (q1, .inl (g.2.1 0, 300, .inl bf))]) C 0 rfl rfl in_To 3 (by decide) ok_To nm_To kw_194 rfl rfl rfl (Nat.le_of_ble_eq_true rfl) rfl d_To_advance_9 ?_
  refine g_aload_n C 0 rfl d_To_advance_12 ?_
  refine g_lconst (v := 0) C rfl d_To_advance_13 ?_
  refine g_put (X1 := [(t0, .inr (11, [.ref q0, .int (nI (skp bf (t - j) j)), .int kd, .int (nI (skp bf (t - j) j)), .long 0])), (q0, .inr (10, [.ref q1, .int (nI t)])), (q1, .inl (g.2.1 0, 300, .inl bf))]) C 0 rfl rfl in_To 4 (by decide) ok_To nm_To kw_196 rfl rfl rfl (Nat.le_of_ble_eq_true rfl) rfl d_To_advance_14 ?_
  refine g_aload_n C 0 rfl d_To_advance_17 ?_
  refine g_get C 0 rfl rfl in_To 0 (by decide) kw_190 rfl d_To_advance_18 ?_
  refine g_aload_n C 0 rfl d_To_advance_21 ?_
  refine g_get C 0 rfl rfl in_To 1 (by decide) kw_191 rfl d_To_advance_22 ?_
  refine g_callVN0 (rest := []) (Xn := [(t0, .inr (11, [.ref q0, .int (nI (skp bf (t - j) j)), .int kd, .int (nI (skp bf (t - j) j)), .long 0])), (q0, .inr (10, [.ref q1, .int (nI t)])), (q1, .inl (g.2.1 0, 300, .inl bf))]) C (c_Ta_at l g q0 q1 t bf (nI (skp bf (t - j) j)) (by assumption)) [1, 2] [0] [0, 1, 2] rfl (by decide) (by decide) rfl mo_Ta_at mv_Ta_at kw_513 (by decide) (rcX 1 rfl rfl) rfl (Nat.le_of_ble_eq_true rfl) ⟨Nat.le_of_ble_eq_true rfl, Nat.le_of_ble_eq_true rfl⟩ d_To_advance_25 ?_
  have hs := skp_le bf (t - j) j
  generalize hpp : skp bf (t - j) j = p at hs C ⊢
  rcases Nat.lt_or_ge p t with hp | hp
  · refine g_eq (st1 := [.int (bf p)]) (congrArg (fun z => [Value.int z]) (tat_in hp ht)) rfl ?_
    refine g_istore_n (lv1 := [(0, .ref t0), (1, .int (bf p))]) C d_To_advance_28 [1, 0] (by decide) rfl ?_
    refine g_iload_n C 1 rfl d_To_advance_29 ?_
    refine g_iconst (v := (-1)) C rfl d_To_advance_30 ?_
    refine g_icmp_ne C d_To_advance_31 (fun _ => ?_) (fun c_1 => absurd c_1 (hb p))
    refine g_iload_n C 1 rfl d_To_advance_42 ?_
    refine g_callSN0 (rest := []) (Xn := [(t0, .inr (11, [.ref q0, .int (nI p), .int kd, .int (nI p), .long 0])), (q0, .inr (10, [.ref q1, .int (nI t)])), (q1, .inl (g.2.1 0, 300, .inl bf))]) C (c_TL_isLetter l g (bf p)) [] [0, 1, 2] [0, 1, 2] rfl (by decide) (by decide) rfl mo_TL_isLetter ms_TL_isLetter kw_518 (by decide) rfl (Nat.le_of_ble_eq_true rfl) ⟨Nat.le_of_ble_eq_true rfl, Nat.le_of_ble_eq_true rfl⟩ d_To_advance_43 ?_
    refine g_if_eq C d_To_advance_46 (fun c_2 => ?_) (fun c_2 => ?_)
    · have c_2 := zb_0.mp c_2
      refine g_iload_n C 1 rfl d_To_advance_56 ?_
      refine g_callSN0 (rest := []) (Xn := [(t0, .inr (11, [.ref q0, .int (nI p), .int kd, .int (nI p), .long 0])), (q0, .inr (10, [.ref q1, .int (nI t)])), (q1, .inl (g.2.1 0, 300, .inl bf))]) C (c_TL_isDigit l g (bf p)) [] [0, 1, 2] [0, 1, 2] rfl (by decide) (by decide) rfl mo_TL_isDigit ms_TL_isDigit kw_523 (by decide) rfl (Nat.le_of_ble_eq_true rfl) ⟨Nat.le_of_ble_eq_true rfl, Nat.le_of_ble_eq_true rfl⟩ d_To_advance_57 ?_
      refine g_if_eq C d_To_advance_60 (fun c_3 => ?_) (fun c_3 => ?_)
      · have c_3 := zb_0.mp c_3
        refine g_aload_n C 0 rfl d_To_advance_70 ?_
        refine g_iload_n C 1 rfl d_To_advance_71 ?_
        refine g_callV0 (rest := []) (Xn := [(t0, .inr (11, [.ref q0, .int (nI (p + 1)), .int (if (bf p) = 58 ∨ (bf p) = 59 ∨ (bf p) = 63 then 4 else 1), .int (nI p), .long (Int32.toInt64 (bf p))])), (q0, .inr (10, [.ref q1, .int (nI t)])), (q1, .inl (g.2.1 0, 300, .inl bf))]) C (c_To_readSign l g t0 q0 p kd (nI p) (bf p) 0) [0] [1, 2] [2, 0, 1] rfl (by decide) (by decide) rfl mo_To_readSign mv_To_readSign kw_531 (by decide) (rcX 0 rfl rfl) rfl (Nat.le_of_ble_eq_true rfl) ⟨Nat.le_of_ble_eq_true rfl, Nat.le_of_ble_eq_true rfl⟩ d_To_advance_72 ?_
        exact g_vret C rfl ⟨rfl, (by simp [adv, hpp, hp, c_2, c_3]), rfl⟩ (by decide) (by decide) d_To_advance_75
      · have c_3 := zb_n0.mp c_3
        refine g_aload_n C 0 rfl d_To_advance_63 ?_
        refine g_callV0 (rest := []) (Xn := [(t0, .inr (11, [.ref q0, .int (nI (rdn bf (t - p) p 0).1), .int (if (rdn bf (t - p) p 0).1 - p ≤ 4 ∧ isL (tat bf t (nI (rdn bf (t - p) p 0).1)) = false then 3 else 1), .int (nI p), .long ((rdn bf (t - p) p 0).2)])), (q0, .inr (10, [.ref q1, .int (nI t)])), (q1, .inl (g.2.1 0, 300, .inl bf))]) C (c_To_readNumber l g t0 q0 q1 t p p bf kd 0 ht (by omega) (by omega)) [0, 1, 2] [] [0, 1, 2] rfl (by decide) (by decide) rfl mo_To_readNumber mv_To_readNumber kw_526 (by decide) (rcX 0 rfl rfl) rfl (Nat.le_of_ble_eq_true rfl) ⟨Nat.le_of_ble_eq_true rfl, Nat.le_of_ble_eq_true rfl⟩ d_To_advance_64 ?_
        refine g_goto C d_To_advance_67 ?_
        exact g_vret C rfl ⟨rfl, (by simp [adv, hpp, hp, c_2, c_3]), rfl⟩ (by decide) (by decide) d_To_advance_75
    · have c_2 := zb_n0.mp c_2
      refine g_aload_n C 0 rfl d_To_advance_49 ?_
      refine g_callV0 (rest := []) (Xn := [(t0, .inr (11, [.ref q0, .int (nI (rdw bf (t - p) p 0).1), .int (if (rdw bf (t - p) p 0).1 - p ≤ 8 then 2 else 1), .int (nI p), .long ((rdw bf (t - p) p 0).2)])), (q0, .inr (10, [.ref q1, .int (nI t)])), (q1, .inl (g.2.1 0, 300, .inl bf))]) C (c_To_readWord l g t0 q0 q1 t p p bf kd 0 ht (by omega) (by omega)) [0, 1, 2] [] [0, 1, 2] rfl (by decide) (by decide) rfl mo_To_readWord mv_To_readWord kw_519 (by decide) (rcX 0 rfl rfl) rfl (Nat.le_of_ble_eq_true rfl) ⟨Nat.le_of_ble_eq_true rfl, Nat.le_of_ble_eq_true rfl⟩ d_To_advance_50 ?_
      refine g_goto C d_To_advance_53 ?_
      exact g_vret C rfl ⟨rfl, (by simp [adv, hpp, hp, c_2]), rfl⟩ (by decide) (by decide) d_To_advance_75
  · refine g_eq (st1 := [.int (-1)]) (congrArg (fun z => [Value.int z]) (tat_out (by omega) (by omega))) rfl ?_
    refine g_istore_n (lv1 := [(0, .ref t0), (1, .int (-1))]) C d_To_advance_28 [1, 0] (by decide) rfl ?_
    refine g_iload_n C 1 rfl d_To_advance_29 ?_
    refine g_iconst (v := (-1)) C rfl d_To_advance_30 ?_
    refine g_icmp_ne C d_To_advance_31 (fun c_4 => absurd c_4 (by decide)) (fun _ => ?_)
    refine g_aload_n C 0 rfl d_To_advance_34 ?_
    refine g_iconst (v := 0) C rfl d_To_advance_35 ?_
    refine g_put (X1 := [(t0, .inr (11, [.ref q0, .int (nI p), .int 0, .int (nI p), .long 0])), (q0, .inr (10, [.ref q1, .int (nI t)])), (q1, .inl (g.2.1 0, 300, .inl bf))]) C 0 rfl rfl in_To 2 (by decide) ok_To nm_To kw_192 rfl rfl rfl (Nat.le_of_ble_eq_true rfl) rfl d_To_advance_36 ?_
    refine g_goto C d_To_advance_39 ?_
    exact g_vret C rfl ⟨rfl, (by simp [adv, hpp, Nat.not_lt.mpr hp]), rfl⟩ (by decide) (by decide) d_To_advance_75

