/-- the text's bytes; behind its end 0 -/
def bfM (xf : Nat → Int32) (sz : Nat) (j : Nat) : Int32 := sgn xf sz (nI j)
theorem bfM_out {xf : Nat → Int32} {sz j : Nat} (h : sz ≤ j) (hj : j ≤ 300) : bfM xf sz j = 0 := by
  unfold bfM sgn
  rw [if_neg (nI_nlt h (by omega))]
theorem bfM_in {xf : Nat → Int32} {sz j : Nat} (h : j < sz) (hs : sz ≤ 300) : bfM xf sz j = xf j &&& 255 := by
  unfold bfM sgn
  rw [if_pos (nI_lt h (by omega)), nI_clamp (by omega)]
def ltE (bf : Nat → Int32) : Nat → Nat → Nat
  | 0, e => e
  | k + 1, e => if isL (bf e) then ltE bf k (e + 1) else e
theorem ltE_le (bf : Nat → Int32) : ∀ k e, e ≤ ltE bf k e ∧ ltE bf k e ≤ e + k
  | 0, e => ⟨Nat.le_refl e, Nat.le_refl e⟩
  | k + 1, e => by
    unfold ltE
    split
    · have := ltE_le bf k (e + 1); omega
    · omega
def nmL (bf : Nat → Int32) : Nat → Nat → Int64 → Int64
  | 0, _, v => v
  | k + 1, i, v => nmL bf k (i + 1) ((v <<< (Int32.toInt64 8 &&& 63)) ||| Int32.toInt64 (bf i))
def dgL (bf : Nat → Int32) (a : Nat) : Nat → Nat → Int32 → Nat × Int32
  | 0, e, v => (e, v)
  | k + 1, e, v => if isDg (bf e) then dgL bf a k (e + 1) (if e - a < 4 then 10 * v + bf e - 48 else v) else (e, v)
theorem dgL_le (bf : Nat → Int32) (a : Nat) : ∀ k e v, e ≤ (dgL bf a k e v).1 ∧ (dgL bf a k e v).1 ≤ e + k
  | 0, e, v => ⟨Nat.le_refl e, Nat.le_refl e⟩
  | k + 1, e, v => by
    unfold dgL
    split
    · have := dgL_le bf a k (e + 1) (if e - a < 4 then 10 * v + bf e - 48 else v); omega
    · simp
/-- the reader's own numbers: at, end, token, number, name, fault, its place -/
abbrev MS : Type := Nat × Nat × Int32 × Int32 × Int64 × Int32 × Int32
def nxM (xf : Nat → Int32) (sz : Nat) (s : MS) : MS :=
  if skp (bfM xf sz) (sz - s.2.1) s.2.1 < sz then
    if isL (bfM xf sz (skp (bfM xf sz) (sz - s.2.1) s.2.1)) then
      (skp (bfM xf sz) (sz - s.2.1) s.2.1, ltE (bfM xf sz) (sz - (skp (bfM xf sz) (sz - s.2.1) s.2.1 + 1)) (skp (bfM xf sz) (sz - s.2.1) s.2.1 + 1),
       if 8 < ltE (bfM xf sz) (sz - (skp (bfM xf sz) (sz - s.2.1) s.2.1 + 1)) (skp (bfM xf sz) (sz - s.2.1) s.2.1 + 1) - skp (bfM xf sz) (sz - s.2.1) s.2.1 then 1 else if kepM (nmL (bfM xf sz) (min (ltE (bfM xf sz) (sz - (skp (bfM xf sz) (sz - s.2.1) s.2.1 + 1)) (skp (bfM xf sz) (sz - s.2.1) s.2.1 + 1)) (skp (bfM xf sz) (sz - s.2.1) s.2.1 + 8) - skp (bfM xf sz) (sz - s.2.1) s.2.1) (skp (bfM xf sz) (sz - s.2.1) s.2.1) 0) then 3 else 2,
       s.2.2.2.1, nmL (bfM xf sz) (min (ltE (bfM xf sz) (sz - (skp (bfM xf sz) (sz - s.2.1) s.2.1 + 1)) (skp (bfM xf sz) (sz - s.2.1) s.2.1 + 1)) (skp (bfM xf sz) (sz - s.2.1) s.2.1 + 8) - skp (bfM xf sz) (sz - s.2.1) s.2.1) (skp (bfM xf sz) (sz - s.2.1) s.2.1) 0, s.2.2.2.2.2.1, s.2.2.2.2.2.2)
    else if isDg (bfM xf sz (skp (bfM xf sz) (sz - s.2.1) s.2.1)) then
      (skp (bfM xf sz) (sz - s.2.1) s.2.1, (dgL (bfM xf sz) (skp (bfM xf sz) (sz - s.2.1) s.2.1) (sz - skp (bfM xf sz) (sz - s.2.1) s.2.1) (skp (bfM xf sz) (sz - s.2.1) s.2.1) 0).1,
       if 4 < (dgL (bfM xf sz) (skp (bfM xf sz) (sz - s.2.1) s.2.1) (sz - skp (bfM xf sz) (sz - s.2.1) s.2.1) (skp (bfM xf sz) (sz - s.2.1) s.2.1) 0).1 - skp (bfM xf sz) (sz - s.2.1) s.2.1 ∨ isL (bfM xf sz (dgL (bfM xf sz) (skp (bfM xf sz) (sz - s.2.1) s.2.1) (sz - skp (bfM xf sz) (sz - s.2.1) s.2.1) (skp (bfM xf sz) (sz - s.2.1) s.2.1) 0).1) then 1 else 4,
       (dgL (bfM xf sz) (skp (bfM xf sz) (sz - s.2.1) s.2.1) (sz - skp (bfM xf sz) (sz - s.2.1) s.2.1) (skp (bfM xf sz) (sz - s.2.1) s.2.1) 0).2, s.2.2.2.2.1, s.2.2.2.2.2.1, s.2.2.2.2.2.2)
    else (skp (bfM xf sz) (sz - s.2.1) s.2.1, skp (bfM xf sz) (sz - s.2.1) s.2.1 + 1, if bfM xf sz (skp (bfM xf sz) (sz - s.2.1) s.2.1) = 58 ∨ bfM xf sz (skp (bfM xf sz) (sz - s.2.1) s.2.1) = 59 ∨ bfM xf sz (skp (bfM xf sz) (sz - s.2.1) s.2.1) = 63 then 5 else 1, s.2.2.2.1, s.2.2.2.2.1, s.2.2.2.2.2.1, s.2.2.2.2.2.2)
  else (sz, sz, 0, s.2.2.2.1, s.2.2.2.2.1, s.2.2.2.2.2.1, s.2.2.2.2.2.2)
set_option maxHeartbeats 4000000 in
set_option maxRecDepth 100000 in
theorem lp_Mo_next8 (l : Launch) (g : Gx) {κ : Kx} {E : Ex} {P : va_W} (h r0 r1 r2 r5 r6 r16 r17 r18 r19 r20 r21 r22 r23 r25 r27 r28 r29 r30 r31 r33 r34 r35 r36 r37 r38 r39 r40 sz : Nat) (mn dt tp fk fp tk fl wa co db : Int32) (xf : Nat → Int32) (en nu : Int32) (nm : Int64) (hs : sz ≤ 300) (C : zC κ l g ({ frames := 2, cells := 0, slots := 0, locals := 42 }) b_Mo_next 3 "TombLaneModel" "next" (none : Option FieldType) E) : ∀ (k : Nat) (j : Nat), (j + k = sz) → (G κ 3 0 0 58 [(0, .ref h)] [] [(h, .inr (13, [.ref r0, .ref r1, .ref r2, .int mn, .int dt, .ref r5, .ref r6, .int tp, .int (nI sz), .int fk, .int fp, .int (nI (skp (bfM xf sz) k j)), .int en, .int tk, .int nu, .long nm, .ref r16, .ref r17, .ref r18, .ref r19, .ref r20, .ref r21, .ref r22, .ref r23, .int fl, .ref r25, .int wa, .ref r27, .ref r28, .ref r29, .ref r30, .ref r31, .int co, .ref r33, .ref r34, .ref r35, .ref r36, .ref r37, .ref r38, .ref r39, .ref r40, .int db])), (r6, .inl (g.2.1 2, 300, .inl xf))] P) → G κ 3 0 0 8 [(0, .ref h)] [] [(h, .inr (13, [.ref r0, .ref r1, .ref r2, .int mn, .int dt, .ref r5, .ref r6, .int tp, .int (nI sz), .int fk, .int fp, .int (nI j), .int en, .int tk, .int nu, .long nm, .ref r16, .ref r17, .ref r18, .ref r19, .ref r20, .ref r21, .ref r22, .ref r23, .int fl, .ref r25, .int wa, .ref r27, .ref r28, .ref r29, .ref r30, .ref r31, .int co, .ref r33, .ref r34, .ref r35, .ref r36, .ref r37, .ref r38, .ref r39, .ref r40, .int db])), (r6, .inl (g.2.1 2, 300, .inl xf))] P := by
  intro k
  induction k with
  | zero =>
    intro j hj hE
    refine g_aload_n C 0 rfl d_Mo_next_8 ?_
    refine g_get C 0 rfl rfl in_Mo 11 (by decide) kw_1031 rfl d_Mo_next_9 ?_
    refine g_aload_n C 0 rfl d_Mo_next_12 ?_
    refine g_get C 0 rfl rfl in_Mo 8 (by decide) kw_1028 rfl d_Mo_next_13 ?_
    refine g_icmp_ge C d_Mo_next_16 (fun _ => ?_) (fun c_1 => absurd (nI_le (by omega) (by omega)) c_1)
    exact hE
  | succ k ih =>
    intro j hj hE
    refine g_aload_n C 0 rfl d_Mo_next_8 ?_
    refine g_get C 0 rfl rfl in_Mo 11 (by decide) kw_1031 rfl d_Mo_next_9 ?_
    refine g_aload_n C 0 rfl d_Mo_next_12 ?_
    refine g_get C 0 rfl rfl in_Mo 8 (by decide) kw_1028 rfl d_Mo_next_13 ?_
    refine g_icmp_ge C d_Mo_next_16 (fun c_1 => absurd c_1 (nI_ge (by omega) (by omega))) (fun _ => ?_)
    refine g_aload_n C 0 rfl d_Mo_next_19 ?_
    refine g_aload_n C 0 rfl d_Mo_next_20 ?_
    refine g_get C 0 rfl rfl in_Mo 11 (by decide) kw_1031 rfl d_Mo_next_21 ?_
    refine g_callV0 (rest := []) (Xn := [(h, .inr (13, [.ref r0, .ref r1, .ref r2, .int mn, .int dt, .ref r5, .ref r6, .int tp, .int (nI sz), .int fk, .int fp, .int (nI j), .int en, .int tk, .int nu, .long nm, .ref r16, .ref r17, .ref r18, .ref r19, .ref r20, .ref r21, .ref r22, .ref r23, .int fl, .ref r25, .int wa, .ref r27, .ref r28, .ref r29, .ref r30, .ref r31, .int co, .ref r33, .ref r34, .ref r35, .ref r36, .ref r37, .ref r38, .ref r39, .ref r40, .int db])), (r6, .inl (g.2.1 2, 300, .inl xf))]) C (c_Mo_sign l g h r0 r1 r2 r5 r6 r16 r17 r18 r19 r20 r21 r22 r23 r25 r27 r28 r29 r30 r31 r33 r34 r35 r36 r37 r38 r39 r40 sz mn dt tp fk fp (nI j) en tk nu fl wa co db nm xf (nI j) (by first | assumption | omega | exact nI_pos (by omega)) (by first | assumption | omega | exact nI_pos (by omega))) [0, 1] [] [0, 1] rfl (by decide) (by decide) rfl mo_Mo_sign mv_Mo_sign kw_914 (by decide) (rcX 0 rfl rfl) rfl (Nat.le_of_ble_eq_true rfl) ⟨Nat.le_of_ble_eq_true rfl, Nat.le_of_ble_eq_true rfl⟩ d_Mo_next_24 ?_
    refine g_eq (st1 := [.int (bfM xf sz j)]) (congrArg (fun z => Value.int z :: []) rfl) rfl ?_
    refine g_bipush (v := 32) C rfl d_Mo_next_27 ?_
    refine g_icmp_eq C d_Mo_next_29 (fun c_2 => ?_) (fun c_2 => ?_)
    · skip
      refine g_aload_n C 0 rfl d_Mo_next_45 ?_
      refine g_dup C rfl d_Mo_next_46 ?_
      refine g_get C 0 rfl rfl in_Mo 11 (by decide) kw_1031 rfl d_Mo_next_47 ?_
      refine g_iconst (v := 1) C rfl d_Mo_next_50 ?_
      refine g_iadd C d_Mo_next_51 ?_
      refine g_eq (st1 := [.int (nI (j + 1)), .ref h]) (congrArg (fun z => Value.int z :: [.ref h]) (nI_add j 1)) rfl ?_
      refine g_put (X1 := [(h, .inr (13, [.ref r0, .ref r1, .ref r2, .int mn, .int dt, .ref r5, .ref r6, .int tp, .int (nI sz), .int fk, .int fp, .int (nI (j + 1)), .int en, .int tk, .int nu, .long nm, .ref r16, .ref r17, .ref r18, .ref r19, .ref r20, .ref r21, .ref r22, .ref r23, .int fl, .ref r25, .int wa, .ref r27, .ref r28, .ref r29, .ref r30, .ref r31, .int co, .ref r33, .ref r34, .ref r35, .ref r36, .ref r37, .ref r38, .ref r39, .ref r40, .int db])), (r6, .inl (g.2.1 2, 300, .inl xf))]) C 0 rfl rfl in_Mo 11 (by decide) ok_Mo nm_Mo kw_1031 rfl rfl rfl (Nat.le_of_ble_eq_true rfl) rfl d_Mo_next_52 ?_
      refine g_goto C d_Mo_next_55 ?_
      exact ih (j + 1) (by omega) (by simpa [skp, eq_true c_2] using hE)
    · skip
      refine g_aload_n C 0 rfl d_Mo_next_32 ?_
      refine g_aload_n C 0 rfl d_Mo_next_33 ?_
      refine g_get C 0 rfl rfl in_Mo 11 (by decide) kw_1031 rfl d_Mo_next_34 ?_
      refine g_callV0 (rest := []) (Xn := [(h, .inr (13, [.ref r0, .ref r1, .ref r2, .int mn, .int dt, .ref r5, .ref r6, .int tp, .int (nI sz), .int fk, .int fp, .int (nI j), .int en, .int tk, .int nu, .long nm, .ref r16, .ref r17, .ref r18, .ref r19, .ref r20, .ref r21, .ref r22, .ref r23, .int fl, .ref r25, .int wa, .ref r27, .ref r28, .ref r29, .ref r30, .ref r31, .int co, .ref r33, .ref r34, .ref r35, .ref r36, .ref r37, .ref r38, .ref r39, .ref r40, .int db])), (r6, .inl (g.2.1 2, 300, .inl xf))]) C (c_Mo_sign l g h r0 r1 r2 r5 r6 r16 r17 r18 r19 r20 r21 r22 r23 r25 r27 r28 r29 r30 r31 r33 r34 r35 r36 r37 r38 r39 r40 sz mn dt tp fk fp (nI j) en tk nu fl wa co db nm xf (nI j) (by first | assumption | omega | exact nI_pos (by omega)) (by first | assumption | omega | exact nI_pos (by omega))) [0, 1] [] [0, 1] rfl (by decide) (by decide) rfl mo_Mo_sign mv_Mo_sign kw_914 (by decide) (rcX 0 rfl rfl) rfl (Nat.le_of_ble_eq_true rfl) ⟨Nat.le_of_ble_eq_true rfl, Nat.le_of_ble_eq_true rfl⟩ d_Mo_next_37 ?_
      refine g_eq (st1 := [.int (bfM xf sz j)]) (congrArg (fun z => Value.int z :: []) rfl) rfl ?_
      refine g_bipush (v := 10) C rfl d_Mo_next_40 ?_
      refine g_icmp_ne C d_Mo_next_42 (fun c_3 => ?_) (fun c_3 => ?_)
      · skip
        exact (by simpa [skp, c_2, c_3] using hE)
      · skip
        refine g_aload_n C 0 rfl d_Mo_next_45 ?_
        refine g_dup C rfl d_Mo_next_46 ?_
        refine g_get C 0 rfl rfl in_Mo 11 (by decide) kw_1031 rfl d_Mo_next_47 ?_
        refine g_iconst (v := 1) C rfl d_Mo_next_50 ?_
        refine g_iadd C d_Mo_next_51 ?_
        refine g_eq (st1 := [.int (nI (j + 1)), .ref h]) (congrArg (fun z => Value.int z :: [.ref h]) (nI_add j 1)) rfl ?_
        refine g_put (X1 := [(h, .inr (13, [.ref r0, .ref r1, .ref r2, .int mn, .int dt, .ref r5, .ref r6, .int tp, .int (nI sz), .int fk, .int fp, .int (nI (j + 1)), .int en, .int tk, .int nu, .long nm, .ref r16, .ref r17, .ref r18, .ref r19, .ref r20, .ref r21, .ref r22, .ref r23, .int fl, .ref r25, .int wa, .ref r27, .ref r28, .ref r29, .ref r30, .ref r31, .int co, .ref r33, .ref r34, .ref r35, .ref r36, .ref r37, .ref r38, .ref r39, .ref r40, .int db])), (r6, .inl (g.2.1 2, 300, .inl xf))]) C 0 rfl rfl in_Mo 11 (by decide) ok_Mo nm_Mo kw_1031 rfl rfl rfl (Nat.le_of_ble_eq_true rfl) rfl d_Mo_next_52 ?_
        refine g_goto C d_Mo_next_55 ?_
        exact ih (j + 1) (by omega) (by simpa [skp, c_2, eq_true c_3] using hE)

set_option maxHeartbeats 4000000 in
set_option maxRecDepth 100000 in
theorem lp_Mo_next119 (l : Launch) (g : Gx) {κ : Kx} {E : Ex} {P : va_W} (h r0 r1 r2 r5 r6 r16 r17 r18 r19 r20 r21 r22 r23 r25 r27 r28 r29 r30 r31 r33 r34 r35 r36 r37 r38 r39 r40 sz : Nat) (mn dt tp fk fp tk fl wa co db : Int32) (xf : Nat → Int32) (a : Nat) (nu : Int32) (nm : Int64) (hs : sz ≤ 300) (C : zC κ l g ({ frames := 2, cells := 0, slots := 0, locals := 42 }) b_Mo_next 3 "TombLaneModel" "next" (none : Option FieldType) E) : ∀ (k : Nat) (e : Nat), (e + k = sz) → (G κ 3 0 0 146 [(0, .ref h)] [] [(h, .inr (13, [.ref r0, .ref r1, .ref r2, .int mn, .int dt, .ref r5, .ref r6, .int tp, .int (nI sz), .int fk, .int fp, .int (nI a), .int (nI (ltE (bfM xf sz) k e)), .int tk, .int nu, .long nm, .ref r16, .ref r17, .ref r18, .ref r19, .ref r20, .ref r21, .ref r22, .ref r23, .int fl, .ref r25, .int wa, .ref r27, .ref r28, .ref r29, .ref r30, .ref r31, .int co, .ref r33, .ref r34, .ref r35, .ref r36, .ref r37, .ref r38, .ref r39, .ref r40, .int db])), (r6, .inl (g.2.1 2, 300, .inl xf))] P) → G κ 3 0 0 119 [(0, .ref h)] [] [(h, .inr (13, [.ref r0, .ref r1, .ref r2, .int mn, .int dt, .ref r5, .ref r6, .int tp, .int (nI sz), .int fk, .int fp, .int (nI a), .int (nI e), .int tk, .int nu, .long nm, .ref r16, .ref r17, .ref r18, .ref r19, .ref r20, .ref r21, .ref r22, .ref r23, .int fl, .ref r25, .int wa, .ref r27, .ref r28, .ref r29, .ref r30, .ref r31, .int co, .ref r33, .ref r34, .ref r35, .ref r36, .ref r37, .ref r38, .ref r39, .ref r40, .int db])), (r6, .inl (g.2.1 2, 300, .inl xf))] P := by
  intro k
  induction k with
  | zero =>
    intro e he hE
    refine g_aload_n C 0 rfl d_Mo_next_119 ?_
    refine g_aload_n C 0 rfl d_Mo_next_120 ?_
    refine g_get C 0 rfl rfl in_Mo 12 (by decide) kw_1032 rfl d_Mo_next_121 ?_
    refine g_callV0 (rest := []) (Xn := [(h, .inr (13, [.ref r0, .ref r1, .ref r2, .int mn, .int dt, .ref r5, .ref r6, .int tp, .int (nI sz), .int fk, .int fp, .int (nI a), .int (nI e), .int tk, .int nu, .long nm, .ref r16, .ref r17, .ref r18, .ref r19, .ref r20, .ref r21, .ref r22, .ref r23, .int fl, .ref r25, .int wa, .ref r27, .ref r28, .ref r29, .ref r30, .ref r31, .int co, .ref r33, .ref r34, .ref r35, .ref r36, .ref r37, .ref r38, .ref r39, .ref r40, .int db])), (r6, .inl (g.2.1 2, 300, .inl xf))]) C (c_Mo_sign l g h r0 r1 r2 r5 r6 r16 r17 r18 r19 r20 r21 r22 r23 r25 r27 r28 r29 r30 r31 r33 r34 r35 r36 r37 r38 r39 r40 sz mn dt tp fk fp (nI a) (nI e) tk nu fl wa co db nm xf (nI e) (by first | assumption | omega | exact nI_pos (by omega)) (by first | assumption | omega | exact nI_pos (by omega))) [0, 1] [] [0, 1] rfl (by decide) (by decide) rfl mo_Mo_sign mv_Mo_sign kw_914 (by decide) (rcX 0 rfl rfl) rfl (Nat.le_of_ble_eq_true rfl) ⟨Nat.le_of_ble_eq_true rfl, Nat.le_of_ble_eq_true rfl⟩ d_Mo_next_124 ?_
    refine g_eq (st1 := [.int (bfM xf sz e)]) (congrArg (fun z => Value.int z :: []) rfl) rfl ?_
    refine g_callS0 (rest := []) (Xn := [(h, .inr (13, [.ref r0, .ref r1, .ref r2, .int mn, .int dt, .ref r5, .ref r6, .int tp, .int (nI sz), .int fk, .int fp, .int (nI a), .int (nI e), .int tk, .int nu, .long nm, .ref r16, .ref r17, .ref r18, .ref r19, .ref r20, .ref r21, .ref r22, .ref r23, .int fl, .ref r25, .int wa, .ref r27, .ref r28, .ref r29, .ref r30, .ref r31, .int co, .ref r33, .ref r34, .ref r35, .ref r36, .ref r37, .ref r38, .ref r39, .ref r40, .int db])), (r6, .inl (g.2.1 2, 300, .inl xf))]) C (c_Mo_isLetter l g (bfM xf sz e)) [] [0, 1] [0, 1] rfl (by decide) (by decide) rfl mo_Mo_isLetter ms_Mo_isLetter kw_875 (by decide) rfl (Nat.le_of_ble_eq_true rfl) ⟨Nat.le_of_ble_eq_true rfl, Nat.le_of_ble_eq_true rfl⟩ d_Mo_next_127 ?_
    refine g_if_eq C d_Mo_next_130 (fun _ => ?_) (fun c_1 => absurd (zb_0.mpr (by rw [bfM_out (by omega) (by omega)]; decide)) c_1)
    exact hE
  | succ k ih =>
    intro e he hE
    refine g_aload_n C 0 rfl d_Mo_next_119 ?_
    refine g_aload_n C 0 rfl d_Mo_next_120 ?_
    refine g_get C 0 rfl rfl in_Mo 12 (by decide) kw_1032 rfl d_Mo_next_121 ?_
    refine g_callV0 (rest := []) (Xn := [(h, .inr (13, [.ref r0, .ref r1, .ref r2, .int mn, .int dt, .ref r5, .ref r6, .int tp, .int (nI sz), .int fk, .int fp, .int (nI a), .int (nI e), .int tk, .int nu, .long nm, .ref r16, .ref r17, .ref r18, .ref r19, .ref r20, .ref r21, .ref r22, .ref r23, .int fl, .ref r25, .int wa, .ref r27, .ref r28, .ref r29, .ref r30, .ref r31, .int co, .ref r33, .ref r34, .ref r35, .ref r36, .ref r37, .ref r38, .ref r39, .ref r40, .int db])), (r6, .inl (g.2.1 2, 300, .inl xf))]) C (c_Mo_sign l g h r0 r1 r2 r5 r6 r16 r17 r18 r19 r20 r21 r22 r23 r25 r27 r28 r29 r30 r31 r33 r34 r35 r36 r37 r38 r39 r40 sz mn dt tp fk fp (nI a) (nI e) tk nu fl wa co db nm xf (nI e) (by first | assumption | omega | exact nI_pos (by omega)) (by first | assumption | omega | exact nI_pos (by omega))) [0, 1] [] [0, 1] rfl (by decide) (by decide) rfl mo_Mo_sign mv_Mo_sign kw_914 (by decide) (rcX 0 rfl rfl) rfl (Nat.le_of_ble_eq_true rfl) ⟨Nat.le_of_ble_eq_true rfl, Nat.le_of_ble_eq_true rfl⟩ d_Mo_next_124 ?_
    refine g_eq (st1 := [.int (bfM xf sz e)]) (congrArg (fun z => Value.int z :: []) rfl) rfl ?_
    refine g_callS0 (rest := []) (Xn := [(h, .inr (13, [.ref r0, .ref r1, .ref r2, .int mn, .int dt, .ref r5, .ref r6, .int tp, .int (nI sz), .int fk, .int fp, .int (nI a), .int (nI e), .int tk, .int nu, .long nm, .ref r16, .ref r17, .ref r18, .ref r19, .ref r20, .ref r21, .ref r22, .ref r23, .int fl, .ref r25, .int wa, .ref r27, .ref r28, .ref r29, .ref r30, .ref r31, .int co, .ref r33, .ref r34, .ref r35, .ref r36, .ref r37, .ref r38, .ref r39, .ref r40, .int db])), (r6, .inl (g.2.1 2, 300, .inl xf))]) C (c_Mo_isLetter l g (bfM xf sz e)) [] [0, 1] [0, 1] rfl (by decide) (by decide) rfl mo_Mo_isLetter ms_Mo_isLetter kw_875 (by decide) rfl (Nat.le_of_ble_eq_true rfl) ⟨Nat.le_of_ble_eq_true rfl, Nat.le_of_ble_eq_true rfl⟩ d_Mo_next_127 ?_
    refine g_if_eq C d_Mo_next_130 (fun c_1 => ?_) (fun c_1 => ?_)
    · have c_1 := zb_0.mp c_1
      exact (by simpa [ltE, c_1] using hE)
    · have c_1 := zb_n0.mp c_1
      refine g_aload_n C 0 rfl d_Mo_next_133 ?_
      refine g_dup C rfl d_Mo_next_134 ?_
      refine g_get C 0 rfl rfl in_Mo 12 (by decide) kw_1032 rfl d_Mo_next_135 ?_
      refine g_iconst (v := 1) C rfl d_Mo_next_138 ?_
      refine g_iadd C d_Mo_next_139 ?_
      refine g_eq (st1 := [.int (nI (e + 1)), .ref h]) (congrArg (fun z => Value.int z :: [.ref h]) (nI_add e 1)) rfl ?_
      refine g_put (X1 := [(h, .inr (13, [.ref r0, .ref r1, .ref r2, .int mn, .int dt, .ref r5, .ref r6, .int tp, .int (nI sz), .int fk, .int fp, .int (nI a), .int (nI (e + 1)), .int tk, .int nu, .long nm, .ref r16, .ref r17, .ref r18, .ref r19, .ref r20, .ref r21, .ref r22, .ref r23, .int fl, .ref r25, .int wa, .ref r27, .ref r28, .ref r29, .ref r30, .ref r31, .int co, .ref r33, .ref r34, .ref r35, .ref r36, .ref r37, .ref r38, .ref r39, .ref r40, .int db])), (r6, .inl (g.2.1 2, 300, .inl xf))]) C 0 rfl rfl in_Mo 12 (by decide) ok_Mo nm_Mo kw_1032 rfl rfl rfl (Nat.le_of_ble_eq_true rfl) rfl d_Mo_next_140 ?_
      refine g_goto C d_Mo_next_143 ?_
      exact ih (e + 1) (by omega) (by simpa [ltE, c_1] using hE)

set_option maxHeartbeats 4000000 in
set_option maxRecDepth 100000 in
theorem lp_Mo_next156 (l : Launch) (g : Gx) {κ : Kx} {E : Ex} {P : va_W} (h r0 r1 r2 r5 r6 r16 r17 r18 r19 r20 r21 r22 r23 r25 r27 r28 r29 r30 r31 r33 r34 r35 r36 r37 r38 r39 r40 sz : Nat) (mn dt tp fk fp tk fl wa co db : Int32) (xf : Nat → Int32) (a e : Nat) (nu : Int32) (hs : sz ≤ 300) (hae : a ≤ e) (hes : e ≤ sz) (C : zC κ l g ({ frames := 2, cells := 0, slots := 0, locals := 42 }) b_Mo_next 3 "TombLaneModel" "next" (none : Option FieldType) E) : ∀ (k : Nat) (i : Nat) (v : Int64), (i + k = min e (a + 8)) → (G κ 3 0 0 199 [(0, .ref h)] [] [(h, .inr (13, [.ref r0, .ref r1, .ref r2, .int mn, .int dt, .ref r5, .ref r6, .int tp, .int (nI sz), .int fk, .int fp, .int (nI a), .int (nI e), .int tk, .int nu, .long (nmL (bfM xf sz) k i v), .ref r16, .ref r17, .ref r18, .ref r19, .ref r20, .ref r21, .ref r22, .ref r23, .int fl, .ref r25, .int wa, .ref r27, .ref r28, .ref r29, .ref r30, .ref r31, .int co, .ref r33, .ref r34, .ref r35, .ref r36, .ref r37, .ref r38, .ref r39, .ref r40, .int db])), (r6, .inl (g.2.1 2, 300, .inl xf))] P) → G κ 3 0 0 156 [(0, .ref h), (2, .int (nI i))] [] [(h, .inr (13, [.ref r0, .ref r1, .ref r2, .int mn, .int dt, .ref r5, .ref r6, .int tp, .int (nI sz), .int fk, .int fp, .int (nI a), .int (nI e), .int tk, .int nu, .long v, .ref r16, .ref r17, .ref r18, .ref r19, .ref r20, .ref r21, .ref r22, .ref r23, .int fl, .ref r25, .int wa, .ref r27, .ref r28, .ref r29, .ref r30, .ref r31, .int co, .ref r33, .ref r34, .ref r35, .ref r36, .ref r37, .ref r38, .ref r39, .ref r40, .int db])), (r6, .inl (g.2.1 2, 300, .inl xf))] P := by
  intro k
  induction k with
  | zero =>
    intro i v hi hE
    refine g_iload_n C 1 rfl d_Mo_next_156 ?_
    refine g_aload_n C 0 rfl d_Mo_next_157 ?_
    refine g_get C 0 rfl rfl in_Mo 12 (by decide) kw_1032 rfl d_Mo_next_158 ?_
    refine g_icmp_ge C d_Mo_next_161 (fun c_1 => ?_) (fun c_1 => ?_)
    · skip
      have n_1 : e ≤ i := (nI_leI (a := e) (b := i) (by omega) (by omega)).mp c_1
      refine g_lv (lv1 := [(0, .ref h)]) [0] rfl ?_
      exact hE
    · skip
      have n_1 : i < e := Nat.not_le.mp (fun z => c_1 ((nI_leI (a := e) (b := i) (by omega) (by omega)).mpr z))
      refine g_iload_n C 1 rfl d_Mo_next_164 ?_
      refine g_aload_n C 0 rfl d_Mo_next_165 ?_
      refine g_get C 0 rfl rfl in_Mo 11 (by decide) kw_1031 rfl d_Mo_next_166 ?_
      refine g_bipush (v := 8) C rfl d_Mo_next_169 ?_
      refine g_iadd C d_Mo_next_171 ?_
      refine g_eq (st1 := [.int (nI (a + 8)), .int (nI i)]) (congrArg (fun z => Value.int z :: [.int (nI i)]) (nI_add a 8)) rfl ?_
      refine g_icmp_ge C d_Mo_next_172 (fun _ => ?_) (fun c_2 => absurd (nI_le (by omega) (by omega)) c_2)
      refine g_lv (lv1 := [(0, .ref h)]) [0] rfl ?_
      exact hE
  | succ k ih =>
    intro i v hi hE
    refine g_iload_n C 1 rfl d_Mo_next_156 ?_
    refine g_aload_n C 0 rfl d_Mo_next_157 ?_
    refine g_get C 0 rfl rfl in_Mo 12 (by decide) kw_1032 rfl d_Mo_next_158 ?_
    refine g_icmp_ge C d_Mo_next_161 (fun c_1 => absurd c_1 (nI_ge (by omega) (by omega))) (fun _ => ?_)
    refine g_iload_n C 1 rfl d_Mo_next_164 ?_
    refine g_aload_n C 0 rfl d_Mo_next_165 ?_
    refine g_get C 0 rfl rfl in_Mo 11 (by decide) kw_1031 rfl d_Mo_next_166 ?_
    refine g_bipush (v := 8) C rfl d_Mo_next_169 ?_
    refine g_iadd C d_Mo_next_171 ?_
    refine g_eq (st1 := [.int (nI (a + 8)), .int (nI i)]) (congrArg (fun z => Value.int z :: [.int (nI i)]) (nI_add a 8)) rfl ?_
    refine g_icmp_ge C d_Mo_next_172 (fun c_2 => absurd c_2 (nI_ge (by omega) (by omega))) (fun _ => ?_)
    refine g_aload_n C 0 rfl d_Mo_next_175 ?_
    refine g_aload_n C 0 rfl d_Mo_next_176 ?_
    refine g_get C 0 rfl rfl in_Mo 15 (by decide) kw_1035 rfl d_Mo_next_177 ?_
    refine g_bipush (v := 8) C rfl d_Mo_next_180 ?_
    refine g_lshl (v := v <<< (Int32.toInt64 8 &&& 63)) C rfl d_Mo_next_182 ?_
    refine g_aload_n C 0 rfl d_Mo_next_183 ?_
    refine g_iload_n C 1 rfl d_Mo_next_184 ?_
    refine g_callV0 (rest := [.long (v <<< (Int32.toInt64 8 &&& 63)), .ref h]) (Xn := [(h, .inr (13, [.ref r0, .ref r1, .ref r2, .int mn, .int dt, .ref r5, .ref r6, .int tp, .int (nI sz), .int fk, .int fp, .int (nI a), .int (nI e), .int tk, .int nu, .long v, .ref r16, .ref r17, .ref r18, .ref r19, .ref r20, .ref r21, .ref r22, .ref r23, .int fl, .ref r25, .int wa, .ref r27, .ref r28, .ref r29, .ref r30, .ref r31, .int co, .ref r33, .ref r34, .ref r35, .ref r36, .ref r37, .ref r38, .ref r39, .ref r40, .int db])), (r6, .inl (g.2.1 2, 300, .inl xf))]) C (c_Mo_sign l g h r0 r1 r2 r5 r6 r16 r17 r18 r19 r20 r21 r22 r23 r25 r27 r28 r29 r30 r31 r33 r34 r35 r36 r37 r38 r39 r40 sz mn dt tp fk fp (nI a) (nI e) tk nu fl wa co db v xf (nI i) (by first | assumption | omega | exact nI_pos (by omega)) (by first | assumption | omega | exact nI_pos (by omega))) [0, 1] [] [0, 1] rfl (by decide) (by decide) rfl mo_Mo_sign mv_Mo_sign kw_914 (by decide) (rcX 0 rfl rfl) rfl (Nat.le_of_ble_eq_true rfl) ⟨Nat.le_of_ble_eq_true rfl, Nat.le_of_ble_eq_true rfl⟩ d_Mo_next_185 ?_
    refine g_eq (st1 := [.int (bfM xf sz i), .long (v <<< (Int32.toInt64 8 &&& 63)), .ref h]) (congrArg (fun z => Value.int z :: [.long (v <<< (Int32.toInt64 8 &&& 63)), .ref h]) rfl) rfl ?_
    refine g_i2l C d_Mo_next_188 ?_
    refine g_lor C d_Mo_next_189 ?_
    refine g_put (X1 := [(h, .inr (13, [.ref r0, .ref r1, .ref r2, .int mn, .int dt, .ref r5, .ref r6, .int tp, .int (nI sz), .int fk, .int fp, .int (nI a), .int (nI e), .int tk, .int nu, .long ((v <<< (Int32.toInt64 8 &&& 63)) ||| (Int32.toInt64 (bfM xf sz i))), .ref r16, .ref r17, .ref r18, .ref r19, .ref r20, .ref r21, .ref r22, .ref r23, .int fl, .ref r25, .int wa, .ref r27, .ref r28, .ref r29, .ref r30, .ref r31, .int co, .ref r33, .ref r34, .ref r35, .ref r36, .ref r37, .ref r38, .ref r39, .ref r40, .int db])), (r6, .inl (g.2.1 2, 300, .inl xf))]) C 0 rfl rfl in_Mo 15 (by decide) ok_Mo nm_Mo kw_1035 rfl rfl rfl (Nat.le_of_ble_eq_true rfl) rfl d_Mo_next_190 ?_
    refine g_iinc (v := nI (i + 1)) (lv1 := [(0, .ref h), (2, .int (nI (i + 1)))]) C d_Mo_next_193 1 rfl (nI_1 _) [1, 0] (by decide) rfl ?_
    refine g_goto C d_Mo_next_196 ?_
    exact ih (i + 1) _ (by omega) hE

set_option maxHeartbeats 4000000 in
set_option maxRecDepth 100000 in
theorem lp_Mo_next259 (l : Launch) (g : Gx) {κ : Kx} {E : Ex} {P : va_W} (h r0 r1 r2 r5 r6 r16 r17 r18 r19 r20 r21 r22 r23 r25 r27 r28 r29 r30 r31 r33 r34 r35 r36 r37 r38 r39 r40 sz : Nat) (mn dt tp fk fp tk fl wa co db : Int32) (xf : Nat → Int32) (a : Nat) (nm : Int64) (hs : sz ≤ 300) (C : zC κ l g ({ frames := 2, cells := 0, slots := 0, locals := 42 }) b_Mo_next 3 "TombLaneModel" "next" (none : Option FieldType) E) : ∀ (k : Nat) (e : Nat) (v : Int32), (e + k = sz) → (a ≤ e) → (G κ 3 0 0 322 [(0, .ref h)] [] [(h, .inr (13, [.ref r0, .ref r1, .ref r2, .int mn, .int dt, .ref r5, .ref r6, .int tp, .int (nI sz), .int fk, .int fp, .int (nI a), .int (nI (dgL (bfM xf sz) a k e v).1), .int tk, .int ((dgL (bfM xf sz) a k e v).2), .long nm, .ref r16, .ref r17, .ref r18, .ref r19, .ref r20, .ref r21, .ref r22, .ref r23, .int fl, .ref r25, .int wa, .ref r27, .ref r28, .ref r29, .ref r30, .ref r31, .int co, .ref r33, .ref r34, .ref r35, .ref r36, .ref r37, .ref r38, .ref r39, .ref r40, .int db])), (r6, .inl (g.2.1 2, 300, .inl xf))] P) → G κ 3 0 0 259 [(0, .ref h)] [] [(h, .inr (13, [.ref r0, .ref r1, .ref r2, .int mn, .int dt, .ref r5, .ref r6, .int tp, .int (nI sz), .int fk, .int fp, .int (nI a), .int (nI e), .int tk, .int v, .long nm, .ref r16, .ref r17, .ref r18, .ref r19, .ref r20, .ref r21, .ref r22, .ref r23, .int fl, .ref r25, .int wa, .ref r27, .ref r28, .ref r29, .ref r30, .ref r31, .int co, .ref r33, .ref r34, .ref r35, .ref r36, .ref r37, .ref r38, .ref r39, .ref r40, .int db])), (r6, .inl (g.2.1 2, 300, .inl xf))] P := by
  intro k
  induction k with
  | zero =>
    intro e v he ha hE
    refine g_aload_n C 0 rfl d_Mo_next_259 ?_
    refine g_aload_n C 0 rfl d_Mo_next_260 ?_
    refine g_get C 0 rfl rfl in_Mo 12 (by decide) kw_1032 rfl d_Mo_next_261 ?_
    refine g_callV0 (rest := []) (Xn := [(h, .inr (13, [.ref r0, .ref r1, .ref r2, .int mn, .int dt, .ref r5, .ref r6, .int tp, .int (nI sz), .int fk, .int fp, .int (nI a), .int (nI e), .int tk, .int v, .long nm, .ref r16, .ref r17, .ref r18, .ref r19, .ref r20, .ref r21, .ref r22, .ref r23, .int fl, .ref r25, .int wa, .ref r27, .ref r28, .ref r29, .ref r30, .ref r31, .int co, .ref r33, .ref r34, .ref r35, .ref r36, .ref r37, .ref r38, .ref r39, .ref r40, .int db])), (r6, .inl (g.2.1 2, 300, .inl xf))]) C (c_Mo_sign l g h r0 r1 r2 r5 r6 r16 r17 r18 r19 r20 r21 r22 r23 r25 r27 r28 r29 r30 r31 r33 r34 r35 r36 r37 r38 r39 r40 sz mn dt tp fk fp (nI a) (nI e) tk v fl wa co db nm xf (nI e) (by first | assumption | omega | exact nI_pos (by omega)) (by first | assumption | omega | exact nI_pos (by omega))) [0, 1] [] [0, 1] rfl (by decide) (by decide) rfl mo_Mo_sign mv_Mo_sign kw_914 (by decide) (rcX 0 rfl rfl) rfl (Nat.le_of_ble_eq_true rfl) ⟨Nat.le_of_ble_eq_true rfl, Nat.le_of_ble_eq_true rfl⟩ d_Mo_next_264 ?_
    refine g_eq (st1 := [.int (bfM xf sz e)]) (congrArg (fun z => Value.int z :: []) rfl) rfl ?_
    refine g_callS0 (rest := []) (Xn := [(h, .inr (13, [.ref r0, .ref r1, .ref r2, .int mn, .int dt, .ref r5, .ref r6, .int tp, .int (nI sz), .int fk, .int fp, .int (nI a), .int (nI e), .int tk, .int v, .long nm, .ref r16, .ref r17, .ref r18, .ref r19, .ref r20, .ref r21, .ref r22, .ref r23, .int fl, .ref r25, .int wa, .ref r27, .ref r28, .ref r29, .ref r30, .ref r31, .int co, .ref r33, .ref r34, .ref r35, .ref r36, .ref r37, .ref r38, .ref r39, .ref r40, .int db])), (r6, .inl (g.2.1 2, 300, .inl xf))]) C (c_Mo_isDigit l g (bfM xf sz e)) [] [0, 1] [0, 1] rfl (by decide) (by decide) rfl mo_Mo_isDigit ms_Mo_isDigit kw_918 (by decide) rfl (Nat.le_of_ble_eq_true rfl) ⟨Nat.le_of_ble_eq_true rfl, Nat.le_of_ble_eq_true rfl⟩ d_Mo_next_267 ?_
    refine g_if_eq C d_Mo_next_270 (fun _ => ?_) (fun c_1 => absurd (zb_0.mpr (by rw [bfM_out (by omega) (by omega)]; decide)) c_1)
    exact hE
  | succ k ih =>
    intro e v he ha hE
    refine g_aload_n C 0 rfl d_Mo_next_259 ?_
    refine g_aload_n C 0 rfl d_Mo_next_260 ?_
    refine g_get C 0 rfl rfl in_Mo 12 (by decide) kw_1032 rfl d_Mo_next_261 ?_
    refine g_callV0 (rest := []) (Xn := [(h, .inr (13, [.ref r0, .ref r1, .ref r2, .int mn, .int dt, .ref r5, .ref r6, .int tp, .int (nI sz), .int fk, .int fp, .int (nI a), .int (nI e), .int tk, .int v, .long nm, .ref r16, .ref r17, .ref r18, .ref r19, .ref r20, .ref r21, .ref r22, .ref r23, .int fl, .ref r25, .int wa, .ref r27, .ref r28, .ref r29, .ref r30, .ref r31, .int co, .ref r33, .ref r34, .ref r35, .ref r36, .ref r37, .ref r38, .ref r39, .ref r40, .int db])), (r6, .inl (g.2.1 2, 300, .inl xf))]) C (c_Mo_sign l g h r0 r1 r2 r5 r6 r16 r17 r18 r19 r20 r21 r22 r23 r25 r27 r28 r29 r30 r31 r33 r34 r35 r36 r37 r38 r39 r40 sz mn dt tp fk fp (nI a) (nI e) tk v fl wa co db nm xf (nI e) (by first | assumption | omega | exact nI_pos (by omega)) (by first | assumption | omega | exact nI_pos (by omega))) [0, 1] [] [0, 1] rfl (by decide) (by decide) rfl mo_Mo_sign mv_Mo_sign kw_914 (by decide) (rcX 0 rfl rfl) rfl (Nat.le_of_ble_eq_true rfl) ⟨Nat.le_of_ble_eq_true rfl, Nat.le_of_ble_eq_true rfl⟩ d_Mo_next_264 ?_
    refine g_eq (st1 := [.int (bfM xf sz e)]) (congrArg (fun z => Value.int z :: []) rfl) rfl ?_
    refine g_callS0 (rest := []) (Xn := [(h, .inr (13, [.ref r0, .ref r1, .ref r2, .int mn, .int dt, .ref r5, .ref r6, .int tp, .int (nI sz), .int fk, .int fp, .int (nI a), .int (nI e), .int tk, .int v, .long nm, .ref r16, .ref r17, .ref r18, .ref r19, .ref r20, .ref r21, .ref r22, .ref r23, .int fl, .ref r25, .int wa, .ref r27, .ref r28, .ref r29, .ref r30, .ref r31, .int co, .ref r33, .ref r34, .ref r35, .ref r36, .ref r37, .ref r38, .ref r39, .ref r40, .int db])), (r6, .inl (g.2.1 2, 300, .inl xf))]) C (c_Mo_isDigit l g (bfM xf sz e)) [] [0, 1] [0, 1] rfl (by decide) (by decide) rfl mo_Mo_isDigit ms_Mo_isDigit kw_918 (by decide) rfl (Nat.le_of_ble_eq_true rfl) ⟨Nat.le_of_ble_eq_true rfl, Nat.le_of_ble_eq_true rfl⟩ d_Mo_next_267 ?_
    refine g_if_eq C d_Mo_next_270 (fun c_1 => ?_) (fun c_1 => ?_)
    · have c_1 := zb_0.mp c_1
      exact (by simpa [dgL, c_1] using hE)
    · have c_1 := zb_n0.mp c_1
      refine g_aload_n C 0 rfl d_Mo_next_273 ?_
      refine g_get C 0 rfl rfl in_Mo 12 (by decide) kw_1032 rfl d_Mo_next_274 ?_
      refine g_aload_n C 0 rfl d_Mo_next_277 ?_
      refine g_get C 0 rfl rfl in_Mo 11 (by decide) kw_1031 rfl d_Mo_next_278 ?_
      refine g_isub C d_Mo_next_281 ?_
      refine g_eq (st1 := [.int (nI (e - a))]) (congrArg (fun z => Value.int z :: []) (pk_sub (by omega))) rfl ?_
      refine g_iconst (v := 4) C rfl d_Mo_next_282 ?_
      refine g_icmp_ge C d_Mo_next_283 (fun c_2 => ?_) (fun c_2 => ?_)
      · skip
        have n_2 : 4 ≤ e - a := (nI_leI (a := 4) (b := (e - a)) (by omega) (by omega)).mp c_2
        refine g_aload_n C 0 rfl d_Mo_next_309 ?_
        refine g_dup C rfl d_Mo_next_310 ?_
        refine g_get C 0 rfl rfl in_Mo 12 (by decide) kw_1032 rfl d_Mo_next_311 ?_
        refine g_iconst (v := 1) C rfl d_Mo_next_314 ?_
        refine g_iadd C d_Mo_next_315 ?_
        refine g_eq (st1 := [.int (nI (e + 1)), .ref h]) (congrArg (fun z => Value.int z :: [.ref h]) (nI_add e 1)) rfl ?_
        refine g_put (X1 := [(h, .inr (13, [.ref r0, .ref r1, .ref r2, .int mn, .int dt, .ref r5, .ref r6, .int tp, .int (nI sz), .int fk, .int fp, .int (nI a), .int (nI (e + 1)), .int tk, .int v, .long nm, .ref r16, .ref r17, .ref r18, .ref r19, .ref r20, .ref r21, .ref r22, .ref r23, .int fl, .ref r25, .int wa, .ref r27, .ref r28, .ref r29, .ref r30, .ref r31, .int co, .ref r33, .ref r34, .ref r35, .ref r36, .ref r37, .ref r38, .ref r39, .ref r40, .int db])), (r6, .inl (g.2.1 2, 300, .inl xf))]) C 0 rfl rfl in_Mo 12 (by decide) ok_Mo nm_Mo kw_1032 rfl rfl rfl (Nat.le_of_ble_eq_true rfl) rfl d_Mo_next_316 ?_
        refine g_goto C d_Mo_next_319 ?_
        exact ih (e + 1) _ (by omega) (by omega) (by simpa [dgL, c_1, c_2, Int32.not_lt.mpr c_2, n_2, Nat.not_lt.mpr n_2] using hE)
      · skip
        have n_2 : e - a < 4 := Nat.not_le.mp (fun z => c_2 ((nI_leI (a := 4) (b := (e - a)) (by omega) (by omega)).mpr z))
        refine g_aload_n C 0 rfl d_Mo_next_286 ?_
        refine g_bipush (v := 10) C rfl d_Mo_next_287 ?_
        refine g_aload_n C 0 rfl d_Mo_next_289 ?_
        refine g_get C 0 rfl rfl in_Mo 14 (by decide) kw_1034 rfl d_Mo_next_290 ?_
        refine g_imul C d_Mo_next_293 ?_
        refine g_aload_n C 0 rfl d_Mo_next_294 ?_
        refine g_aload_n C 0 rfl d_Mo_next_295 ?_
        refine g_get C 0 rfl rfl in_Mo 12 (by decide) kw_1032 rfl d_Mo_next_296 ?_
        refine g_callV0 (rest := [.int (10 * v), .ref h]) (Xn := [(h, .inr (13, [.ref r0, .ref r1, .ref r2, .int mn, .int dt, .ref r5, .ref r6, .int tp, .int (nI sz), .int fk, .int fp, .int (nI a), .int (nI e), .int tk, .int v, .long nm, .ref r16, .ref r17, .ref r18, .ref r19, .ref r20, .ref r21, .ref r22, .ref r23, .int fl, .ref r25, .int wa, .ref r27, .ref r28, .ref r29, .ref r30, .ref r31, .int co, .ref r33, .ref r34, .ref r35, .ref r36, .ref r37, .ref r38, .ref r39, .ref r40, .int db])), (r6, .inl (g.2.1 2, 300, .inl xf))]) C (c_Mo_sign l g h r0 r1 r2 r5 r6 r16 r17 r18 r19 r20 r21 r22 r23 r25 r27 r28 r29 r30 r31 r33 r34 r35 r36 r37 r38 r39 r40 sz mn dt tp fk fp (nI a) (nI e) tk v fl wa co db nm xf (nI e) (by first | assumption | omega | exact nI_pos (by omega)) (by first | assumption | omega | exact nI_pos (by omega))) [0, 1] [] [0, 1] rfl (by decide) (by decide) rfl mo_Mo_sign mv_Mo_sign kw_914 (by decide) (rcX 0 rfl rfl) rfl (Nat.le_of_ble_eq_true rfl) ⟨Nat.le_of_ble_eq_true rfl, Nat.le_of_ble_eq_true rfl⟩ d_Mo_next_299 ?_
        refine g_eq (st1 := [.int (bfM xf sz e), .int (10 * v), .ref h]) (congrArg (fun z => Value.int z :: [.int (10 * v), .ref h]) rfl) rfl ?_
        refine g_iadd C d_Mo_next_302 ?_
        refine g_bipush (v := 48) C rfl d_Mo_next_303 ?_
        refine g_isub C d_Mo_next_305 ?_
        refine g_put (X1 := [(h, .inr (13, [.ref r0, .ref r1, .ref r2, .int mn, .int dt, .ref r5, .ref r6, .int tp, .int (nI sz), .int fk, .int fp, .int (nI a), .int (nI e), .int tk, .int (((10 * v) + (bfM xf sz e)) - 48), .long nm, .ref r16, .ref r17, .ref r18, .ref r19, .ref r20, .ref r21, .ref r22, .ref r23, .int fl, .ref r25, .int wa, .ref r27, .ref r28, .ref r29, .ref r30, .ref r31, .int co, .ref r33, .ref r34, .ref r35, .ref r36, .ref r37, .ref r38, .ref r39, .ref r40, .int db])), (r6, .inl (g.2.1 2, 300, .inl xf))]) C 0 rfl rfl in_Mo 14 (by decide) ok_Mo nm_Mo kw_1034 rfl rfl rfl (Nat.le_of_ble_eq_true rfl) rfl d_Mo_next_306 ?_
        refine g_aload_n C 0 rfl d_Mo_next_309 ?_
        refine g_dup C rfl d_Mo_next_310 ?_
        refine g_get C 0 rfl rfl in_Mo 12 (by decide) kw_1032 rfl d_Mo_next_311 ?_
        refine g_iconst (v := 1) C rfl d_Mo_next_314 ?_
        refine g_iadd C d_Mo_next_315 ?_
        refine g_eq (st1 := [.int (nI (e + 1)), .ref h]) (congrArg (fun z => Value.int z :: [.ref h]) (nI_add e 1)) rfl ?_
        refine g_put (X1 := [(h, .inr (13, [.ref r0, .ref r1, .ref r2, .int mn, .int dt, .ref r5, .ref r6, .int tp, .int (nI sz), .int fk, .int fp, .int (nI a), .int (nI (e + 1)), .int tk, .int (((10 * v) + (bfM xf sz e)) - 48), .long nm, .ref r16, .ref r17, .ref r18, .ref r19, .ref r20, .ref r21, .ref r22, .ref r23, .int fl, .ref r25, .int wa, .ref r27, .ref r28, .ref r29, .ref r30, .ref r31, .int co, .ref r33, .ref r34, .ref r35, .ref r36, .ref r37, .ref r38, .ref r39, .ref r40, .int db])), (r6, .inl (g.2.1 2, 300, .inl xf))]) C 0 rfl rfl in_Mo 12 (by decide) ok_Mo nm_Mo kw_1032 rfl rfl rfl (Nat.le_of_ble_eq_true rfl) rfl d_Mo_next_316 ?_
        refine g_goto C d_Mo_next_319 ?_
        exact ih (e + 1) _ (by omega) (by omega) (by simpa [dgL, c_1, c_2, Int32.not_le.mp c_2, n_2, Nat.not_le.mpr n_2] using hE)

set_option maxHeartbeats 4000000 in
set_option maxRecDepth 100000 in
theorem c_Mo_next (l : Launch) (g : Gx) (h r0 r1 r2 r5 r6 r16 r17 r18 r19 r20 r21 r22 r23 r25 r27 r28 r29 r30 r31 r33 r34 r35 r36 r37 r38 r39 r40 sz : Nat) (mn dt tp fl wa co db : Int32) (xf : Nat → Int32) (s : MS) (hs : sz ≤ 300) (he : s.2.1 ≤ sz) : M0 l g y_Mo_next b_Mo_next 3 (none : Option FieldType) ({ frames := 2, cells := 0, slots := 0, locals := 42 }) [.ref h] [(h, .inr (13, [.ref r0, .ref r1, .ref r2, .int mn, .int dt, .ref r5, .ref r6, .int tp, .int (nI sz), .int s.2.2.2.2.2.1, .int s.2.2.2.2.2.2, .int (nI s.1), .int (nI s.2.1), .int s.2.2.1, .int s.2.2.2.1, .long s.2.2.2.2.1, .ref r16, .ref r17, .ref r18, .ref r19, .ref r20, .ref r21, .ref r22, .ref r23, .int fl, .ref r25, .int wa, .ref r27, .ref r28, .ref r29, .ref r30, .ref r31, .int co, .ref r33, .ref r34, .ref r35, .ref r36, .ref r37, .ref r38, .ref r39, .ref r40, .int db])), (r6, .inl (g.2.1 2, 300, .inl xf))] none [(h, .inr (13, [.ref r0, .ref r1, .ref r2, .int mn, .int dt, .ref r5, .ref r6, .int tp, .int (nI sz), .int ((nxM xf sz s).2.2.2.2.2.1), .int ((nxM xf sz s).2.2.2.2.2.2), .int (nI (nxM xf sz s).1), .int (nI (nxM xf sz s).2.1), .int ((nxM xf sz s).2.2.1), .int ((nxM xf sz s).2.2.2.1), .long ((nxM xf sz s).2.2.2.2.1), .ref r16, .ref r17, .ref r18, .ref r19, .ref r20, .ref r21, .ref r22, .ref r23, .int fl, .ref r25, .int wa, .ref r27, .ref r28, .ref r29, .ref r30, .ref r31, .int co, .ref r33, .ref r34, .ref r35, .ref r36, .ref r37, .ref r38, .ref r39, .ref r40, .int db])), (r6, .inl (g.2.1 2, 300, .inl xf))] := by
  refine MP.of (by decide) (Nat.le_of_ble_eq_true rfl) (fun κ C => ?_)
  have C : zC κ l g ({ frames := 2, cells := 0, slots := 0, locals := 42 }) b_Mo_next 3 "TombLaneModel" "next" (none : Option FieldType) _ := C
  refine g_lv (lv1 := [(0, .ref h)]) [0] rfl ?_
  refine g_aload_n C 0 rfl d_Mo_next_0 ?_
  refine g_aload_n C 0 rfl d_Mo_next_1 ?_
  refine g_get C 0 rfl rfl in_Mo 12 (by decide) kw_1032 rfl d_Mo_next_2 ?_
  refine g_put (X1 := [(h, .inr (13, [.ref r0, .ref r1, .ref r2, .int mn, .int dt, .ref r5, .ref r6, .int tp, .int (nI sz), .int s.2.2.2.2.2.1, .int s.2.2.2.2.2.2, .int (nI s.2.1), .int (nI s.2.1), .int s.2.2.1, .int s.2.2.2.1, .long s.2.2.2.2.1, .ref r16, .ref r17, .ref r18, .ref r19, .ref r20, .ref r21, .ref r22, .ref r23, .int fl, .ref r25, .int wa, .ref r27, .ref r28, .ref r29, .ref r30, .ref r31, .int co, .ref r33, .ref r34, .ref r35, .ref r36, .ref r37, .ref r38, .ref r39, .ref r40, .int db])), (r6, .inl (g.2.1 2, 300, .inl xf))]) C 0 rfl rfl in_Mo 11 (by decide) ok_Mo nm_Mo kw_1031 rfl rfl rfl (Nat.le_of_ble_eq_true rfl) rfl d_Mo_next_5 ?_
  refine lp_Mo_next8 l g h r0 r1 r2 r5 r6 r16 r17 r18 r19 r20 r21 r22 r23 r25 r27 r28 r29 r30 r31 r33 r34 r35 r36 r37 r38 r39 r40 sz mn dt tp s.2.2.2.2.2.1 s.2.2.2.2.2.2 s.2.2.1 fl wa co db xf (nI s.2.1) s.2.2.2.1 s.2.2.2.2.1 hs C (sz - s.2.1) s.2.1 (by omega) ?_
  have hk := skp_le (bfM xf sz) (sz - s.2.1) s.2.1
  generalize hpp : skp (bfM xf sz) (sz - s.2.1) s.2.1 = a at hk C ⊢
  refine g_aload_n C 0 rfl d_Mo_next_58 ?_
  refine g_aload_n C 0 rfl d_Mo_next_59 ?_
  refine g_get C 0 rfl rfl in_Mo 11 (by decide) kw_1031 rfl d_Mo_next_60 ?_
  refine g_callV0 (rest := []) (Xn := [(h, .inr (13, [.ref r0, .ref r1, .ref r2, .int mn, .int dt, .ref r5, .ref r6, .int tp, .int (nI sz), .int s.2.2.2.2.2.1, .int s.2.2.2.2.2.2, .int (nI a), .int (nI s.2.1), .int s.2.2.1, .int s.2.2.2.1, .long s.2.2.2.2.1, .ref r16, .ref r17, .ref r18, .ref r19, .ref r20, .ref r21, .ref r22, .ref r23, .int fl, .ref r25, .int wa, .ref r27, .ref r28, .ref r29, .ref r30, .ref r31, .int co, .ref r33, .ref r34, .ref r35, .ref r36, .ref r37, .ref r38, .ref r39, .ref r40, .int db])), (r6, .inl (g.2.1 2, 300, .inl xf))]) C (c_Mo_sign l g h r0 r1 r2 r5 r6 r16 r17 r18 r19 r20 r21 r22 r23 r25 r27 r28 r29 r30 r31 r33 r34 r35 r36 r37 r38 r39 r40 sz mn dt tp s.2.2.2.2.2.1 s.2.2.2.2.2.2 (nI a) (nI s.2.1) s.2.2.1 s.2.2.2.1 fl wa co db s.2.2.2.2.1 xf (nI a) (by first | assumption | omega | exact nI_pos (by omega)) (by first | assumption | omega | exact nI_pos (by omega))) [0, 1] [] [0, 1] rfl (by decide) (by decide) rfl mo_Mo_sign mv_Mo_sign kw_914 (by decide) (rcX 0 rfl rfl) rfl (Nat.le_of_ble_eq_true rfl) ⟨Nat.le_of_ble_eq_true rfl, Nat.le_of_ble_eq_true rfl⟩ d_Mo_next_63 ?_
  refine g_eq (st1 := [.int (bfM xf sz a)]) (congrArg (fun z => Value.int z :: []) rfl) rfl ?_
  refine g_istore_n (lv1 := [(0, .ref h), (1, .int (bfM xf sz a))]) C d_Mo_next_66 [1, 0] (by decide) rfl ?_
  refine g_aload_n C 0 rfl d_Mo_next_67 ?_
  refine g_aload_n C 0 rfl d_Mo_next_68 ?_
  refine g_get C 0 rfl rfl in_Mo 11 (by decide) kw_1031 rfl d_Mo_next_69 ?_
  refine g_iconst (v := 1) C rfl d_Mo_next_72 ?_
  refine g_iadd C d_Mo_next_73 ?_
  refine g_eq (st1 := [.int (nI (a + 1)), .ref h]) (congrArg (fun z => Value.int z :: [.ref h]) (nI_add a 1)) rfl ?_
  refine g_put (X1 := [(h, .inr (13, [.ref r0, .ref r1, .ref r2, .int mn, .int dt, .ref r5, .ref r6, .int tp, .int (nI sz), .int s.2.2.2.2.2.1, .int s.2.2.2.2.2.2, .int (nI a), .int (nI (a + 1)), .int s.2.2.1, .int s.2.2.2.1, .long s.2.2.2.2.1, .ref r16, .ref r17, .ref r18, .ref r19, .ref r20, .ref r21, .ref r22, .ref r23, .int fl, .ref r25, .int wa, .ref r27, .ref r28, .ref r29, .ref r30, .ref r31, .int co, .ref r33, .ref r34, .ref r35, .ref r36, .ref r37, .ref r38, .ref r39, .ref r40, .int db])), (r6, .inl (g.2.1 2, 300, .inl xf))]) C 0 rfl rfl in_Mo 12 (by decide) ok_Mo nm_Mo kw_1032 rfl rfl rfl (Nat.le_of_ble_eq_true rfl) rfl d_Mo_next_74 ?_
  refine g_aload_n C 0 rfl d_Mo_next_77 ?_
  refine g_get C 0 rfl rfl in_Mo 11 (by decide) kw_1031 rfl d_Mo_next_78 ?_
  refine g_aload_n C 0 rfl d_Mo_next_81 ?_
  refine g_get C 0 rfl rfl in_Mo 8 (by decide) kw_1028 rfl d_Mo_next_82 ?_
  refine g_icmp_lt C d_Mo_next_85 (fun c_1 => ?_) (fun c_1 => ?_)
  · skip
    have n_1 : a < sz := (nI_ltI (a := a) (b := sz) (by omega) (by omega)).mp c_1
    refine g_iload_n C 1 rfl d_Mo_next_112 ?_
    refine g_callS0 (rest := []) (Xn := [(h, .inr (13, [.ref r0, .ref r1, .ref r2, .int mn, .int dt, .ref r5, .ref r6, .int tp, .int (nI sz), .int s.2.2.2.2.2.1, .int s.2.2.2.2.2.2, .int (nI a), .int (nI (a + 1)), .int s.2.2.1, .int s.2.2.2.1, .long s.2.2.2.2.1, .ref r16, .ref r17, .ref r18, .ref r19, .ref r20, .ref r21, .ref r22, .ref r23, .int fl, .ref r25, .int wa, .ref r27, .ref r28, .ref r29, .ref r30, .ref r31, .int co, .ref r33, .ref r34, .ref r35, .ref r36, .ref r37, .ref r38, .ref r39, .ref r40, .int db])), (r6, .inl (g.2.1 2, 300, .inl xf))]) C (c_Mo_isLetter l g (bfM xf sz a)) [] [0, 1] [0, 1] rfl (by decide) (by decide) rfl mo_Mo_isLetter ms_Mo_isLetter kw_875 (by decide) rfl (Nat.le_of_ble_eq_true rfl) ⟨Nat.le_of_ble_eq_true rfl, Nat.le_of_ble_eq_true rfl⟩ d_Mo_next_113 ?_
    refine g_if_eq C d_Mo_next_116 (fun c_2 => ?_) (fun c_2 => ?_)
    · have c_2 := zb_0.mp c_2
      refine g_iload_n C 1 rfl d_Mo_next_239 ?_
      refine g_callS0 (rest := []) (Xn := [(h, .inr (13, [.ref r0, .ref r1, .ref r2, .int mn, .int dt, .ref r5, .ref r6, .int tp, .int (nI sz), .int s.2.2.2.2.2.1, .int s.2.2.2.2.2.2, .int (nI a), .int (nI (a + 1)), .int s.2.2.1, .int s.2.2.2.1, .long s.2.2.2.2.1, .ref r16, .ref r17, .ref r18, .ref r19, .ref r20, .ref r21, .ref r22, .ref r23, .int fl, .ref r25, .int wa, .ref r27, .ref r28, .ref r29, .ref r30, .ref r31, .int co, .ref r33, .ref r34, .ref r35, .ref r36, .ref r37, .ref r38, .ref r39, .ref r40, .int db])), (r6, .inl (g.2.1 2, 300, .inl xf))]) C (c_Mo_isDigit l g (bfM xf sz a)) [] [0, 1] [0, 1] rfl (by decide) (by decide) rfl mo_Mo_isDigit ms_Mo_isDigit kw_918 (by decide) rfl (Nat.le_of_ble_eq_true rfl) ⟨Nat.le_of_ble_eq_true rfl, Nat.le_of_ble_eq_true rfl⟩ d_Mo_next_240 ?_
      refine g_if_eq C d_Mo_next_243 (fun c_3 => ?_) (fun c_3 => ?_)
      · have c_3 := zb_0.mp c_3
        refine g_aload_n C 0 rfl d_Mo_next_361 ?_
        refine g_iload_n C 1 rfl d_Mo_next_362 ?_
        refine g_bipush (v := 58) C rfl d_Mo_next_363 ?_
        refine g_icmp_eq C d_Mo_next_365 (fun c_4 => ?_) (fun c_4 => ?_)
        · skip
          refine g_iconst (v := 5) C rfl d_Mo_next_380 ?_
          refine g_goto C d_Mo_next_381 ?_
          refine g_put (X1 := [(h, .inr (13, [.ref r0, .ref r1, .ref r2, .int mn, .int dt, .ref r5, .ref r6, .int tp, .int (nI sz), .int s.2.2.2.2.2.1, .int s.2.2.2.2.2.2, .int (nI a), .int (nI (a + 1)), .int 5, .int s.2.2.2.1, .long s.2.2.2.2.1, .ref r16, .ref r17, .ref r18, .ref r19, .ref r20, .ref r21, .ref r22, .ref r23, .int fl, .ref r25, .int wa, .ref r27, .ref r28, .ref r29, .ref r30, .ref r31, .int co, .ref r33, .ref r34, .ref r35, .ref r36, .ref r37, .ref r38, .ref r39, .ref r40, .int db])), (r6, .inl (g.2.1 2, 300, .inl xf))]) C 0 rfl rfl in_Mo 13 (by decide) ok_Mo nm_Mo kw_1033 rfl rfl rfl (Nat.le_of_ble_eq_true rfl) rfl d_Mo_next_385 ?_
          exact g_vret C rfl ⟨rfl, (by simp [nxM, hpp, c_1, Int32.not_le.mpr c_1, n_1, Nat.not_le.mpr n_1, c_2, c_3, eq_true c_4]), rfl⟩ (by decide) (by decide) d_Mo_next_388
        · skip
          refine g_iload_n C 1 rfl d_Mo_next_368 ?_
          refine g_bipush (v := 59) C rfl d_Mo_next_369 ?_
          refine g_icmp_eq C d_Mo_next_371 (fun c_5 => ?_) (fun c_5 => ?_)
          · skip
            refine g_iconst (v := 5) C rfl d_Mo_next_380 ?_
            refine g_goto C d_Mo_next_381 ?_
            refine g_put (X1 := [(h, .inr (13, [.ref r0, .ref r1, .ref r2, .int mn, .int dt, .ref r5, .ref r6, .int tp, .int (nI sz), .int s.2.2.2.2.2.1, .int s.2.2.2.2.2.2, .int (nI a), .int (nI (a + 1)), .int 5, .int s.2.2.2.1, .long s.2.2.2.2.1, .ref r16, .ref r17, .ref r18, .ref r19, .ref r20, .ref r21, .ref r22, .ref r23, .int fl, .ref r25, .int wa, .ref r27, .ref r28, .ref r29, .ref r30, .ref r31, .int co, .ref r33, .ref r34, .ref r35, .ref r36, .ref r37, .ref r38, .ref r39, .ref r40, .int db])), (r6, .inl (g.2.1 2, 300, .inl xf))]) C 0 rfl rfl in_Mo 13 (by decide) ok_Mo nm_Mo kw_1033 rfl rfl rfl (Nat.le_of_ble_eq_true rfl) rfl d_Mo_next_385 ?_
            exact g_vret C rfl ⟨rfl, (by simp [nxM, hpp, c_1, Int32.not_le.mpr c_1, n_1, Nat.not_le.mpr n_1, c_2, c_3, c_4, eq_true c_5]), rfl⟩ (by decide) (by decide) d_Mo_next_388
          · skip
            refine g_iload_n C 1 rfl d_Mo_next_374 ?_
            refine g_bipush (v := 63) C rfl d_Mo_next_375 ?_
            refine g_icmp_ne C d_Mo_next_377 (fun c_6 => ?_) (fun c_6 => ?_)
            · skip
              refine g_iconst (v := 1) C rfl d_Mo_next_384 ?_
              refine g_put (X1 := [(h, .inr (13, [.ref r0, .ref r1, .ref r2, .int mn, .int dt, .ref r5, .ref r6, .int tp, .int (nI sz), .int s.2.2.2.2.2.1, .int s.2.2.2.2.2.2, .int (nI a), .int (nI (a + 1)), .int 1, .int s.2.2.2.1, .long s.2.2.2.2.1, .ref r16, .ref r17, .ref r18, .ref r19, .ref r20, .ref r21, .ref r22, .ref r23, .int fl, .ref r25, .int wa, .ref r27, .ref r28, .ref r29, .ref r30, .ref r31, .int co, .ref r33, .ref r34, .ref r35, .ref r36, .ref r37, .ref r38, .ref r39, .ref r40, .int db])), (r6, .inl (g.2.1 2, 300, .inl xf))]) C 0 rfl rfl in_Mo 13 (by decide) ok_Mo nm_Mo kw_1033 rfl rfl rfl (Nat.le_of_ble_eq_true rfl) rfl d_Mo_next_385 ?_
              exact g_vret C rfl ⟨rfl, (by simp [nxM, hpp, c_1, Int32.not_le.mpr c_1, n_1, Nat.not_le.mpr n_1, c_2, c_3, c_4, c_5, c_6]), rfl⟩ (by decide) (by decide) d_Mo_next_388
            · skip
              refine g_iconst (v := 5) C rfl d_Mo_next_380 ?_
              refine g_goto C d_Mo_next_381 ?_
              refine g_put (X1 := [(h, .inr (13, [.ref r0, .ref r1, .ref r2, .int mn, .int dt, .ref r5, .ref r6, .int tp, .int (nI sz), .int s.2.2.2.2.2.1, .int s.2.2.2.2.2.2, .int (nI a), .int (nI (a + 1)), .int 5, .int s.2.2.2.1, .long s.2.2.2.2.1, .ref r16, .ref r17, .ref r18, .ref r19, .ref r20, .ref r21, .ref r22, .ref r23, .int fl, .ref r25, .int wa, .ref r27, .ref r28, .ref r29, .ref r30, .ref r31, .int co, .ref r33, .ref r34, .ref r35, .ref r36, .ref r37, .ref r38, .ref r39, .ref r40, .int db])), (r6, .inl (g.2.1 2, 300, .inl xf))]) C 0 rfl rfl in_Mo 13 (by decide) ok_Mo nm_Mo kw_1033 rfl rfl rfl (Nat.le_of_ble_eq_true rfl) rfl d_Mo_next_385 ?_
              exact g_vret C rfl ⟨rfl, (by simp [nxM, hpp, c_1, Int32.not_le.mpr c_1, n_1, Nat.not_le.mpr n_1, c_2, c_3, c_4, c_5, eq_true c_6]), rfl⟩ (by decide) (by decide) d_Mo_next_388
      · have c_3 := zb_n0.mp c_3
        refine g_aload_n C 0 rfl d_Mo_next_246 ?_
        refine g_iconst (v := 0) C rfl d_Mo_next_247 ?_
        refine g_put (X1 := [(h, .inr (13, [.ref r0, .ref r1, .ref r2, .int mn, .int dt, .ref r5, .ref r6, .int tp, .int (nI sz), .int s.2.2.2.2.2.1, .int s.2.2.2.2.2.2, .int (nI a), .int (nI (a + 1)), .int s.2.2.1, .int 0, .long s.2.2.2.2.1, .ref r16, .ref r17, .ref r18, .ref r19, .ref r20, .ref r21, .ref r22, .ref r23, .int fl, .ref r25, .int wa, .ref r27, .ref r28, .ref r29, .ref r30, .ref r31, .int co, .ref r33, .ref r34, .ref r35, .ref r36, .ref r37, .ref r38, .ref r39, .ref r40, .int db])), (r6, .inl (g.2.1 2, 300, .inl xf))]) C 0 rfl rfl in_Mo 14 (by decide) ok_Mo nm_Mo kw_1034 rfl rfl rfl (Nat.le_of_ble_eq_true rfl) rfl d_Mo_next_248 ?_
        refine g_aload_n C 0 rfl d_Mo_next_251 ?_
        refine g_aload_n C 0 rfl d_Mo_next_252 ?_
        refine g_get C 0 rfl rfl in_Mo 11 (by decide) kw_1031 rfl d_Mo_next_253 ?_
        refine g_put (X1 := [(h, .inr (13, [.ref r0, .ref r1, .ref r2, .int mn, .int dt, .ref r5, .ref r6, .int tp, .int (nI sz), .int s.2.2.2.2.2.1, .int s.2.2.2.2.2.2, .int (nI a), .int (nI a), .int s.2.2.1, .int 0, .long s.2.2.2.2.1, .ref r16, .ref r17, .ref r18, .ref r19, .ref r20, .ref r21, .ref r22, .ref r23, .int fl, .ref r25, .int wa, .ref r27, .ref r28, .ref r29, .ref r30, .ref r31, .int co, .ref r33, .ref r34, .ref r35, .ref r36, .ref r37, .ref r38, .ref r39, .ref r40, .int db])), (r6, .inl (g.2.1 2, 300, .inl xf))]) C 0 rfl rfl in_Mo 12 (by decide) ok_Mo nm_Mo kw_1032 rfl rfl rfl (Nat.le_of_ble_eq_true rfl) rfl d_Mo_next_256 ?_
        refine g_lv (lv1 := [(0, .ref h)]) [0] rfl ?_
        refine lp_Mo_next259 l g h r0 r1 r2 r5 r6 r16 r17 r18 r19 r20 r21 r22 r23 r25 r27 r28 r29 r30 r31 r33 r34 r35 r36 r37 r38 r39 r40 sz mn dt tp s.2.2.2.2.2.1 s.2.2.2.2.2.2 s.2.2.1 fl wa co db xf a s.2.2.2.2.1 hs C (sz - a) a 0 (by omega) (by omega) ?_
        have hk3 := dgL_le (bfM xf sz) a (sz - a) a 0
        generalize hdd : dgL (bfM xf sz) a (sz - a) a 0 = dg at hk3 ⊢
        obtain ⟨e, v⟩ := dg
        dsimp only at hk3 ⊢
        refine g_aload_n C 0 rfl d_Mo_next_322 ?_
        refine g_aload_n C 0 rfl d_Mo_next_323 ?_
        refine g_get C 0 rfl rfl in_Mo 12 (by decide) kw_1032 rfl d_Mo_next_324 ?_
        refine g_aload_n C 0 rfl d_Mo_next_327 ?_
        refine g_get C 0 rfl rfl in_Mo 11 (by decide) kw_1031 rfl d_Mo_next_328 ?_
        refine g_isub C d_Mo_next_331 ?_
        refine g_eq (st1 := [.int (nI (e - a)), .ref h]) (congrArg (fun z => Value.int z :: [.ref h]) (pk_sub (by omega))) rfl ?_
        refine g_iconst (v := 4) C rfl d_Mo_next_332 ?_
        refine g_icmp_gt C d_Mo_next_333 (fun c_7 => ?_) (fun c_7 => ?_)
        · skip
          have n_7 : 4 < e - a := (nI_ltI (a := 4) (b := (e - a)) (by omega) (by omega)).mp c_7
          refine g_iconst (v := 1) C rfl d_Mo_next_350 ?_
          refine g_goto C d_Mo_next_351 ?_
          refine g_put (X1 := [(h, .inr (13, [.ref r0, .ref r1, .ref r2, .int mn, .int dt, .ref r5, .ref r6, .int tp, .int (nI sz), .int s.2.2.2.2.2.1, .int s.2.2.2.2.2.2, .int (nI a), .int (nI e), .int 1, .int v, .long s.2.2.2.2.1, .ref r16, .ref r17, .ref r18, .ref r19, .ref r20, .ref r21, .ref r22, .ref r23, .int fl, .ref r25, .int wa, .ref r27, .ref r28, .ref r29, .ref r30, .ref r31, .int co, .ref r33, .ref r34, .ref r35, .ref r36, .ref r37, .ref r38, .ref r39, .ref r40, .int db])), (r6, .inl (g.2.1 2, 300, .inl xf))]) C 0 rfl rfl in_Mo 13 (by decide) ok_Mo nm_Mo kw_1033 rfl rfl rfl (Nat.le_of_ble_eq_true rfl) rfl d_Mo_next_355 ?_
          refine g_goto C d_Mo_next_358 ?_
          exact g_vret C rfl ⟨rfl, (by simp [nxM, hpp, c_1, Int32.not_le.mpr c_1, n_1, Nat.not_le.mpr n_1, c_2, c_3, hdd, c_7, Int32.not_le.mpr c_7, n_7, Nat.not_le.mpr n_7]), rfl⟩ (by decide) (by decide) d_Mo_next_388
        · skip
          have n_7 : e - a ≤ 4 := Nat.not_lt.mp (fun z => c_7 ((nI_ltI (a := 4) (b := (e - a)) (by omega) (by omega)).mpr z))
          refine g_aload_n C 0 rfl d_Mo_next_336 ?_
          refine g_aload_n C 0 rfl d_Mo_next_337 ?_
          refine g_get C 0 rfl rfl in_Mo 12 (by decide) kw_1032 rfl d_Mo_next_338 ?_
          refine g_callV0 (rest := [.ref h]) (Xn := [(h, .inr (13, [.ref r0, .ref r1, .ref r2, .int mn, .int dt, .ref r5, .ref r6, .int tp, .int (nI sz), .int s.2.2.2.2.2.1, .int s.2.2.2.2.2.2, .int (nI a), .int (nI e), .int s.2.2.1, .int v, .long s.2.2.2.2.1, .ref r16, .ref r17, .ref r18, .ref r19, .ref r20, .ref r21, .ref r22, .ref r23, .int fl, .ref r25, .int wa, .ref r27, .ref r28, .ref r29, .ref r30, .ref r31, .int co, .ref r33, .ref r34, .ref r35, .ref r36, .ref r37, .ref r38, .ref r39, .ref r40, .int db])), (r6, .inl (g.2.1 2, 300, .inl xf))]) C (c_Mo_sign l g h r0 r1 r2 r5 r6 r16 r17 r18 r19 r20 r21 r22 r23 r25 r27 r28 r29 r30 r31 r33 r34 r35 r36 r37 r38 r39 r40 sz mn dt tp s.2.2.2.2.2.1 s.2.2.2.2.2.2 (nI a) (nI e) s.2.2.1 v fl wa co db s.2.2.2.2.1 xf (nI e) (by first | assumption | omega | exact nI_pos (by omega)) (by first | assumption | omega | exact nI_pos (by omega))) [0, 1] [] [0, 1] rfl (by decide) (by decide) rfl mo_Mo_sign mv_Mo_sign kw_914 (by decide) (rcX 0 rfl rfl) rfl (Nat.le_of_ble_eq_true rfl) ⟨Nat.le_of_ble_eq_true rfl, Nat.le_of_ble_eq_true rfl⟩ d_Mo_next_341 ?_
          refine g_eq (st1 := [.int (bfM xf sz e), .ref h]) (congrArg (fun z => Value.int z :: [.ref h]) rfl) rfl ?_
          refine g_callS0 (rest := [.ref h]) (Xn := [(h, .inr (13, [.ref r0, .ref r1, .ref r2, .int mn, .int dt, .ref r5, .ref r6, .int tp, .int (nI sz), .int s.2.2.2.2.2.1, .int s.2.2.2.2.2.2, .int (nI a), .int (nI e), .int s.2.2.1, .int v, .long s.2.2.2.2.1, .ref r16, .ref r17, .ref r18, .ref r19, .ref r20, .ref r21, .ref r22, .ref r23, .int fl, .ref r25, .int wa, .ref r27, .ref r28, .ref r29, .ref r30, .ref r31, .int co, .ref r33, .ref r34, .ref r35, .ref r36, .ref r37, .ref r38, .ref r39, .ref r40, .int db])), (r6, .inl (g.2.1 2, 300, .inl xf))]) C (c_Mo_isLetter l g (bfM xf sz e)) [] [0, 1] [0, 1] rfl (by decide) (by decide) rfl mo_Mo_isLetter ms_Mo_isLetter kw_875 (by decide) rfl (Nat.le_of_ble_eq_true rfl) ⟨Nat.le_of_ble_eq_true rfl, Nat.le_of_ble_eq_true rfl⟩ d_Mo_next_344 ?_
          refine g_if_eq C d_Mo_next_347 (fun c_8 => ?_) (fun c_8 => ?_)
          · have c_8 := zb_0.mp c_8
            refine g_iconst (v := 4) C rfl d_Mo_next_354 ?_
            refine g_put (X1 := [(h, .inr (13, [.ref r0, .ref r1, .ref r2, .int mn, .int dt, .ref r5, .ref r6, .int tp, .int (nI sz), .int s.2.2.2.2.2.1, .int s.2.2.2.2.2.2, .int (nI a), .int (nI e), .int 4, .int v, .long s.2.2.2.2.1, .ref r16, .ref r17, .ref r18, .ref r19, .ref r20, .ref r21, .ref r22, .ref r23, .int fl, .ref r25, .int wa, .ref r27, .ref r28, .ref r29, .ref r30, .ref r31, .int co, .ref r33, .ref r34, .ref r35, .ref r36, .ref r37, .ref r38, .ref r39, .ref r40, .int db])), (r6, .inl (g.2.1 2, 300, .inl xf))]) C 0 rfl rfl in_Mo 13 (by decide) ok_Mo nm_Mo kw_1033 rfl rfl rfl (Nat.le_of_ble_eq_true rfl) rfl d_Mo_next_355 ?_
            refine g_goto C d_Mo_next_358 ?_
            exact g_vret C rfl ⟨rfl, (by simp [nxM, hpp, c_1, Int32.not_le.mpr c_1, n_1, Nat.not_le.mpr n_1, c_2, c_3, hdd, c_7, Int32.not_lt.mp c_7, n_7, Nat.not_lt.mpr n_7, c_8]), rfl⟩ (by decide) (by decide) d_Mo_next_388
          · have c_8 := zb_n0.mp c_8
            refine g_iconst (v := 1) C rfl d_Mo_next_350 ?_
            refine g_goto C d_Mo_next_351 ?_
            refine g_put (X1 := [(h, .inr (13, [.ref r0, .ref r1, .ref r2, .int mn, .int dt, .ref r5, .ref r6, .int tp, .int (nI sz), .int s.2.2.2.2.2.1, .int s.2.2.2.2.2.2, .int (nI a), .int (nI e), .int 1, .int v, .long s.2.2.2.2.1, .ref r16, .ref r17, .ref r18, .ref r19, .ref r20, .ref r21, .ref r22, .ref r23, .int fl, .ref r25, .int wa, .ref r27, .ref r28, .ref r29, .ref r30, .ref r31, .int co, .ref r33, .ref r34, .ref r35, .ref r36, .ref r37, .ref r38, .ref r39, .ref r40, .int db])), (r6, .inl (g.2.1 2, 300, .inl xf))]) C 0 rfl rfl in_Mo 13 (by decide) ok_Mo nm_Mo kw_1033 rfl rfl rfl (Nat.le_of_ble_eq_true rfl) rfl d_Mo_next_355 ?_
            refine g_goto C d_Mo_next_358 ?_
            exact g_vret C rfl ⟨rfl, (by simp [nxM, hpp, c_1, Int32.not_le.mpr c_1, n_1, Nat.not_le.mpr n_1, c_2, c_3, hdd, c_7, Int32.not_lt.mp c_7, n_7, Nat.not_lt.mpr n_7, c_8]), rfl⟩ (by decide) (by decide) d_Mo_next_388
    · have c_2 := zb_n0.mp c_2
      refine g_lv (lv1 := [(0, .ref h)]) [0] rfl ?_
      refine lp_Mo_next119 l g h r0 r1 r2 r5 r6 r16 r17 r18 r19 r20 r21 r22 r23 r25 r27 r28 r29 r30 r31 r33 r34 r35 r36 r37 r38 r39 r40 sz mn dt tp s.2.2.2.2.2.1 s.2.2.2.2.2.2 s.2.2.1 fl wa co db xf a s.2.2.2.1 s.2.2.2.2.1 hs C (sz - (a + 1)) (a + 1) (by omega) ?_
      have hk2 := ltE_le (bfM xf sz) (sz - (a + 1)) (a + 1)
      generalize hee : ltE (bfM xf sz) (sz - (a + 1)) (a + 1) = e at hk2 ⊢
      refine g_aload_n C 0 rfl d_Mo_next_146 ?_
      refine g_lconst (v := 0) C rfl d_Mo_next_147 ?_
      refine g_put (X1 := [(h, .inr (13, [.ref r0, .ref r1, .ref r2, .int mn, .int dt, .ref r5, .ref r6, .int tp, .int (nI sz), .int s.2.2.2.2.2.1, .int s.2.2.2.2.2.2, .int (nI a), .int (nI e), .int s.2.2.1, .int s.2.2.2.1, .long 0, .ref r16, .ref r17, .ref r18, .ref r19, .ref r20, .ref r21, .ref r22, .ref r23, .int fl, .ref r25, .int wa, .ref r27, .ref r28, .ref r29, .ref r30, .ref r31, .int co, .ref r33, .ref r34, .ref r35, .ref r36, .ref r37, .ref r38, .ref r39, .ref r40, .int db])), (r6, .inl (g.2.1 2, 300, .inl xf))]) C 0 rfl rfl in_Mo 15 (by decide) ok_Mo nm_Mo kw_1035 rfl rfl rfl (Nat.le_of_ble_eq_true rfl) rfl d_Mo_next_148 ?_
      refine g_aload_n C 0 rfl d_Mo_next_151 ?_
      refine g_get C 0 rfl rfl in_Mo 11 (by decide) kw_1031 rfl d_Mo_next_152 ?_
      refine g_istore_n (lv1 := [(0, .ref h), (2, .int (nI a))]) C d_Mo_next_155 [1, 0] (by decide) rfl ?_
      refine lp_Mo_next156 l g h r0 r1 r2 r5 r6 r16 r17 r18 r19 r20 r21 r22 r23 r25 r27 r28 r29 r30 r31 r33 r34 r35 r36 r37 r38 r39 r40 sz mn dt tp s.2.2.2.2.2.1 s.2.2.2.2.2.2 s.2.2.1 fl wa co db xf a e s.2.2.2.1 hs (by omega) (by omega) C (min e (a + 8) - a) a 0 (by omega) ?_
      generalize hvv : nmL (bfM xf sz) (min e (a + 8) - a) a 0 = v
      refine g_aload_n C 0 rfl d_Mo_next_199 ?_
      refine g_aload_n C 0 rfl d_Mo_next_200 ?_
      refine g_get C 0 rfl rfl in_Mo 12 (by decide) kw_1032 rfl d_Mo_next_201 ?_
      refine g_aload_n C 0 rfl d_Mo_next_204 ?_
      refine g_get C 0 rfl rfl in_Mo 11 (by decide) kw_1031 rfl d_Mo_next_205 ?_
      refine g_isub C d_Mo_next_208 ?_
      refine g_eq (st1 := [.int (nI (e - a)), .ref h]) (congrArg (fun z => Value.int z :: [.ref h]) (pk_sub (by omega))) rfl ?_
      refine g_bipush (v := 8) C rfl d_Mo_next_209 ?_
      refine g_icmp_le C d_Mo_next_211 (fun c_9 => ?_) (fun c_9 => ?_)
      · skip
        have n_9 : e - a ≤ 8 := (nI_leI (a := (e - a)) (b := 8) (by omega) (by omega)).mp c_9
        refine g_aload_n C 0 rfl d_Mo_next_218 ?_
        refine g_get C 0 rfl rfl in_Mo 15 (by decide) kw_1035 rfl d_Mo_next_219 ?_
        refine g_callS0 (rest := [.ref h]) (Xn := [(h, .inr (13, [.ref r0, .ref r1, .ref r2, .int mn, .int dt, .ref r5, .ref r6, .int tp, .int (nI sz), .int s.2.2.2.2.2.1, .int s.2.2.2.2.2.2, .int (nI a), .int (nI e), .int s.2.2.1, .int s.2.2.2.1, .long v, .ref r16, .ref r17, .ref r18, .ref r19, .ref r20, .ref r21, .ref r22, .ref r23, .int fl, .ref r25, .int wa, .ref r27, .ref r28, .ref r29, .ref r30, .ref r31, .int co, .ref r33, .ref r34, .ref r35, .ref r36, .ref r37, .ref r38, .ref r39, .ref r40, .int db])), (r6, .inl (g.2.1 2, 300, .inl xf))]) C (c_Mo_isKept l g v) [] [0, 1] [0, 1] rfl (by decide) (by decide) rfl mo_Mo_isKept ms_Mo_isKept kw_878 (by decide) rfl (Nat.le_of_ble_eq_true rfl) ⟨Nat.le_of_ble_eq_true rfl, Nat.le_of_ble_eq_true rfl⟩ d_Mo_next_222 ?_
        refine g_if_eq C d_Mo_next_225 (fun c_10 => ?_) (fun c_10 => ?_)
        · have c_10 := zb_0.mp c_10
          refine g_iconst (v := 2) C rfl d_Mo_next_232 ?_
          refine g_put (X1 := [(h, .inr (13, [.ref r0, .ref r1, .ref r2, .int mn, .int dt, .ref r5, .ref r6, .int tp, .int (nI sz), .int s.2.2.2.2.2.1, .int s.2.2.2.2.2.2, .int (nI a), .int (nI e), .int 2, .int s.2.2.2.1, .long v, .ref r16, .ref r17, .ref r18, .ref r19, .ref r20, .ref r21, .ref r22, .ref r23, .int fl, .ref r25, .int wa, .ref r27, .ref r28, .ref r29, .ref r30, .ref r31, .int co, .ref r33, .ref r34, .ref r35, .ref r36, .ref r37, .ref r38, .ref r39, .ref r40, .int db])), (r6, .inl (g.2.1 2, 300, .inl xf))]) C 0 rfl rfl in_Mo 13 (by decide) ok_Mo nm_Mo kw_1033 rfl rfl rfl (Nat.le_of_ble_eq_true rfl) rfl d_Mo_next_233 ?_
          refine g_goto C d_Mo_next_236 ?_
          exact g_vret C rfl ⟨rfl, (by simp [nxM, hpp, c_1, Int32.not_le.mpr c_1, n_1, Nat.not_le.mpr n_1, c_2, hee, hvv, c_9, Int32.not_lt.mpr c_9, n_9, Nat.not_lt.mpr n_9, c_10]), rfl⟩ (by decide) (by decide) d_Mo_next_388
        · have c_10 := zb_n0.mp c_10
          refine g_iconst (v := 3) C rfl d_Mo_next_228 ?_
          refine g_goto C d_Mo_next_229 ?_
          refine g_put (X1 := [(h, .inr (13, [.ref r0, .ref r1, .ref r2, .int mn, .int dt, .ref r5, .ref r6, .int tp, .int (nI sz), .int s.2.2.2.2.2.1, .int s.2.2.2.2.2.2, .int (nI a), .int (nI e), .int 3, .int s.2.2.2.1, .long v, .ref r16, .ref r17, .ref r18, .ref r19, .ref r20, .ref r21, .ref r22, .ref r23, .int fl, .ref r25, .int wa, .ref r27, .ref r28, .ref r29, .ref r30, .ref r31, .int co, .ref r33, .ref r34, .ref r35, .ref r36, .ref r37, .ref r38, .ref r39, .ref r40, .int db])), (r6, .inl (g.2.1 2, 300, .inl xf))]) C 0 rfl rfl in_Mo 13 (by decide) ok_Mo nm_Mo kw_1033 rfl rfl rfl (Nat.le_of_ble_eq_true rfl) rfl d_Mo_next_233 ?_
          refine g_goto C d_Mo_next_236 ?_
          exact g_vret C rfl ⟨rfl, (by simp [nxM, hpp, c_1, Int32.not_le.mpr c_1, n_1, Nat.not_le.mpr n_1, c_2, hee, hvv, c_9, Int32.not_lt.mpr c_9, n_9, Nat.not_lt.mpr n_9, c_10]), rfl⟩ (by decide) (by decide) d_Mo_next_388
      · skip
        have n_9 : 8 < e - a := Nat.not_le.mp (fun z => c_9 ((nI_leI (a := (e - a)) (b := 8) (by omega) (by omega)).mpr z))
        refine g_iconst (v := 1) C rfl d_Mo_next_214 ?_
        refine g_goto C d_Mo_next_215 ?_
        refine g_put (X1 := [(h, .inr (13, [.ref r0, .ref r1, .ref r2, .int mn, .int dt, .ref r5, .ref r6, .int tp, .int (nI sz), .int s.2.2.2.2.2.1, .int s.2.2.2.2.2.2, .int (nI a), .int (nI e), .int 1, .int s.2.2.2.1, .long v, .ref r16, .ref r17, .ref r18, .ref r19, .ref r20, .ref r21, .ref r22, .ref r23, .int fl, .ref r25, .int wa, .ref r27, .ref r28, .ref r29, .ref r30, .ref r31, .int co, .ref r33, .ref r34, .ref r35, .ref r36, .ref r37, .ref r38, .ref r39, .ref r40, .int db])), (r6, .inl (g.2.1 2, 300, .inl xf))]) C 0 rfl rfl in_Mo 13 (by decide) ok_Mo nm_Mo kw_1033 rfl rfl rfl (Nat.le_of_ble_eq_true rfl) rfl d_Mo_next_233 ?_
        refine g_goto C d_Mo_next_236 ?_
        exact g_vret C rfl ⟨rfl, (by simp [nxM, hpp, c_1, Int32.not_le.mpr c_1, n_1, Nat.not_le.mpr n_1, c_2, hee, hvv, c_9, Int32.not_le.mp c_9, n_9, Nat.not_le.mpr n_9]), rfl⟩ (by decide) (by decide) d_Mo_next_388
  · skip
    have n_1 : sz ≤ a := Nat.not_lt.mp (fun z => c_1 ((nI_ltI (a := a) (b := sz) (by omega) (by omega)).mpr z))
    refine g_aload_n C 0 rfl d_Mo_next_88 ?_
    refine g_iconst (v := 0) C rfl d_Mo_next_89 ?_
    refine g_put (X1 := [(h, .inr (13, [.ref r0, .ref r1, .ref r2, .int mn, .int dt, .ref r5, .ref r6, .int tp, .int (nI sz), .int s.2.2.2.2.2.1, .int s.2.2.2.2.2.2, .int (nI a), .int (nI (a + 1)), .int 0, .int s.2.2.2.1, .long s.2.2.2.2.1, .ref r16, .ref r17, .ref r18, .ref r19, .ref r20, .ref r21, .ref r22, .ref r23, .int fl, .ref r25, .int wa, .ref r27, .ref r28, .ref r29, .ref r30, .ref r31, .int co, .ref r33, .ref r34, .ref r35, .ref r36, .ref r37, .ref r38, .ref r39, .ref r40, .int db])), (r6, .inl (g.2.1 2, 300, .inl xf))]) C 0 rfl rfl in_Mo 13 (by decide) ok_Mo nm_Mo kw_1033 rfl rfl rfl (Nat.le_of_ble_eq_true rfl) rfl d_Mo_next_90 ?_
    refine g_aload_n C 0 rfl d_Mo_next_93 ?_
    refine g_aload_n C 0 rfl d_Mo_next_94 ?_
    refine g_get C 0 rfl rfl in_Mo 8 (by decide) kw_1028 rfl d_Mo_next_95 ?_
    refine g_put (X1 := [(h, .inr (13, [.ref r0, .ref r1, .ref r2, .int mn, .int dt, .ref r5, .ref r6, .int tp, .int (nI sz), .int s.2.2.2.2.2.1, .int s.2.2.2.2.2.2, .int (nI sz), .int (nI (a + 1)), .int 0, .int s.2.2.2.1, .long s.2.2.2.2.1, .ref r16, .ref r17, .ref r18, .ref r19, .ref r20, .ref r21, .ref r22, .ref r23, .int fl, .ref r25, .int wa, .ref r27, .ref r28, .ref r29, .ref r30, .ref r31, .int co, .ref r33, .ref r34, .ref r35, .ref r36, .ref r37, .ref r38, .ref r39, .ref r40, .int db])), (r6, .inl (g.2.1 2, 300, .inl xf))]) C 0 rfl rfl in_Mo 11 (by decide) ok_Mo nm_Mo kw_1031 rfl rfl rfl (Nat.le_of_ble_eq_true rfl) rfl d_Mo_next_98 ?_
    refine g_aload_n C 0 rfl d_Mo_next_101 ?_
    refine g_aload_n C 0 rfl d_Mo_next_102 ?_
    refine g_get C 0 rfl rfl in_Mo 8 (by decide) kw_1028 rfl d_Mo_next_103 ?_
    refine g_put (X1 := [(h, .inr (13, [.ref r0, .ref r1, .ref r2, .int mn, .int dt, .ref r5, .ref r6, .int tp, .int (nI sz), .int s.2.2.2.2.2.1, .int s.2.2.2.2.2.2, .int (nI sz), .int (nI sz), .int 0, .int s.2.2.2.1, .long s.2.2.2.2.1, .ref r16, .ref r17, .ref r18, .ref r19, .ref r20, .ref r21, .ref r22, .ref r23, .int fl, .ref r25, .int wa, .ref r27, .ref r28, .ref r29, .ref r30, .ref r31, .int co, .ref r33, .ref r34, .ref r35, .ref r36, .ref r37, .ref r38, .ref r39, .ref r40, .int db])), (r6, .inl (g.2.1 2, 300, .inl xf))]) C 0 rfl rfl in_Mo 12 (by decide) ok_Mo nm_Mo kw_1032 rfl rfl rfl (Nat.le_of_ble_eq_true rfl) rfl d_Mo_next_106 ?_
    refine g_goto C d_Mo_next_109 ?_
    exact g_vret C rfl ⟨rfl, (by simp [nxM, hpp, c_1, Int32.not_lt.mp c_1, n_1, Nat.not_lt.mpr n_1]), rfl⟩ (by decide) (by decide) d_Mo_next_388

