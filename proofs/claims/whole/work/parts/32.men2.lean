theorem inB_vp {x : Int32} {n : Nat} (N : Nat) (h : inB x (nI n) = true) (hn : n ≤ N) (hN : N < 2 ^ 31) : vp_in x N := by
  have h1 := of_decide_eq_true h
  rcases pk_ix x (n := n) (by omega) with q | q | ⟨j, q1, q2⟩
  · exact absurd q h1.1
  · exact absurd q h1.2
  · rw [q2]; exact vp_in_nI (by omega) hN
theorem inB_iff {x : Int32} {n : Nat} (hn : n < 2 ^ 31) : inB x (nI n) = true ↔ ∃ j, j < n ∧ x = nI j := by
  constructor
  · intro h
    have h1 := of_decide_eq_true h
    rcases pk_ix x hn with q | q | ⟨j, q1, q2⟩
    · exact absurd q h1.1
    · exact absurd q h1.2
    · exact ⟨j, q1, q2⟩
  · rintro ⟨j, h1, rfl⟩
    exact decide_eq_true ⟨nI_pos (by omega), nI_ge h1 hn⟩
/-- the first place with this name, of this gang -/
def fndG (f : Nat → Int64) (sd : Nat → Int32) (n : Nat) (w : Int64) (gang : Int32) : Int32 := if ¬ fnd f w n 0 = (-1) ∧ sd (fnd f w n 0).toNatClampNeg = gang then fnd f w n 0 else (-1)
theorem fnd_in (f : Nat → Int64) (w : Int64) : ∀ (k i : Nat), fnd f w k i = (-1) ∨ ∃ j, i ≤ j ∧ j < i + k ∧ f j = w ∧ fnd f w k i = nI j
  | 0, i => Or.inl rfl
  | k + 1, i => by
    by_cases h : f i = w
    · exact Or.inr ⟨i, Nat.le_refl i, by omega, h, by simp [fnd, h]⟩
    · have e : fnd f w (k + 1) i = fnd f w k (i + 1) := by simp [fnd, h]
      rw [e]
      rcases fnd_in f w k (i + 1) with q | ⟨j, h1, h2, h3, h4⟩
      · exact Or.inl q
      · exact Or.inr ⟨j, by omega, by omega, h3, h4⟩
theorem fnd_vp {f : Nat → Int64} {w : Int64} {n : Nat} (hn : n ≤ 12) (h : ¬ fnd f w n 0 = (-1)) : vp_in (fnd f w n 0) 12 := by
  rcases fnd_in f w n 0 with q | ⟨j, h1, h2, h3, h4⟩
  · exact absurd q h
  · rw [h4]; exact vp_in_nI (by omega) (by decide)
set_option maxHeartbeats 4000000 in
set_option maxRecDepth 100000 in
theorem c_Me_findInGang (l : Launch) (g : Gx) (q0 q1 q2 q3 n : Nat) (nf : Nat → Int64) (sf : Nat → Int32) (w : Int64) (p0 : Int32) (hn : n ≤ 12) : M0 l g y_Me_findInGang b_Me_findInGang 5 (some FieldType.int) ({ frames := 1, cells := 0, slots := 0, locals := 23 }) [.ref q0, .long w, .int p0] [(q0, .inr (7, [.ref q1, .ref q2, .ref q3, .int (nI n)])), (q1, .inl (g.2.1 1, 12, .inr (.inl nf))), (q2, .inl (g.2.1 0, 12, .inl sf))] (some (.int (fndG nf sf n w p0))) [(q0, .inr (7, [.ref q1, .ref q2, .ref q3, .int (nI n)])), (q1, .inl (g.2.1 1, 12, .inr (.inl nf))), (q2, .inl (g.2.1 0, 12, .inl sf))] := by
  refine MP.of (by decide) (Nat.le_of_ble_eq_true rfl) (fun κ C => ?_)
  have C : zC κ l g ({ frames := 1, cells := 0, slots := 0, locals := 23 }) b_Me_findInGang 5 "TombLane$Men" "findInGang" (some FieldType.int) _ := C
  refine g_lv (lv1 := [(0, .ref q0), (1, .long w), (3, .int p0)]) [0, 1, 2] rfl ?_
  refine g_aload_n C 0 rfl d_Me_findInGang_0 ?_
  refine g_lload_n C 1 rfl d_Me_findInGang_1 ?_
  refine g_callV0 (rest := []) (Xn := [(q0, .inr (7, [.ref q1, .ref q2, .ref q3, .int (nI n)])), (q1, .inl (g.2.1 1, 12, .inr (.inl nf))), (q2, .inl (g.2.1 0, 12, .inl sf))]) C (c_Me_find l g q0 q1 q2 q3 n nf w (by assumption)) [0, 1] [2] [1, 2, 0] rfl (by decide) (by decide) rfl mo_Me_find mv_Me_find kw_435 (by decide) (rcX 0 rfl rfl) rfl (Nat.le_of_ble_eq_true rfl) ⟨Nat.le_of_ble_eq_true rfl, Nat.le_of_ble_eq_true rfl⟩ d_Me_findInGang_2 ?_
  refine g_istore (lv1 := [(0, .ref q0), (1, .long w), (3, .int p0), (4, .int (fnd nf w n 0))]) C d_Me_findInGang_5 [1, 2, 3, 0] (by decide) rfl ?_
  refine g_iload C 3 rfl d_Me_findInGang_7 ?_
  refine g_iconst (v := (-1)) C rfl d_Me_findInGang_9 ?_
  refine g_icmp_eq C d_Me_findInGang_10 (fun c_1 => ?_) (fun c_1 => ?_)
  · skip
    refine g_iconst (v := (-1)) C rfl d_Me_findInGang_29 ?_
    exact g_iret C rfl ⟨congrArg (fun z => some (Value.int z)) (by simp [fndG, eq_true c_1]), rfl, rfl⟩ (by decide) (by decide) d_Me_findInGang_30
  · skip
    refine g_aload_n C 0 rfl d_Me_findInGang_13 ?_
    refine g_get C 0 rfl rfl in_Me 1 (by decide) kw_115 rfl d_Me_findInGang_14 ?_
    refine g_iload C 3 rfl d_Me_findInGang_17 ?_
    refine g_iald C 2 rfl (fnd_vp hn c_1) d_Me_findInGang_19 ?_
    refine g_iload_n C 2 rfl d_Me_findInGang_20 ?_
    refine g_icmp_ne C d_Me_findInGang_21 (fun c_2 => ?_) (fun c_2 => ?_)
    · skip
      refine g_iconst (v := (-1)) C rfl d_Me_findInGang_29 ?_
      exact g_iret C rfl ⟨congrArg (fun z => some (Value.int z)) (by simp [fndG, c_1, c_2]), rfl, rfl⟩ (by decide) (by decide) d_Me_findInGang_30
    · skip
      refine g_iload C 3 rfl d_Me_findInGang_24 ?_
      refine g_goto C d_Me_findInGang_26 ?_
      exact g_iret C rfl ⟨congrArg (fun z => some (Value.int z)) (by simp [fndG, c_1, eq_true c_2]), rfl, rfl⟩ (by decide) (by decide) d_Me_findInGang_30

/-- may this man be added -/
def manOk (f : Nat → Int64) (n : Nat) (w : Int64) : Bool := decide (0 < lto w 8 0 ∧ freC w = true ∧ n < 12 ∧ fnd f w n 0 = (-1))
set_option maxHeartbeats 4000000 in
set_option maxRecDepth 100000 in
theorem c_Me_add (l : Launch) (g : Gx) (q0 q1 q2 q3 n : Nat) (nf : Nat → Int64) (sf rf : Nat → Int32) (w : Int64) (p0 p1 : Int32) (hn : n ≤ 12) : M0 l g y_Me_add b_Me_add 6 (some FieldType.int) ({ frames := 2, cells := 0, slots := 0, locals := 44 }) [.ref q0, .long w, .int p0, .int p1] [(q0, .inr (7, [.ref q1, .ref q2, .ref q3, .int (nI n)])), (q1, .inl (g.2.1 1, 12, .inr (.inl nf))), (q2, .inl (g.2.1 0, 12, .inl sf)), (q3, .inl (g.2.1 0, 12, .inl rf))] (some (.int (if manOk nf n w then nI n else (-1)))) [(q0, .inr (7, [.ref q1, .ref q2, .ref q3, .int (nI (if manOk nf n w then n + 1 else n))])), (q1, .inl (g.2.1 1, 12, .inr (.inl (if manOk nf n w then vp_updL nf n w else nf)))), (q2, .inl (g.2.1 0, 12, .inl (if manOk nf n w then upd sf n p0 else sf))), (q3, .inl (g.2.1 0, 12, .inl (if manOk nf n w then upd rf n p1 else rf)))] := by
  refine MP.of (by decide) (Nat.le_of_ble_eq_true rfl) (fun κ C => ?_)
  have C : zC κ l g ({ frames := 2, cells := 0, slots := 0, locals := 44 }) b_Me_add 6 "TombLane$Men" "add" (some FieldType.int) _ := C
  refine g_lv (lv1 := [(0, .ref q0), (1, .long w), (3, .int p0), (4, .int p1)]) [0, 1, 2, 3] rfl ?_
  refine g_lload_n C 1 rfl d_Me_add_0 ?_
  refine g_callSN0 (rest := []) (Xn := [(q0, .inr (7, [.ref q1, .ref q2, .ref q3, .int (nI n)])), (q1, .inl (g.2.1 1, 12, .inr (.inl nf))), (q2, .inl (g.2.1 0, 12, .inl sf)), (q3, .inl (g.2.1 0, 12, .inl rf))]) C (c_TL_lettersOf l g w) [] [0, 1, 2, 3] [0, 1, 2, 3] rfl (by decide) (by decide) rfl mo_TL_lettersOf ms_TL_lettersOf kw_411 (by decide) rfl (Nat.le_of_ble_eq_true rfl) ⟨Nat.le_of_ble_eq_true rfl, Nat.le_of_ble_eq_true rfl⟩ d_Me_add_1 ?_
  refine g_if_le C d_Me_add_4 (fun c_1 => ?_) (fun c_1 => ?_)
  · skip
    refine g_iconst (v := 0) C rfl d_Me_add_18 ?_
    refine g_istore (lv1 := [(0, .ref q0), (1, .long w), (3, .int p0), (4, .int p1), (5, .int 0)]) C d_Me_add_19 [1, 2, 3, 4, 0] (by decide) rfl ?_
    refine g_iload C 4 rfl d_Me_add_21 ?_
    refine g_if_eq C d_Me_add_23 (fun _ => ?_) (fun c_2 => absurd c_2 (by decide))
    refine g_iconst (v := (-1)) C rfl d_Me_add_44 ?_
    exact g_iret C rfl ⟨congrArg (fun z => some (Value.int z)) (by simp [manOk, c_1, Int32.not_lt.mpr c_1]), (by simp [manOk, c_1, Int32.not_lt.mpr c_1]), rfl⟩ (by decide) (by decide) d_Me_add_45
  · skip
    refine g_lload_n C 1 rfl d_Me_add_7 ?_
    refine g_callSN0 (rest := []) (Xn := [(q0, .inr (7, [.ref q1, .ref q2, .ref q3, .int (nI n)])), (q1, .inl (g.2.1 1, 12, .inr (.inl nf))), (q2, .inl (g.2.1 0, 12, .inl sf)), (q3, .inl (g.2.1 0, 12, .inl rf))]) C (c_TL_isFree l g w) [] [0, 1, 2, 3] [0, 1, 2, 3] rfl (by decide) (by decide) rfl mo_TL_isFree ms_TL_isFree kw_417 (by decide) rfl (Nat.le_of_ble_eq_true rfl) ⟨Nat.le_of_ble_eq_true rfl, Nat.le_of_ble_eq_true rfl⟩ d_Me_add_8 ?_
    refine g_if_eq C d_Me_add_11 (fun c_3 => ?_) (fun c_3 => ?_)
    · have c_3 := zb_0.mp c_3
      refine g_iconst (v := 0) C rfl d_Me_add_18 ?_
      refine g_istore (lv1 := [(0, .ref q0), (1, .long w), (3, .int p0), (4, .int p1), (5, .int 0)]) C d_Me_add_19 [1, 2, 3, 4, 0] (by decide) rfl ?_
      refine g_iload C 4 rfl d_Me_add_21 ?_
      refine g_if_eq C d_Me_add_23 (fun _ => ?_) (fun c_4 => absurd c_4 (by decide))
      refine g_iconst (v := (-1)) C rfl d_Me_add_44 ?_
      exact g_iret C rfl ⟨congrArg (fun z => some (Value.int z)) (by simp [manOk, c_1, Int32.not_le.mp c_1, c_3]), (by simp [manOk, c_1, Int32.not_le.mp c_1, c_3]), rfl⟩ (by decide) (by decide) d_Me_add_45
    · have c_3 := zb_n0.mp c_3
      refine g_iconst (v := 1) C rfl d_Me_add_14 ?_
      refine g_goto C d_Me_add_15 ?_
      refine g_istore (lv1 := [(0, .ref q0), (1, .long w), (3, .int p0), (4, .int p1), (5, .int 1)]) C d_Me_add_19 [1, 2, 3, 4, 0] (by decide) rfl ?_
      refine g_iload C 4 rfl d_Me_add_21 ?_
      refine g_if_eq C d_Me_add_23 (fun c_5 => absurd c_5 (by decide)) (fun _ => ?_)
      refine g_aload_n C 0 rfl d_Me_add_26 ?_
      refine g_get C 0 rfl rfl in_Me 3 (by decide) kw_121 rfl d_Me_add_27 ?_
      refine g_bipush (v := 12) C rfl d_Me_add_30 ?_
      refine g_icmp_ge C d_Me_add_32 (fun c_6 => ?_) (fun c_6 => ?_)
      · skip
        have n_6 : 12 ≤ n := (nI_leI (a := 12) (b := n) (by omega) (by omega)).mp c_6
        refine g_iconst (v := (-1)) C rfl d_Me_add_44 ?_
        exact g_iret C rfl ⟨congrArg (fun z => some (Value.int z)) (by simp [manOk, c_1, Int32.not_le.mp c_1, c_3, c_6, Int32.not_lt.mpr c_6, n_6, Nat.not_lt.mpr n_6]), (by simp [manOk, c_1, Int32.not_le.mp c_1, c_3, c_6, Int32.not_lt.mpr c_6, n_6, Nat.not_lt.mpr n_6]), rfl⟩ (by decide) (by decide) d_Me_add_45
      · skip
        have n_6 : n < 12 := Nat.not_le.mp (fun z => c_6 ((nI_leI (a := 12) (b := n) (by omega) (by omega)).mpr z))
        refine g_aload_n C 0 rfl d_Me_add_35 ?_
        refine g_lload_n C 1 rfl d_Me_add_36 ?_
        refine g_callV0 (rest := []) (Xn := [(q0, .inr (7, [.ref q1, .ref q2, .ref q3, .int (nI n)])), (q1, .inl (g.2.1 1, 12, .inr (.inl nf))), (q2, .inl (g.2.1 0, 12, .inl sf)), (q3, .inl (g.2.1 0, 12, .inl rf))]) C (c_Me_find l g q0 q1 q2 q3 n nf w (by assumption)) [0, 1] [2, 3] [2, 3, 0, 1] rfl (by decide) (by decide) rfl mo_Me_find mv_Me_find kw_435 (by decide) (rcX 0 rfl rfl) rfl (Nat.le_of_ble_eq_true rfl) ⟨Nat.le_of_ble_eq_true rfl, Nat.le_of_ble_eq_true rfl⟩ d_Me_add_37 ?_
        refine g_iconst (v := (-1)) C rfl d_Me_add_40 ?_
        refine g_icmp_eq C d_Me_add_41 (fun c_7 => ?_) (fun c_7 => ?_)
        · skip
          refine g_aload_n C 0 rfl d_Me_add_46 ?_
          refine g_get C 0 rfl rfl in_Me 0 (by decide) kw_113 rfl d_Me_add_47 ?_
          refine g_aload_n C 0 rfl d_Me_add_50 ?_
          refine g_get C 0 rfl rfl in_Me 3 (by decide) kw_121 rfl d_Me_add_51 ?_
          refine g_lload_n C 1 rfl d_Me_add_54 ?_
          refine g_last (X1 := [(q0, .inr (7, [.ref q1, .ref q2, .ref q3, .int (nI n)])), (q1, .inl (g.2.1 1, 12, .inr (.inl (vp_updL nf (Int32.toNatClampNeg (nI n)) w)))), (q2, .inl (g.2.1 0, 12, .inl sf)), (q3, .inl (g.2.1 0, 12, .inl rf))]) C 1 rfl (vp_in_nI (by omega) (by decide)) rfl d_Me_add_55 ?_
          refine g_eq (X1 := [(q0, .inr (7, [.ref q1, .ref q2, .ref q3, .int (nI n)])), (q1, .inl (g.2.1 1, 12, .inr (.inl (vp_updL nf n w)))), (q2, .inl (g.2.1 0, 12, .inl sf)), (q3, .inl (g.2.1 0, 12, .inl rf))]) rfl (by rw [nI_clamp (by omega)]) ?_
          refine g_aload_n C 0 rfl d_Me_add_56 ?_
          refine g_get C 0 rfl rfl in_Me 1 (by decide) kw_115 rfl d_Me_add_57 ?_
          refine g_aload_n C 0 rfl d_Me_add_60 ?_
          refine g_get C 0 rfl rfl in_Me 3 (by decide) kw_121 rfl d_Me_add_61 ?_
          refine g_iload_n C 2 rfl d_Me_add_64 ?_
          refine g_iast (X1 := [(q0, .inr (7, [.ref q1, .ref q2, .ref q3, .int (nI n)])), (q1, .inl (g.2.1 1, 12, .inr (.inl (vp_updL nf n w)))), (q2, .inl (g.2.1 0, 12, .inl (upd sf (Int32.toNatClampNeg (nI n)) p0))), (q3, .inl (g.2.1 0, 12, .inl rf))]) C 2 rfl (vp_in_nI (by omega) (by decide)) rfl d_Me_add_65 ?_
          refine g_eq (X1 := [(q0, .inr (7, [.ref q1, .ref q2, .ref q3, .int (nI n)])), (q1, .inl (g.2.1 1, 12, .inr (.inl (vp_updL nf n w)))), (q2, .inl (g.2.1 0, 12, .inl (upd sf n p0))), (q3, .inl (g.2.1 0, 12, .inl rf))]) rfl (by rw [nI_clamp (by omega)]) ?_
          refine g_aload_n C 0 rfl d_Me_add_66 ?_
          refine g_get C 0 rfl rfl in_Me 2 (by decide) kw_118 rfl d_Me_add_67 ?_
          refine g_aload_n C 0 rfl d_Me_add_70 ?_
          refine g_get C 0 rfl rfl in_Me 3 (by decide) kw_121 rfl d_Me_add_71 ?_
          refine g_iload C 3 rfl d_Me_add_74 ?_
          refine g_iast (X1 := [(q0, .inr (7, [.ref q1, .ref q2, .ref q3, .int (nI n)])), (q1, .inl (g.2.1 1, 12, .inr (.inl (vp_updL nf n w)))), (q2, .inl (g.2.1 0, 12, .inl (upd sf n p0))), (q3, .inl (g.2.1 0, 12, .inl (upd rf (Int32.toNatClampNeg (nI n)) p1)))]) C 3 rfl (vp_in_nI (by omega) (by decide)) rfl d_Me_add_76 ?_
          refine g_eq (X1 := [(q0, .inr (7, [.ref q1, .ref q2, .ref q3, .int (nI n)])), (q1, .inl (g.2.1 1, 12, .inr (.inl (vp_updL nf n w)))), (q2, .inl (g.2.1 0, 12, .inl (upd sf n p0))), (q3, .inl (g.2.1 0, 12, .inl (upd rf n p1)))]) rfl (by rw [nI_clamp (by omega)]) ?_
          refine g_aload_n C 0 rfl d_Me_add_77 ?_
          refine g_dup C rfl d_Me_add_78 ?_
          refine g_get C 0 rfl rfl in_Me 3 (by decide) kw_121 rfl d_Me_add_79 ?_
          refine g_iconst (v := 1) C rfl d_Me_add_82 ?_
          refine g_iadd C d_Me_add_83 ?_
          refine g_eq (st1 := [.int (nI (n + 1)), .ref q0]) (congrArg (fun z => Value.int z :: [.ref q0]) (nI_add n 1)) rfl ?_
          refine g_put (X1 := [(q0, .inr (7, [.ref q1, .ref q2, .ref q3, .int (nI (n + 1))])), (q1, .inl (g.2.1 1, 12, .inr (.inl (vp_updL nf n w)))), (q2, .inl (g.2.1 0, 12, .inl (upd sf n p0))), (q3, .inl (g.2.1 0, 12, .inl (upd rf n p1)))]) C 0 rfl rfl in_Me 3 (by decide) ok_Me nm_Me kw_121 rfl rfl rfl (Nat.le_of_ble_eq_true rfl) rfl d_Me_add_84 ?_
          refine g_aload_n C 0 rfl d_Me_add_87 ?_
          refine g_get C 0 rfl rfl in_Me 3 (by decide) kw_121 rfl d_Me_add_88 ?_
          refine g_iconst (v := 1) C rfl d_Me_add_91 ?_
          refine g_isub C d_Me_add_92 ?_
          refine g_eq (st1 := [.int (nI n)]) (congrArg (fun z => Value.int z :: []) (nI_pred n)) rfl ?_
          exact g_iret C rfl ⟨congrArg (fun z => some (Value.int z)) (by simp [manOk, c_1, Int32.not_le.mp c_1, c_3, c_6, Int32.not_le.mp c_6, n_6, Nat.not_le.mpr n_6, eq_true c_7]), (by simp [manOk, c_1, Int32.not_le.mp c_1, c_3, c_6, Int32.not_le.mp c_6, n_6, Nat.not_le.mpr n_6, eq_true c_7]), rfl⟩ (by decide) (by decide) d_Me_add_93
        · skip
          refine g_iconst (v := (-1)) C rfl d_Me_add_44 ?_
          exact g_iret C rfl ⟨congrArg (fun z => some (Value.int z)) (by simp [manOk, c_1, Int32.not_le.mp c_1, c_3, c_6, Int32.not_le.mp c_6, n_6, Nat.not_le.mpr n_6, c_7]), (by simp [manOk, c_1, Int32.not_le.mp c_1, c_3, c_6, Int32.not_le.mp c_6, n_6, Nat.not_le.mpr n_6, c_7]), rfl⟩ (by decide) (by decide) d_Me_add_45

